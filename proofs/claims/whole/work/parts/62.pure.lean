/-! pure: bursts, read only -/
theorem pz_m1 {q : Int32} {n : Nat} (hn : n ≤ 100) : F_X7_in q 0 (nI n - 1) = if q < 0 then 0 else if nI n ≤ q then 0 else 1 := by
  rw [pz_in]
  by_cases h1 : q < 0
  · rw [if_pos h1, if_pos h1]
  · rw [if_neg h1, if_neg h1]
    obtain ⟨j, hj, e⟩ := nI_of h1
    subst e
    cases n with
    | zero =>
      rw [if_pos (show nI 0 - 1 < nI j by
        rw [Int32.lt_iff_toInt_lt, nI_toInt hj]
        show (-1 : Int) < j
        omega), if_pos (by rw [nI_leI (by omega) hj]; omega)]
    | succ n =>
      rw [nI_pred]
      by_cases h2 : n < j
      · rw [if_pos (by rw [nI_ltI (by omega) hj]; exact h2), if_pos (by rw [nI_leI (by omega) hj]; omega)]
      · rw [if_neg (by rw [nI_ltI (by omega) hj]; exact h2), if_neg (by rw [nI_leI (by omega) hj]; omega)]
theorem pz_cases {q : Int32} (n : Nat) (hn : n ≤ 2000) : (∃ b : Nat, b < n ∧ q = nI b) ∨ q < 0 ∨ (¬ q < 0 ∧ nI n ≤ q) := by
  by_cases h1 : q < 0
  · exact .inr (.inl h1)
  · obtain ⟨j, hj, e⟩ := nI_of h1
    rcases Nat.lt_or_ge j n with h2 | h2
    · exact .inl ⟨j, h2, e⟩
    · exact .inr (.inr ⟨h1, by rw [e, nI_leI (by omega) hj]; exact h2⟩)
theorem RN.n {n : Nat} {C M : CS} (h : RN n C M) : n ≤ 100 := h.1
theorem RN.c5 {n : Nat} {C M : CS} (h : RN n C M) : C.2.1 5 = nI n := h.2.1.1
theorem RN.c6 {n : Nat} {C M : CS} (h : RN n C M) : C.2.1 6 = nI n := h.2.1.2.1
theorem RN.m4 {n : Nat} {C M : CS} (h : RN n C M) : M.1 0 400 = nI n := h.2.1.2.2.1
theorem RN.m14 {n : Nat} {C M : CS} (h : RN n C M) : M.1 0 1401 = nI n := h.2.1.2.2.2.1
theorem RN.gap {n : Nat} {C M : CS} (h : RN n C M) {k : Nat} (hk : k < 8) : C.1 0 k = M.1 0 (1402 + k) ∧ rng (M.1 0 (1402 + k)) 1 50 := h.2.1.2.2.2.2.1 k hk
theorem RN.fold {n : Nat} {C M : CS} (h : RN n C M) {k : Nat} (hk : k < 8) : C.1 1 k = M.1 0 (1410 + k) ∧ rng (M.1 0 (1410 + k)) 0 3 := h.2.1.2.2.2.2.2.1 k hk
theorem RN.lat {n : Nat} {C M : CS} (h : RN n C M) : C.2.1 0 = M.1 0 1419 ∧ rng (M.1 0 1419) 0 100 := ⟨h.2.1.2.2.2.2.2.2.1, h.2.1.2.2.2.2.2.2.2.1⟩
theorem RN.tri {n : Nat} {C M : CS} (h : RN n C M) : C.2.1 1 = M.1 0 1420 ∧ rng (M.1 0 1420) 0 10 := ⟨h.2.1.2.2.2.2.2.2.2.2.1, h.2.1.2.2.2.2.2.2.2.2.2.1⟩
theorem RN.mark {n : Nat} {C M : CS} (h : RN n C M) : C.2.1 2 = M.1 0 1418 ∧ rng (M.1 0 1418) 0 20000 := ⟨h.2.1.2.2.2.2.2.2.2.2.2.2.1, h.2.1.2.2.2.2.2.2.2.2.2.2.2.1⟩
theorem RN.late {n : Nat} {C M : CS} (h : RN n C M) : C.2.1 3 = M.1 0 1421 := h.2.1.2.2.2.2.2.2.2.2.2.2.2.2.1
theorem RN.mrg {n : Nat} {C M : CS} (h : RN n C M) : C.2.1 4 = M.1 0 1422 := h.2.1.2.2.2.2.2.2.2.2.2.2.2.2.2.1
theorem RN.bal {n : Nat} {C M : CS} (h : RN n C M) : C.2.2 0 = M.2.2 0 := h.2.1.2.2.2.2.2.2.2.2.2.2.2.2.2.2
theorem RN.bu {n : Nat} {C M : CS} (h : RN n C M) {b : Nat} (hb : b < n) : RB1 C.1 (M.1 0) b := h.2.2.1 b hb
theorem RN.key {n : Nat} {C M : CS} (h : RN n C M) {b : Nat} (hb : b < n) : C.1 5 b = mB (M.1 0) b 1 := (h.bu hb).1
theorem RN.keyr {n : Nat} {C M : CS} (h : RN n C M) {b : Nat} (hb : b < n) : ∃ k : Nat, k < 8 ∧ mB (M.1 0) b 1 = nI k := by
  obtain ⟨k, _, h2, h3⟩ := (h.bu hb).2.1
  exact ⟨k, by omega, h3⟩
theorem RN.fi {n : Nat} {C M : CS} (h : RN n C M) {b : Nat} (hb : b < n) : C.1 6 b = mB (M.1 0) b 2 := (h.bu hb).2.2.1
theorem RN.fir {n : Nat} {C M : CS} (h : RN n C M) {b : Nat} (hb : b < n) : rng (mB (M.1 0) b 2) 0 9999 := (h.bu hb).2.2.2.1
theorem RN.la {n : Nat} {C M : CS} (h : RN n C M) {b : Nat} (hb : b < n) : C.1 7 b = mB (M.1 0) b 3 := (h.bu hb).2.2.2.2.1
theorem RN.lar {n : Nat} {C M : CS} (h : RN n C M) {b : Nat} (hb : b < n) : rng (mB (M.1 0) b 3) 0 9999 := (h.bu hb).2.2.2.2.2.1
theorem RN.fg {n : Nat} {C M : CS} (h : RN n C M) {b : Nat} (hb : b < n) : C.1 9 b = mB (M.1 0) b 9 := (h.bu hb).2.2.2.2.2.2.1
theorem RN.fd {n : Nat} {C M : CS} (h : RN n C M) {b : Nat} (hb : b < n) : C.1 10 b = mB (M.1 0) b 5 := (h.bu hb).2.2.2.2.2.2.2.1
theorem RN.fdr {n : Nat} {C M : CS} (h : RN n C M) {b : Nat} (hb : b < n) : C.1 10 b = 0 ∨ C.1 10 b = 1 := (h.bu hb).2.2.2.2.2.2.2.2.1
theorem RN.old {n : Nat} {C M : CS} (h : RN n C M) {b : Nat} (hb : b < n) (hf : C.1 10 b = 1) : C.1 11 b = mB (M.1 0) b 6 ∧ C.1 12 b = mB (M.1 0) b 7 ∧ C.1 13 b = mB (M.1 0) b 8 := (h.bu hb).2.2.2.2.2.2.2.2.2.1 hf
theorem RN.ph {n : Nat} {C M : CS} (h : RN n C M) {b : Nat} (hb : b < n) : (C.1 8 b = 0 ∧ mB (M.1 0) b 0 = 1 ∧ mB (M.1 0) b 4 = 0) ∨ (C.1 8 b = 1 ∧ mB (M.1 0) b 0 = 1 ∧ mB (M.1 0) b 4 = 1) ∨ (C.1 8 b = 2 ∧ mB (M.1 0) b 0 = 0 ∧ mB (M.1 0) b 4 = 0 ∧ C.1 10 b = 0) := (h.bu hb).2.2.2.2.2.2.2.2.2.2
def stB (g : Nat → Int32) (b : Nat) : Bool := decide (mB g b 0 = 1)
def opB (g : Nat → Int32) (b : Nat) : Bool := decide (mB g b 0 = 1 ∧ mB g b 4 = 0)
theorem pz_i10 : ¬ (1 : Int32) = 0 := by decide
theorem pz_i20 : ¬ (2 : Int32) = 0 := by decide
theorem pz_i21 : ¬ (2 : Int32) = 1 := by decide
theorem pz_i12 : ¬ (1 : Int32) = 2 := by decide
theorem pz_i01 : ¬ (0 : Int32) = 1 := by decide
theorem pz_i02 : ¬ (0 : Int32) = 2 := by decide
theorem pz_isB {M : CS} {n b : Nat} (h4 : M.1 0 1401 = nI n) (hn : n ≤ 100) (hb : b < n) : F_X7_isBurst M (nI b) = if stB (M.1 0) b then 1 else 0 := by
  unfold F_X7_isBurst stB
  rw [h4, pz_m1 hn, if_neg (pz_nlt0 (by omega)), if_neg (pz_ge hb (by omega))]
  simp only [pz_bnd, if_neg pz_i10, pz_of0 (show b < 100 by omega), decide_eq_true_eq]
theorem pz_isBo {M : CS} {n : Nat} {q : Int32} (h4 : M.1 0 1401 = nI n) (hn : n ≤ 100) (h : q < 0 ∨ (¬ q < 0 ∧ nI n ≤ q)) : F_X7_isBurst M q = 0 := by
  unfold F_X7_isBurst
  rw [h4, pz_m1 hn]
  rcases h with h | h
  · rw [if_pos h]; rfl
  · rw [if_neg h.1, if_pos h.2]; rfl
theorem pz_isBS {M : CS} {n : Nat} {q : Int32} (h4 : M.1 0 1401 = nI n) (hn : n ≤ 100) : S_X7_isBurst M q := by
  unfold S_X7_isBurst
  rw [h4, pz_m1 hn]
  rcases pz_cases (q := q) n (by omega) with ⟨b, hb, e⟩ | h | h
  · subst e
    rw [if_neg (pz_nlt0 (by omega)), if_neg (pz_ge hb (by omega))]
    simp only [pz_bnd, if_neg pz_i10]
    exact ⟨pz_oS0 (by omega), trivial⟩
  · rw [if_pos h]; exact trivial
  · rw [if_neg h.1, if_pos h.2]; exact trivial
theorem pz_isO {M : CS} {n b : Nat} (h4 : M.1 0 1401 = nI n) (hn : n ≤ 100) (hb : b < n) : F_X7_isOpen M (nI b) = if opB (M.1 0) b then 1 else 0 := by
  unfold F_X7_isOpen
  rw [pz_isB h4 hn hb]
  unfold opB stB
  simp only [pz_bnd, pz_of4 (show b < 100 by omega), decide_eq_true_eq]
  by_cases h1 : mB (M.1 0) b 0 = 1
  · simp [h1, pz_i10]
  · simp [h1]
theorem pz_isOo {M : CS} {n : Nat} {q : Int32} (h4 : M.1 0 1401 = nI n) (hn : n ≤ 100) (h : q < 0 ∨ (¬ q < 0 ∧ nI n ≤ q)) : F_X7_isOpen M q = 0 := by
  unfold F_X7_isOpen
  rw [pz_isBo h4 hn h]
  rfl
theorem pz_isOS {M : CS} {n : Nat} {q : Int32} (h4 : M.1 0 1401 = nI n) (hn : n ≤ 100) : S_X7_isOpen M q := by
  unfold S_X7_isOpen
  refine ⟨pz_isBS h4 hn, ?_⟩
  rcases pz_cases (q := q) n (by omega) with ⟨b, hb, e⟩ | h
  · subst e
    simp only [pz_bnd]
    split
    · exact trivial
    · exact ⟨pz_oS4 (by omega), trivial⟩
  · rw [pz_isBo h4 hn h]
    exact trivial
theorem RN.stE {n : Nat} {C M : CS} (h : RN n C M) {b : Nat} (hb : b < n) : F_X0_stands C (nI b) = if stB (M.1 0) b then 1 else 0 := by
  have hn := h.n
  unfold F_X0_stands stB
  rw [if_neg (pz_nlt0 (by omega)), h.c6, if_neg (pz_ge hb (by omega)), pz_bnd, pz_rAt _ (by omega) (by omega)]
  simp only [decide_eq_true_eq]
  rcases h.ph hb with ⟨h1, h2, h3⟩ | ⟨h1, h2, h3⟩ | ⟨h1, h2, h3, _⟩
  · rw [h1, if_neg pz_i02, h2]; rfl
  · rw [h1, if_neg pz_i12, h2]; rfl
  · rw [h1, h2]; rfl
theorem RN.stO {n : Nat} {C M : CS} (h : RN n C M) {q : Int32} (hq : q < 0 ∨ (¬ q < 0 ∧ nI n ≤ q)) : F_X0_stands C q = 0 := by
  unfold F_X0_stands
  rw [h.c6]
  rcases hq with hq | hq
  · rw [if_pos hq]
  · rw [if_neg hq.1, if_pos hq.2]
theorem RN.opE {n : Nat} {C M : CS} (h : RN n C M) {b : Nat} (hb : b < n) : F_X0_isOpen C (nI b) = if opB (M.1 0) b then 1 else 0 := by
  have hn := h.n
  unfold F_X0_isOpen opB
  rw [if_neg (pz_nlt0 (by omega)), h.c6, if_neg (pz_ge hb (by omega)), pz_bnd, pz_rAt _ (by omega) (by omega)]
  rcases h.ph hb with ⟨h1, h2, h3⟩ | ⟨h1, h2, h3⟩ | ⟨h1, h2, h3, _⟩
  · simp [h1, h2, h3]
  · simp [h1, h2, h3]
  · simp [h1, h2, h3]
theorem RN.opO {n : Nat} {C M : CS} (h : RN n C M) {q : Int32} (hq : q < 0 ∨ (¬ q < 0 ∧ nI n ≤ q)) : F_X0_isOpen C q = 0 := by
  unfold F_X0_isOpen
  rw [h.c6]
  rcases hq with hq | hq
  · rw [if_pos hq]
  · rw [if_neg hq.1, if_pos hq.2]
theorem RN.st {n : Nat} {C M : CS} (h : RN n C M) (q : Int32) : F_X0_stands C q = F_X7_isBurst M q := by
  have hn := h.n
  rcases pz_cases (q := q) n (by omega) with ⟨b, hb, e⟩ | hq
  · subst e
    rw [h.stE hb, pz_isB h.m14 hn hb]
  · rw [h.stO hq, pz_isBo h.m14 hn hq]
theorem RN.op {n : Nat} {C M : CS} (h : RN n C M) (q : Int32) : F_X0_isOpen C q = F_X7_isOpen M q := by
  have hn := h.n
  rcases pz_cases (q := q) n (by omega) with ⟨b, hb, e⟩ | hq
  · subst e
    rw [h.opE hb, pz_isO h.m14 hn hb]
  · rw [h.opO hq, pz_isOo h.m14 hn hq]
theorem RN.bS {n : Nat} {C M : CS} (h : RN n C M) (q : Int32) : S_X7_isBurst M q := pz_isBS h.m14 h.n
theorem RN.oS {n : Nat} {C M : CS} (h : RN n C M) (q : Int32) : S_X7_isOpen M q := pz_isOS h.m14 h.n
theorem RN.bN {n : Nat} {C M : CS} (h : RN n C M) {q : Int32} (hq : ¬ F_X7_isBurst M q = 0) : ∃ b : Nat, b < n ∧ q = nI b ∧ stB (M.1 0) b = true := by
  have hn := h.n
  rcases pz_cases (q := q) n (by omega) with ⟨b, hb, e⟩ | hq2
  · subst e
    rw [pz_isB h.m14 hn hb] at hq
    refine ⟨b, hb, rfl, ?_⟩
    cases c : stB (M.1 0) b
    · rw [c] at hq; exact absurd rfl hq
    · rfl
  · exact absurd (pz_isBo h.m14 hn hq2) hq
theorem RN.oN {n : Nat} {C M : CS} (h : RN n C M) {q : Int32} (hq : ¬ F_X7_isOpen M q = 0) : ∃ b : Nat, b < n ∧ q = nI b ∧ opB (M.1 0) b = true := by
  have hn := h.n
  rcases pz_cases (q := q) n (by omega) with ⟨b, hb, e⟩ | hq2
  · subst e
    rw [pz_isO h.m14 hn hb] at hq
    refine ⟨b, hb, rfl, ?_⟩
    cases c : opB (M.1 0) b
    · rw [c] at hq; exact absurd rfl hq
    · rfl
  · exact absurd (pz_isOo h.m14 hn hq2) hq
theorem pz_opst {g : Nat → Int32} {b : Nat} (h : opB g b = true) : stB g b = true := by
  unfold opB at h
  unfold stB
  rw [decide_eq_true_eq] at h ⊢
  exact h.1
/-- the key of a burst, of a standing one, of an open one -/
theorem RN.sok {n : Nat} {C M : CS} (h : RN n C M) {b : Nat} (hb : b < n) (k : Int32) : F_X0_standsOfKey C (nI b) k = if stB (M.1 0) b ∧ mB (M.1 0) b 1 = k then 1 else 0 := by
  have hn := h.n
  unfold F_X0_standsOfKey
  rw [h.stE hb, pz_bnd, pz_bnd, pz_rAt _ (by omega) (by omega), h.key hb]
  cases c : stB (M.1 0) b
  · simp
  · simp [pz_i10]
theorem RN.ook {n : Nat} {C M : CS} (h : RN n C M) {b : Nat} (hb : b < n) (k : Int32) : F_X0_isOpenOfKey C (nI b) k = if opB (M.1 0) b ∧ mB (M.1 0) b 1 = k then 1 else 0 := by
  have hn := h.n
  have h2 := h.opE hb
  unfold F_X0_isOpen at h2
  unfold F_X0_isOpenOfKey
  rw [if_neg (pz_nlt0 (by omega)), h.c6, if_neg (pz_ge hb (by omega)), pz_bnd] at h2 ⊢
  cases c : opB (M.1 0) b
  · rw [c] at h2
    by_cases d : rAt 100 (C.1 8) (nI b) = 0
    · rw [if_pos d] at h2
      exact absurd h2 pz_i10
    · rw [if_neg d]; simp
  · rw [c] at h2
    by_cases d : rAt 100 (C.1 8) (nI b) = 0
    · rw [if_pos d, pz_bnd, pz_rAt _ (by omega) (by omega), h.key hb]; simp
    · rw [if_neg d] at h2
      exact absurd h2 pz_i01
