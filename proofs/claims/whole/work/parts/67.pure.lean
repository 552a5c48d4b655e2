/-! pure: when bursts close -/
theorem pz_cl {x : Int32} {lo hi : Nat} (h : rng x lo hi) (hh : hi < 2000000) : x = nI x.toNatClampNeg ∧ x.toNatClampNeg ≤ hi := by
  obtain ⟨k, h1, h2, e⟩ := h
  subst e
  rw [nI_clamp (by omega)]
  exact ⟨rfl, h2⟩
def laN (g : Nat → Int32) (b : Nat) : Nat := (mB g b 3).toNatClampNeg
def bdN (M : CS) (b : Nat) : Nat := (F_X7_bound M (nI b)).toNatClampNeg
theorem RN.laE {n : Nat} {C M : CS} (h : RN n C M) {b : Nat} (hb : b < n) : mB (M.1 0) b 3 = nI (laN (M.1 0) b) ∧ laN (M.1 0) b ≤ 9999 := pz_cl (h.lar hb) (by omega)
theorem RN.gof {n : Nat} {C M : CS} (h : RN n C M) {b : Nat} (hb : b < n) : ∃ k : Nat, k < 8 ∧ mB (M.1 0) b 1 = nI k ∧ F_X7_gapOf M (nI b) = M.1 0 (1402 + k) ∧ S_X7_gapOf M (nI b) := by
  have hn := h.n
  obtain ⟨k, hk, e⟩ := h.keyr hb
  refine ⟨k, hk, e, ?_, ?_⟩
  · unfold F_X7_gapOf
    rw [pz_of1 (by omega), pz_bnd, e, show (1402 : Int32) + nI k = nI (1402 + k) from nI_add 1402 k, nI_clamp (by omega)]
  · unfold S_X7_gapOf
    rw [pz_of1 (by omega), pz_bnd, e, show (1402 : Int32) + nI k = nI (1402 + k) from nI_add 1402 k]
    exact ⟨pz_oS1 (by omega), pz_vin (by omega), trivial⟩
theorem RN.bdd {n : Nat} {C M : CS} (h : RN n C M) {b : Nat} (hb : b < n) : F_X7_bound M (nI b) = nI (bdN M b) ∧ bdN M b ≤ 10149 ∧ S_X7_bound M (nI b) ∧ F_X1_closingMark C (nI b) = nI (bdN M b + 1) := by
  have hn := h.n
  obtain ⟨k, hk, e1, e2, e3⟩ := h.gof hb
  obtain ⟨x, _, hx, ex⟩ := (h.gap hk).2
  obtain ⟨y, _, hy, ey⟩ := h.lat.2
  obtain ⟨el, hl⟩ := h.laE hb
  have e4 : F_X7_bound M (nI b) = nI (laN (M.1 0) b + x + y) := by
    unfold F_X7_bound
    rw [pz_of3 (by omega), pz_bnd, pz_bnd, e2, ex, ey, el, nI_add, nI_add]
  have e5 : bdN M b = laN (M.1 0) b + x + y := by
    unfold bdN
    rw [e4, nI_clamp (by omega)]
  refine ⟨by rw [e4, e5], by omega, ?_, ?_⟩
  · unfold S_X7_bound
    exact ⟨pz_oS3 (by omega), e3, trivial⟩
  · unfold F_X1_closingMark
    rw [pz_bnd, pz_bnd, pz_bnd, pz_rAt _ (by omega) (by omega), pz_rAt _ (by omega) (by omega), h.la hb, h.key hb, e1, pz_rAt _ hk (by omega), (h.gap hk).1, h.lat.1, ex, ey, el, nI_add, nI_add, pz_s1, e5]
theorem sim_closesAt {C M : CS} (hR : Rel C M) (q1 : Int32) : S_X7_closesAt M q1 ∧ SimI ["java/lang/IndexOutOfBoundsException", "java/lang/IllegalStateException"] (F_X6_closesAt C q1) (F_X7_closesAt M q1).1 ((F_X7_closesAt M q1).2.2.1 0) ∧ Rel C (F_X7_closesAt M q1).2 := by
  obtain ⟨n, h⟩ := hR.rn
  have hn := h.n
  unfold S_X7_closesAt F_X6_closesAt F_X7_closesAt F_X6_needBurst F_X6_needOpen
  rw [h.st, h.op]
  by_cases hk : F_X7_isBurst M q1 = 0
  · simp only [hk, pz_bnd, if_true, pz_xl]
    exact ⟨⟨h.bS _, trivial⟩, simI_l rfl pz_i10, rel_thr hR 1⟩
  · obtain ⟨b, hb, e, hs⟩ := h.bN hk
    subst e
    simp only [hk, pz_bnd, if_false, pz_xr]
    by_cases ho : F_X7_isOpen M (nI b) = 0
    · simp only [ho, if_true, pz_xl]
      exact ⟨⟨h.bS _, h.oS _, trivial⟩, simI_l rfl pz_i20, rel_thr hR 2⟩
    · simp only [ho, if_false, pz_xr]
      obtain ⟨e1, e2, e3, e4⟩ := h.bdd hb
      rw [e1, e4, pz_s1]
      exact ⟨⟨h.bS _, h.oS _, e3, trivial⟩, simI_r rfl, rel_thr hR 0⟩
/-- the first of the least -/
def bsN (ok : Nat → Bool) (key : Nat → Nat) : Nat → Option Nat
  | 0 => none
  | i + 1 => if ok i then (match bsN ok key i with | none => some i | some b => if key i < key b then some i else some b) else bsN ok key i
theorem pz_bs_none {ok : Nat → Bool} {key : Nat → Nat} {n : Nat} (h : bsN ok key n = none) : ∀ j, j < n → ok j = false := by
  induction n with
  | zero => intro j hj; omega
  | succ n ih =>
    intro j hj
    have h : (if ok n then (match bsN ok key n with | none => some n | some b => if key n < key b then some n else some b) else bsN ok key n) = none := h
    by_cases c : ok n = true
    · rw [if_pos c] at h
      cases e : bsN ok key n with
      | none => rw [e] at h; cases h
      | some b =>
        rw [e] at h
        have h : (if key n < key b then some n else some b) = none := h
        split at h <;> cases h
    · rw [if_neg c] at h
      rcases Nat.lt_or_ge j n with h2 | h2
      · exact ih h j h2
      · have e : j = n := by omega
        subst e
        exact Bool.not_eq_true _ ▸ c
theorem pz_bs_some {ok : Nat → Bool} {key : Nat → Nat} {n b : Nat} (h : bsN ok key n = some b) : b < n ∧ ok b = true ∧ ∀ j, j < n → ok j = true → key b ≤ key j ∧ (j < b → key b < key j) := by
  induction n generalizing b with
  | zero => cases h
  | succ n ih =>
    have h : (if ok n then (match bsN ok key n with | none => some n | some b => if key n < key b then some n else some b) else bsN ok key n) = some b := h
    by_cases c : ok n = true
    · rw [if_pos c] at h
      cases e : bsN ok key n with
      | none =>
        rw [e] at h
        cases h
        refine ⟨by omega, c, fun j hj ho => ?_⟩
        rcases Nat.lt_or_ge j n with h2 | h2
        · rw [pz_bs_none e j h2] at ho; cases ho
        · have e : j = n := by omega
          subst e
          exact ⟨Nat.le_refl _, fun h => by omega⟩
      | some b' =>
        rw [e] at h
        have h : (if key n < key b' then some n else some b') = some b := h
        obtain ⟨i1, i2, i3⟩ := ih e
        by_cases c2 : key n < key b'
        · rw [if_pos c2] at h
          cases h
          refine ⟨by omega, c, fun j hj ho => ?_⟩
          rcases Nat.lt_or_ge j n with h2 | h2
          · have h3 := (i3 j h2 ho).1
            exact ⟨by omega, fun _ => by omega⟩
          · have e : j = n := by omega
            subst e
            exact ⟨Nat.le_refl _, fun h => by omega⟩
        · rw [if_neg c2] at h
          cases h
          refine ⟨by omega, i2, fun j hj ho => ?_⟩
          rcases Nat.lt_or_ge j n with h2 | h2
          · exact i3 j h2 ho
          · have e : j = n := by omega
            subst e
            exact ⟨by omega, fun h => by omega⟩
    · rw [if_neg c] at h
      obtain ⟨i1, i2, i3⟩ := ih h
      refine ⟨by omega, i2, fun j hj ho => ?_⟩
      rcases Nat.lt_or_ge j n with h2 | h2
      · exact i3 j h2 ho
      · have e : j = n := by omega
        subst e
        exact absurd ho c
theorem pz_bs_of {ok : Nat → Bool} {key : Nat → Nat} {n b : Nat} (h1 : b < n) (h2 : ok b = true) (h3 : ∀ j, j < n → ok j = true → key b ≤ key j ∧ (j < b → key b < key j)) : bsN ok key n = some b := by
  cases e : bsN ok key n with
  | none => rw [pz_bs_none e b h1] at h2; cases h2
  | some b' =>
    obtain ⟨a1, a2, a3⟩ := pz_bs_some e
    rcases Nat.lt_trichotomy b b' with h | h | h
    · have := (a3 b h1 h2).2 h
      have := (h3 b' a1 a2).1
      omega
    · rw [h]
    · have := (h3 b' a1 a2).2 h
      have := (a3 b h1 h2).1
      omega
theorem pz_bs_congr {ok ok' : Nat → Bool} {key key' : Nat → Nat} {n : Nat} (h : ∀ j, j < n → ok j = ok' j ∧ key j = key' j) : bsN ok key n = bsN ok' key' n := by
  cases e : bsN ok key n with
  | none =>
    cases e2 : bsN ok' key' n with
    | none => rfl
    | some b =>
      obtain ⟨a1, a2, a3⟩ := pz_bs_some e2
      have := pz_bs_none e b a1
      rw [(h b a1).1, a2] at this
      cases this
  | some b =>
    obtain ⟨a1, a2, a3⟩ := pz_bs_some e
    refine (pz_bs_of a1 ((h b a1).1 ▸ a2) (fun j hj ho => ?_)).symm
    have := a3 j hj ((h j hj).1 ▸ ho)
    rw [(h b a1).2, (h j hj).2] at this
    exact this
theorem pz_bsl {R : Type} {step : Int32 × Int32 → (Int32 × Int32) ⊕ R} {safe : Int32 × Int32 → Prop} {d : R} (ok : Nat → Bool) (key : Nat → Nat) (out : Option Nat → R) (n : Nat) (hs : ∀ i, i < n → ∀ o : Option Nat, (∀ b, o = some b → b < i ∧ ok b = true) → safe (nI i, oI o) ∧ step (nI i, oI o) = .inl (nI (i + 1), oI (if ok i then (match o with | none => some i | some b => if key i < key b then some i else some b) else o)))
    (hl : ∀ o : Option Nat, (∀ b, o = some b → b < n) → safe (nI n, oI o) ∧ step (nI n, oI o) = .inr (out o)) : lpS step safe (n + 1) (0, -1) ∧ lp step d (n + 1) (0, -1) = out (bsN ok key n) := by
  refine pz_bo (fun i s => s = (nI i, oI (bsN ok key i))) (fun r => r = out (bsN ok key n)) n (fun i s hi h => ?_) (fun s h => ?_) n 0 (0, -1) (by omega) rfl
  · subst h
    have h2 := hs i hi (bsN ok key i) (fun b e => ⟨(pz_bs_some e).1, (pz_bs_some e).2.1⟩)
    exact ⟨h2.1, .inl ⟨_, h2.2, rfl⟩⟩
  · subst h
    have h2 := hl (bsN ok key n) (fun b e => (pz_bs_some e).1)
    exact ⟨h2.1, _, h2.2, rfl⟩
theorem pz_oIsome {k : Nat} : oI (some k) = nI k := rfl
/-- the one that closes first, on the side of the class: up to the mark m -/
theorem RN.ftc {n : Nat} {C M : CS} (h : RN n C M) (m : Int32) : F_X1_firstToClose C m = oI (bsN (fun b => opB (M.1 0) b && !decide (m < nI (bdN M b + 1))) (laN (M.1 0)) n) := by
  have hn := h.n
  unfold F_X1_firstToClose
  rw [h.c6, pz_fu (by omega)]
  refine (pz_bsl (safe := fun _ => True) (fun b => opB (M.1 0) b && !decide (m < nI (bdN M b + 1))) (laN (M.1 0)) oI n (fun i hi o ho => ⟨trivial, ?_⟩) (fun o ho => ⟨trivial, ?_⟩)).2
  · show st_X1_firstToClose_4 m C (nI i) (oI o) = _
    unfold st_X1_firstToClose_4
    rw [h.c6, if_neg (pz_ge hi (by omega)), pz_bnd, h.opE hi, pz_bnd, (h.bdd hi).2.2.2, pz_s1, pz_bnd, pz_rAt _ (by omega) (by omega), h.la hi, (h.laE hi).1]
    cases c1 : opB (M.1 0) i
    · simp
    · by_cases c2 : m < nI (bdN M i + 1)
      · simp [c2, pz_i10]
      · cases o with
        | none => simp [c2, pz_i10, oI]
        | some b =>
          have hb := (ho b rfl).1
          rw [pz_oIsome, pz_bnd, pz_rAt _ (by omega) (by omega), h.la (by omega), (h.laE (show b < n by omega)).1]
          have h1 := (h.laE hi).2
          have h2 := (h.laE (show b < n by omega)).2
          have e3 : nI (laN (M.1 0) b) ≤ nI (laN (M.1 0) i) ↔ laN (M.1 0) b ≤ laN (M.1 0) i := nI_leI (by omega) (by omega)
          by_cases c3 : laN (M.1 0) b ≤ laN (M.1 0) i
          · simp [c2, pz_i10, pz_ne1 (show b < 2000 by omega), e3, c3, Nat.not_lt.mpr c3, oI]
          · simp [c2, pz_i10, pz_ne1 (show b < 2000 by omega), e3, c3, Nat.lt_of_not_le c3, oI]
  · show st_X1_firstToClose_4 m C (nI n) (oI o) = _
    unfold st_X1_firstToClose_4
    rw [h.c6, if_pos (pz_leR n (by omega))]
theorem RN.nxt {n : Nat} {C M : CS} (h : RN n C M) : S_X7_nextOf M ∧ F_X7_nextOf M = oI (bsN (fun b => opB (M.1 0) b && !decide (M.1 0 1418 ≤ nI (bdN M b))) (laN (M.1 0)) n) := by
  have hn := h.n
  unfold S_X7_nextOf F_X7_nextOf
  rw [h.m14, pz_fu (by omega)]
  refine pz_bsl (fun b => opB (M.1 0) b && !decide (M.1 0 1418 ≤ nI (bdN M b))) (laN (M.1 0)) oI n (fun i hi o ho => ?_) (fun o ho => ?_)
  · show Sst_X7_nextOf_4 M (nI i) (oI o) ∧ st_X7_nextOf_4 M (nI i) (oI o) = _
    unfold Sst_X7_nextOf_4 st_X7_nextOf_4
    rw [h.m14, if_neg (pz_ge hi (by omega)), if_neg (pz_ge hi (by omega)), pz_isO h.m14 hn hi]
    simp only [pz_bnd, (h.bdd hi).1, pz_s1, pz_of3 (show i < 100 by omega), (h.laE hi).1]
    cases c1 : opB (M.1 0) i
    · simp [h.oS]
    · by_cases c2 : M.1 0 1418 ≤ nI (bdN M i)
      · simp [c2, pz_i10, h.oS, (h.bdd hi).2.2.1]
      · cases o with
        | none => simp [c2, pz_i10, oI, h.oS, (h.bdd hi).2.2.1]
        | some b =>
          have hb := (ho b rfl).1
          rw [pz_oIsome, pz_of3 (by omega), (h.laE (show b < n by omega)).1]
          have h1 := (h.laE hi).2
          have h2 := (h.laE (show b < n by omega)).2
          have e3 : nI (laN (M.1 0) b) ≤ nI (laN (M.1 0) i) ↔ laN (M.1 0) b ≤ laN (M.1 0) i := nI_leI (by omega) (by omega)
          by_cases c3 : laN (M.1 0) b ≤ laN (M.1 0) i
          · simp [c2, pz_i10, pz_ne1 (show b < 2000 by omega), e3, c3, Nat.not_lt.mpr c3, oI, h.oS, (h.bdd hi).2.2.1, pz_oS3 (show i < 100 by omega), pz_oS3 (show b < 100 by omega)]
          · simp [c2, pz_i10, pz_ne1 (show b < 2000 by omega), e3, c3, Nat.lt_of_not_le c3, oI, h.oS, (h.bdd hi).2.2.1, pz_oS3 (show i < 100 by omega), pz_oS3 (show b < 100 by omega)]
  · show Sst_X7_nextOf_4 M (nI n) (oI o) ∧ st_X7_nextOf_4 M (nI n) (oI o) = _
    unfold Sst_X7_nextOf_4 st_X7_nextOf_4
    rw [h.m14, if_pos (pz_leR n (by omega)), if_pos (pz_leR n (by omega))]
    exact ⟨trivial, rfl⟩
/-- at the mark itself both pick the same one -/
theorem RN.pick {n : Nat} {C M : CS} (h : RN n C M) : F_X1_firstToClose C (C.2.1 2) = F_X7_nextOf M := by
  have hn := h.n
  rw [h.ftc, h.nxt.2]
  congr 1
  refine pz_bs_congr (fun j hj => ⟨?_, rfl⟩)
  obtain ⟨m, _, hm, em⟩ := h.mark.2
  have h2 := (h.bdd hj).2.1
  rw [h.mark.1, em]
  have e3 : nI m ≤ nI (bdN M j) ↔ m ≤ bdN M j := nI_leI (by omega) (by omega)
  have e4 : nI m < nI (bdN M j + 1) ↔ m < bdN M j + 1 := nI_ltI (by omega) (by omega)
  congr 2
  rw [decide_eq_decide, e3, e4]
  omega
