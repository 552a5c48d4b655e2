/-! pure: the next pair -/
def mtP (g : Nat → Int32) (gp : Int32) (l h : Nat) : Prop := (¬ mB g l 2 < mB g h 2 ∧ ¬ mB g h 3 + gp < mB g l 2) ∨ (¬ mB g h 2 < mB g l 2 ∧ ¬ mB g l 3 + gp < mB g h 2)
theorem mtP_dec (g : Nat → Int32) (gp : Int32) (l h : Nat) : mtP g gp l h ∨ ¬ mtP g gp l h := Classical.em _
def prP (g : Nat → Int32) (k gp : Int32) (l h : Nat) : Bool := opB g l && opB g h && decide (mB g l 1 = k) && decide (mB g h 1 = k) && (decide (¬ mB g l 2 < mB g h 2 ∧ ¬ mB g h 3 + gp < mB g l 2) || decide (¬ mB g h 2 < mB g l 2 ∧ ¬ mB g l 3 + gp < mB g h 2))
def paO (g : Nat → Int32) (k gp : Int32) (n l : Nat) : Option Nat := fN (prP g k gp l) (l + 1) (n - (l + 1))
def loO (g : Nat → Int32) (k gp : Int32) (n : Nat) : Option Nat := fN (fun l => (paO g k gp n l).isSome) 0 n
theorem RN.sti {n : Nat} {C M : CS} (r0 : RN n C M) {x y : Nat} (hx : x < n) (hy : y < n) (gp : Int32) : F_X0_startsIn C (nI x) (nI y) gp = if ¬ mB (M.1 0) x 2 < mB (M.1 0) y 2 ∧ ¬ mB (M.1 0) y 3 + gp < mB (M.1 0) x 2 then 1 else 0 := by
  have hn := r0.n
  unfold F_X0_startsIn
  simp only [pz_bnd, pz_rAt _ (show x < 100 by omega) (show 100 ≤ 2000 by omega), pz_rAt _ (show y < 100 by omega) (show 100 ≤ 2000 by omega), r0.fi hx, r0.fi hy, r0.la hy]
  by_cases c1 : mB (M.1 0) x 2 < mB (M.1 0) y 2
  · rw [if_pos c1, if_neg (fun hh => hh.1 c1)]
  · rw [if_neg c1]
    by_cases c2 : mB (M.1 0) y 3 + gp < mB (M.1 0) x 2
    · rw [if_pos c2, if_neg (fun hh => hh.2 c2)]
    · rw [if_neg c2, if_pos ⟨c1, c2⟩]
theorem RN.par {n : Nat} {C M : CS} (r0 : RN n C M) {l : Nat} (hl : l < n) (ho : opB (M.1 0) l = true) {k : Int32} (hk : mB (M.1 0) l 1 = k) (gp : Int32) : F_X0_partnerOf C (nI l) gp = oI (paO (M.1 0) k gp n l) := by
  have hn := r0.n
  subst hk
  unfold F_X0_partnerOf paO
  rw [r0.c6, pz_s1, pz_fu2 (by omega) (by omega)]
  refine pz_fnd (prP (M.1 0) (mB (M.1 0) l 1) gp l) oI n (fun i hi => ?_) ?_ (l + 1) (n - (l + 1)) (by omega)
  · show st_X0_partnerOf_4 (nI l) gp C (nI i) = _
    unfold st_X0_partnerOf_4 prP
    rw [r0.c6, if_neg (pz_ge hi (by omega)), pz_bnd, pz_rAt _ (by omega) (by omega), r0.key hl, pz_bnd, r0.ook hi, pz_bnd, r0.sti hi hl, pz_bnd, r0.sti hl hi, pz_s1]
    by_cases c1 : opB (M.1 0) i = true ∧ mB (M.1 0) i 1 = mB (M.1 0) l 1
    · rw [if_pos c1, if_neg pz_i10]
      by_cases c2 : ¬ mB (M.1 0) i 2 < mB (M.1 0) l 2 ∧ ¬ mB (M.1 0) l 3 + gp < mB (M.1 0) i 2
      · rw [if_pos c2, if_neg pz_i10]
        rw [if_pos (show _ = true by rw [ho, c1.1, decide_eq_true c1.2, decide_eq_true c2]; simp)]
        rfl
      · rw [if_neg c2, if_pos rfl]
        by_cases c3 : ¬ mB (M.1 0) l 2 < mB (M.1 0) i 2 ∧ ¬ mB (M.1 0) i 3 + gp < mB (M.1 0) l 2
        · rw [if_pos c3, if_neg pz_i10]
          rw [if_pos (show _ = true by rw [ho, c1.1, decide_eq_true c1.2, decide_eq_true c3]; simp)]
          rfl
        · rw [if_neg c3, if_pos rfl, if_neg (show ¬ _ = true by rw [decide_eq_false c3, decide_eq_false c2]; simp)]
    · rw [if_neg c1, if_pos rfl]
      have e : (opB (M.1 0) l && opB (M.1 0) i && decide (mB (M.1 0) l 1 = mB (M.1 0) l 1) && decide (mB (M.1 0) i 1 = mB (M.1 0) l 1)) = false := by
        cases d : opB (M.1 0) i
        · simp
        · have : ¬ mB (M.1 0) i 1 = mB (M.1 0) l 1 := fun e => c1 ⟨d, e⟩
          simp [this]
      rw [e]
      rfl
  · show st_X0_partnerOf_4 (nI l) gp C (nI n) = _
    unfold st_X0_partnerOf_4
    rw [r0.c6, if_pos (pz_leR n (by omega))]
    rfl
theorem paO_lt {g : Nat → Int32} {k gp : Int32} {n l h : Nat} (e : paO g k gp n l = some h) : l < h ∧ h < n ∧ prP g k gp l h = true := by
  obtain ⟨a, b, c, _⟩ := pz_fN_some e
  exact ⟨by omega, by omega, c⟩
theorem paO_n {g : Nat → Int32} {k gp : Int32} {n l : Nat} (e : ¬ (opB g l = true ∧ mB g l 1 = k)) : paO g k gp n l = none := by
  refine pz_fN_ofn (fun m _ _ => ?_)
  unfold prP
  cases d : opB g l
  · simp
  · have : ¬ mB g l 1 = k := fun h => e ⟨d, h⟩
    simp [this]
theorem RN.low {n : Nat} {C M : CS} (r0 : RN n C M) (k gp : Int32) : F_X1_lowerOfNextPair C k gp = oI (loO (M.1 0) k gp n) := by
  have hn := r0.n
  unfold F_X1_lowerOfNextPair loO
  rw [r0.c6, pz_fu (by omega)]
  refine pz_fnd (fun l => (paO (M.1 0) k gp n l).isSome) oI n (fun i hi => ?_) ?_ 0 n (by omega)
  · show st_X1_lowerOfNextPair_2 k gp C (nI i) = _
    unfold st_X1_lowerOfNextPair_2
    rw [r0.c6, if_neg (pz_ge hi (by omega)), pz_bnd, r0.ook hi, pz_s1]
    by_cases c : opB (M.1 0) i = true ∧ mB (M.1 0) i 1 = k
    · rw [if_pos c, if_neg pz_i10, pz_bnd, r0.par hi c.1 c.2]
      cases e : paO (M.1 0) k gp n i with
      | none => rfl
      | some h =>
        have := paO_lt e
        rw [pz_oIsome, if_neg (pz_ne1 (by omega))]
        rfl
    · rw [if_neg c, if_pos rfl, paO_n c]
      rfl
  · show st_X1_lowerOfNextPair_2 k gp C (nI n) = _
    unfold st_X1_lowerOfNextPair_2
    rw [r0.c6, if_pos (pz_leR n (by omega))]
    rfl
/-- the reference's way -/
theorem pz_bfnd2 {S R : Type} {step : S → S ⊕ R} {safe : S → Prop} {d : R} (mk : Int32 → S) (p : Nat → Bool) (out : Option Nat → R) (n i k : Nat)
    (hs : ∀ j, i ≤ j → j < n → safe (mk (nI j)) ∧ step (mk (nI j)) = if p j then .inr (out (some j)) else .inl (mk (nI (j + 1)))) (hl : safe (mk (nI n)) ∧ step (mk (nI n)) = .inr (out none)) (e : i + k = n) : lpS step safe (k + 1) (mk (nI i)) ∧ lp step d (k + 1) (mk (nI i)) = out (fN p i k) := by
  refine pz_bo (fun m s => i ≤ m ∧ s = mk (nI m) ∧ fN p i k = fN p m (n - m)) (fun r => r = out (fN p i k)) n (fun m s hi h => ?_) (fun s h => ?_) k i (mk (nI i)) e ⟨Nat.le_refl _, rfl, by rw [show n - i = k by omega]⟩
  · obtain ⟨h0, h, h2⟩ := h
    subst h
    rw [(hs m h0 hi).2]
    have e3 : n - m = (n - (m + 1)) + 1 := by omega
    rw [e3] at h2
    have h2 : fN p i k = if p m then some m else fN p (m + 1) (n - (m + 1)) := h2
    refine ⟨(hs m h0 hi).1, ?_⟩
    by_cases c : p m = true
    · rw [if_pos c]
      rw [if_pos c] at h2
      exact .inr ⟨_, rfl, by rw [h2]⟩
    · rw [if_neg c]
      rw [if_neg c] at h2
      exact .inl ⟨_, rfl, by omega, rfl, h2⟩
  · obtain ⟨_, h, h2⟩ := h
    subst h
    rw [Nat.sub_self] at h2
    have h2 : fN p i k = none := h2
    exact ⟨hl.1, _, hl.2, by rw [h2]⟩
theorem RN.met {n : Nat} {C M : CS} (r0 : RN n C M) {l h kk : Nat} (hl : l < n) (hh : h < n) (hk8 : kk < 8) (e1 : mB (M.1 0) l 1 = nI kk) (e2 : mB (M.1 0) h 1 = nI kk) : S_X7_meet M (nI l) (nI h) ∧ F_X7_meet M (nI l) (nI h) = if ((decide (¬ mB (M.1 0) l 2 < mB (M.1 0) h 2 ∧ ¬ mB (M.1 0) h 3 + M.1 0 (1402 + kk) < mB (M.1 0) l 2) || decide (¬ mB (M.1 0) h 2 < mB (M.1 0) l 2 ∧ ¬ mB (M.1 0) l 3 + M.1 0 (1402 + kk) < mB (M.1 0) h 2)) = true) then 1 else 0 := by
  have hn := r0.n
  have hl' : l < 100 := by omega
  have hh' : h < 100 := by omega
  obtain ⟨k1, k2, k3, k4, k5⟩ := r0.gof hl
  obtain ⟨j1, j2, j3, j4, j5⟩ := r0.gof hh
  have q1 : k1 = kk := (nI_eq (by omega) (by omega)).mp (k3.symm.trans e1)
  have q2 : j1 = kk := (nI_eq (by omega) (by omega)).mp (j3.symm.trans e2)
  subst q1
  subst q2
  constructor
  · unfold S_X7_meet
    simp only [pz_bnd]
    refine ⟨pz_oS2 hl', pz_oS3 hh', j5, ?_⟩
    split
    · refine ⟨pz_oS2 hh', pz_oS3 hl', k5, ?_⟩
      split
      · exact trivial
      · exact ⟨pz_oS2 hh', pz_oS2 hl', trivial⟩
    · refine ⟨pz_oS2 hl', pz_oS2 hh', ?_⟩
      split
      · refine ⟨pz_oS2 hh', pz_oS3 hl', k5, ?_⟩
        split
        · exact trivial
        · exact ⟨pz_oS2 hh', pz_oS2 hl', trivial⟩
      · exact trivial
  · unfold F_X7_meet
    simp only [pz_bnd, pz_of2 hl', pz_of3 hl', pz_of2 hh', pz_of3 hh', k4, j4]
    by_cases c1 : mB (M.1 0) h 3 + M.1 0 (1402 + j1) < mB (M.1 0) l 2
    · simp only [if_pos c1]
      by_cases c2 : mB (M.1 0) l 3 + M.1 0 (1402 + j1) < mB (M.1 0) h 2
      · simp [c1, c2]
      · by_cases c3 : mB (M.1 0) h 2 < mB (M.1 0) l 2
        · simp [c1, c2, c3]
        · simp [c1, c2, c3]
    · simp only [if_neg c1]
      by_cases c4 : mB (M.1 0) l 2 < mB (M.1 0) h 2
      · simp only [if_pos c4]
        by_cases c2 : mB (M.1 0) l 3 + M.1 0 (1402 + j1) < mB (M.1 0) h 2
        · simp [c2, c4]
        · by_cases c3 : mB (M.1 0) h 2 < mB (M.1 0) l 2
          · simp [c1, c2, c3, c4]
          · simp [c1, c2, c3, c4]
      · simp [c1, c4]
def onR (M : CS) (k gp : Int32) (n : Nat) : Option Nat → Int32 × CS
  | none => (0, M)
  | some l => match paO (M.1 0) k gp n l with
    | none => (0, M)
    | some h => (1, F_X7_merges M (nI l) (nI h))
theorem onR_s {M : CS} {k gp : Int32} {n l h : Nat} (e : paO (M.1 0) k gp n l = some h) : onR M k gp n (some l) = (1, F_X7_merges M (nI l) (nI h)) := by
  unfold onR
  simp only [e]
theorem RN.one {n : Nat} {C M : CS} (r0 : RN n C M) {kk : Nat} (hk8 : kk < 8) : S_X7_mergesOne M (nI kk) ∧ F_X7_mergesOne M (nI kk) = onR M (nI kk) (M.1 0 (1402 + kk)) n (loO (M.1 0) (nI kk) (M.1 0 (1402 + kk)) n) := by
  have hn := r0.n
  have inner : ∀ l, l < n → lpS (fun (z : Int32 × CS) => st_X7_mergesOne_18 (nI kk) (nI l) z.1 z.2) (fun (z : Int32 × CS) => Sst_X7_mergesOne_18 (nI kk) (nI l) z.1 z.2) (n - (l + 1) + 1) (nI (l + 1), M) ∧ lp (fun (z : Int32 × CS) => st_X7_mergesOne_18 (nI kk) (nI l) z.1 z.2) (.inr (0, M)) (n - (l + 1) + 1) (nI (l + 1), M) = (fun o : Option Nat => (match o with | none => .inl (nI (l + 1), M) | some h => .inr (1, F_X7_merges M (nI l) (nI h)) : (Int32 × CS) ⊕ (Int32 × CS))) (paO (M.1 0) (nI kk) (M.1 0 (1402 + kk)) n l) := by
    intro l hl
    refine pz_bfnd2 (fun x => (x, M)) (prP (M.1 0) (nI kk) (M.1 0 (1402 + kk)) l) (fun o : Option Nat => (match o with | none => .inl (nI (l + 1), M) | some h => .inr (1, F_X7_merges M (nI l) (nI h)) : (Int32 × CS) ⊕ (Int32 × CS))) n (l + 1) (n - (l + 1)) (fun i hli hi => ?_) ?_ (by omega)
    · show Sst_X7_mergesOne_18 (nI kk) (nI l) (nI i) M ∧ st_X7_mergesOne_18 (nI kk) (nI l) (nI i) M = _
      unfold Sst_X7_mergesOne_18 st_X7_mergesOne_18 prP
      rw [r0.m14, if_neg (pz_ge hi (by omega)), if_neg (pz_ge hi (by omega)), pz_isO r0.m14 hn hl, pz_isO r0.m14 hn hi]
      simp only [pz_bnd, pz_of1 (show l < 100 by omega), pz_of1 (show i < 100 by omega), pz_s1]
      by_cases c1 : opB (M.1 0) l = true
      · rw [if_pos c1, if_neg pz_i10, if_neg pz_i10]
        by_cases c2 : opB (M.1 0) i = true
        · rw [if_pos c2, if_neg pz_i10, if_neg pz_i10]
          by_cases c3 : mB (M.1 0) l 1 = nI kk
          · rw [if_pos c3, if_pos c3]
            by_cases c4 : mB (M.1 0) i 1 = nI kk
            · rw [if_pos c4, if_pos c4]
              obtain ⟨m1, m2⟩ := r0.met hl hi hk8 c3 c4
              rw [m2, c1, c2, decide_eq_true c3, decide_eq_true c4, Bool.true_and, Bool.true_and, Bool.true_and, Bool.true_and]
              by_cases c5 : (decide (¬ mB (M.1 0) l 2 < mB (M.1 0) i 2 ∧ ¬ mB (M.1 0) i 3 + M.1 0 (1402 + kk) < mB (M.1 0) l 2) || decide (¬ mB (M.1 0) i 2 < mB (M.1 0) l 2 ∧ ¬ mB (M.1 0) l 3 + M.1 0 (1402 + kk) < mB (M.1 0) i 2)) = true
              · simp only [if_pos c5, if_neg pz_i10]
                exact ⟨⟨r0.oS _, r0.oS _, pz_oS1 (by omega), pz_oS1 (by omega), m1, (r0.merge (by omega) hi c1 c2 (c3.trans c4.symm)).1, trivial⟩, trivial⟩
              · simp only [if_neg c5, if_true]
                exact ⟨⟨r0.oS _, r0.oS _, pz_oS1 (by omega), pz_oS1 (by omega), m1, trivial⟩, trivial⟩
            · rw [if_neg c4, if_neg c4, decide_eq_false c4]
              refine ⟨⟨r0.oS _, r0.oS _, pz_oS1 (by omega), pz_oS1 (by omega), trivial⟩, ?_⟩
              simp
          · rw [if_neg c3, if_neg c3, decide_eq_false c3]
            refine ⟨⟨r0.oS _, r0.oS _, pz_oS1 (by omega), trivial⟩, ?_⟩
            simp
        · rw [if_neg c2, if_pos rfl, if_pos rfl]
          refine ⟨⟨r0.oS _, r0.oS _, trivial⟩, ?_⟩
          simp [c2]
      · rw [if_neg c1, if_pos rfl, if_pos rfl]
        refine ⟨⟨r0.oS _, trivial⟩, ?_⟩
        simp [c1]
    · show Sst_X7_mergesOne_18 (nI kk) (nI l) (nI n) M ∧ st_X7_mergesOne_18 (nI kk) (nI l) (nI n) M = _
      unfold Sst_X7_mergesOne_18 st_X7_mergesOne_18
      rw [r0.m14, if_pos (pz_leR n (by omega)), if_pos (pz_leR n (by omega)), pz_s1]
      exact ⟨trivial, rfl⟩
  unfold S_X7_mergesOne F_X7_mergesOne
  rw [r0.m14, pz_fu (by omega)]
  have key := pz_bfnd (step := fun (z : Int32 × CS) => st_X7_mergesOne_2 (nI kk) M z.1 z.2) (safe := fun (z : Int32 × CS) => Sst_X7_mergesOne_2 (nI kk) M z.1 z.2) (d := ((0 : Int32), M)) (fun x => (x, M)) (fun l => (paO (M.1 0) (nI kk) (M.1 0 (1402 + kk)) n l).isSome) (onR M (nI kk) (M.1 0 (1402 + kk)) n) n (fun i hi => ?_) ?_ 0 n (by omega)
  · exact key
  · show Sst_X7_mergesOne_2 (nI kk) M (nI i) M ∧ st_X7_mergesOne_2 (nI kk) M (nI i) M = _
    unfold Sst_X7_mergesOne_2 st_X7_mergesOne_2
    rw [r0.m14, if_neg (pz_ge hi (by omega)), if_neg (pz_ge hi (by omega)), pz_s1, pz_fu2 (by omega) (by omega), (inner i hi).2]
    refine ⟨(inner i hi).1, ?_⟩
    cases e : paO (M.1 0) (nI kk) (M.1 0 (1402 + kk)) n i with
    | none => rfl
    | some h =>
      rw [onR_s e]
      rfl
  · show Sst_X7_mergesOne_2 (nI kk) M (nI n) M ∧ st_X7_mergesOne_2 (nI kk) M (nI n) M = _
    unfold Sst_X7_mergesOne_2 st_X7_mergesOne_2
    rw [r0.m14, if_pos (pz_leR n (by omega)), if_pos (pz_leR n (by omega))]
    exact ⟨trivial, rfl⟩
