/-! pure: lengths, reach, closing -/
theorem pz_fo2 {A B : Type} (F : Nat → A → A) (G : Nat → B → B) (n : Nat) (a : A) (b : B) : fo (fun i (z : A × B) => (F i z.1, G i z.2)) n (a, b) = (fo F n a, fo G n b) := by
  induction n with
  | zero => rfl
  | succ n ih =>
    show (F n (fo (fun i (z : A × B) => (F i z.1, G i z.2)) n (a, b)).1, G n (fo (fun i (z : A × B) => (F i z.1, G i z.2)) n (a, b)).2) = (F n (fo F n a), G n (fo G n b))
    rw [ih]
def kyB (g : Nat → Int32) (k : Int32) (b : Nat) : Bool := decide (stB g b = true ∧ mB g b 1 = k)
theorem pz_sub0 (x : Int32) : x + 0 = x := Int32.add_zero x
theorem sim_averageLength {C M : CS} (hR : Rel C M) (q1 : Int32) : S_X7_averageLength M q1 ∧ SimI ["java/lang/IndexOutOfBoundsException", "java/lang/ArithmeticException"] (F_X6_averageLength C q1) (F_X7_averageLength M q1).1 ((F_X7_averageLength M q1).2.2.1 0) ∧ Rel C (F_X7_averageLength M q1).2 := by
  obtain ⟨n, h⟩ := hR.rn
  have hn := h.n
  unfold S_X7_averageLength F_X6_averageLength F_X7_averageLength
  rw [pz_needKey]
  by_cases hk : F_X7_isKey q1 = 0
  · have e0 : ¬ (sI M 0 1).2.1 0 = 0 := pz_i10
    simp only [hk, pz_bnd, if_true, if_neg e0, pz_xl]
    exact ⟨trivial, simI_l rfl pz_i10, rel_thr hR 1⟩
  · have e0 : (sI M 0 0).2.1 0 = 0 := rfl
    simp only [hk, pz_bnd, if_false, if_pos e0, pz_xr]
    have e1 : F_X0_countOfKey C q1 = nI (cN (kyB (M.1 0) q1) n) := by
      unfold F_X0_countOfKey
      rw [h.c6, pz_fu (by omega)]
      refine pz_cnt (kyB (M.1 0) q1) id n (fun i a hi => ?_) (fun a => ?_)
      · show st_X0_countOfKey_4 q1 C (nI i) a = _
        unfold st_X0_countOfKey_4 kyB
        rw [h.c6, if_neg (pz_ge hi (by omega)), pz_bnd, h.sok hi, pz_s1]
        by_cases c : stB (M.1 0) i = true ∧ mB (M.1 0) i 1 = q1 <;> simp [c]
      · show st_X0_countOfKey_4 q1 C (nI n) a = _
        unfold st_X0_countOfKey_4
        rw [h.c6, if_pos (pz_leR n (by omega))]
        rfl
    have e2 : F_X0_lengthOfKey C q1 = fo (fun i a => if kyB (M.1 0) q1 i then a + (mB (M.1 0) i 3 - mB (M.1 0) i 2) else a) n 0 := by
      unfold F_X0_lengthOfKey
      rw [h.c6, pz_fu (by omega)]
      refine pz_fo (fun i a => if kyB (M.1 0) q1 i then a + (mB (M.1 0) i 3 - mB (M.1 0) i 2) else a) id n (fun i a hi => ?_) (fun a => ?_) 0
      · show st_X0_lengthOfKey_4 q1 C (nI i) a = _
        unfold st_X0_lengthOfKey_4 kyB
        rw [h.c6, if_neg (pz_ge hi (by omega)), pz_bnd, h.sok hi, pz_bnd, pz_rAt _ (by omega) (by omega), pz_bnd, pz_rAt _ (by omega) (by omega), h.fi hi, h.la hi, pz_s1]
        by_cases c : stB (M.1 0) i = true ∧ mB (M.1 0) i 1 = q1 <;> simp [c]
      · show st_X0_lengthOfKey_4 q1 C (nI n) a = _
        unfold st_X0_lengthOfKey_4
        rw [h.c6, if_pos (pz_leR n (by omega))]
        rfl
    have e3 : lpS (fun (z : Int32 × Int32 × Int32) => st_X7_averageLength_32 q1 (sI M 0 0) z.1 z.2.1 z.2.2) (fun (z : Int32 × Int32 × Int32) => Sst_X7_averageLength_32 q1 (sI M 0 0) z.1 z.2.1 z.2.2) (n + 1) (0, 0, 0) ∧ lp (fun (z : Int32 × Int32 × Int32) => st_X7_averageLength_32 q1 (sI M 0 0) z.1 z.2.1 z.2.2) (0, M) (n + 1) (0, 0, 0) = (fun z : Int32 × Int32 => if z.2 = 0 then (FP.dconst0, sI (sI M 0 0) 0 2) else (FP.ddiv (FP.i2d z.1) (FP.i2d z.2), sI (sI M 0 0) 0 0)) (fo (fun i (z : Int32 × Int32) => (if kyB (M.1 0) q1 i then z.1 + (mB (M.1 0) i 3 - mB (M.1 0) i 2) else z.1, z.2 + if kyB (M.1 0) q1 i then 1 else 0)) n (0, 0)) := by
      refine pz_bof (fun i (z : Int32 × Int32) => (if kyB (M.1 0) q1 i then z.1 + (mB (M.1 0) i 3 - mB (M.1 0) i 2) else z.1, z.2 + if kyB (M.1 0) q1 i then 1 else 0)) (fun z : Int32 × Int32 => if z.2 = 0 then (FP.dconst0, sI (sI M 0 0) 0 2) else (FP.ddiv (FP.i2d z.1) (FP.i2d z.2), sI (sI M 0 0) 0 0)) n (fun i a hi => ?_) (fun a => ?_) (0, 0)
      · show Sst_X7_averageLength_32 q1 (sI M 0 0) (nI i) a.1 a.2 ∧ st_X7_averageLength_32 q1 (sI M 0 0) (nI i) a.1 a.2 = _
        have hI : F_X7_isBurst (sI M 0 0) (nI i) = if stB (M.1 0) i then 1 else 0 := pz_isB (M := sI M 0 0) h.m14 hn hi
        have hS : S_X7_isBurst (sI M 0 0) (nI i) := pz_isBS (M := sI M 0 0) h.m14 hn
        unfold Sst_X7_averageLength_32 st_X7_averageLength_32 kyB
        rw [pz_IR, h.m14, if_neg (pz_ge hi (by omega)), if_neg (pz_ge hi (by omega)), hI]
        simp only [pz_bnd, pz_of1 (show i < 100 by omega), pz_of2 (show i < 100 by omega), pz_of3 (show i < 100 by omega), pz_s1, pz_IR]
        by_cases c0 : stB (M.1 0) i = true
        · rw [if_pos c0, if_neg pz_i10, if_neg pz_i10]
          refine ⟨⟨hS, pz_oS1 (by omega), ?_⟩, ?_⟩
          · split
            · exact ⟨pz_oS3 (by omega), pz_oS2 (by omega), trivial⟩
            · exact trivial
          · by_cases c1 : mB (M.1 0) i 1 = q1 <;> simp [c0, c1]
        · rw [if_neg c0, if_pos rfl, if_pos rfl]
          refine ⟨⟨hS, trivial⟩, ?_⟩
          simp [c0]
      · show Sst_X7_averageLength_32 q1 (sI M 0 0) (nI n) a.1 a.2 ∧ st_X7_averageLength_32 q1 (sI M 0 0) (nI n) a.1 a.2 = _
        unfold Sst_X7_averageLength_32 st_X7_averageLength_32
        rw [pz_IR, h.m14, if_pos (pz_leR n (by omega)), if_pos (pz_leR n (by omega))]
        refine ⟨trivial, ?_⟩
        by_cases c : a.2 = 0
        · simp only [if_pos c, pz_bnd]
        · simp only [if_neg c, pz_bnd]
    rw [pz_fo2 (fun i a => if kyB (M.1 0) q1 i then a + (mB (M.1 0) i 3 - mB (M.1 0) i 2) else a) (fun i (a : Int32) => a + if kyB (M.1 0) q1 i then 1 else 0), pz_focn] at e3
    have e4 : (sI M 0 0).1 0 1401 = nI n := h.m14
    rw [e4, pz_fu (by omega), e3.2, e1, e2]
    refine ⟨e3.1, ?_⟩
    by_cases c : nI (cN (kyB (M.1 0) q1) n) = 0
    · simp only [if_pos c]
      exact ⟨simI_l rfl pz_i20, rel_thr (rel_thr hR 0) 2⟩
    · simp only [if_neg c]
      exact ⟨simI_r rfl, rel_thr (rel_thr hR 0) 0⟩
def rcB (g : Nat → Int32) (k t : Int32) (gp : Int32) (b : Nat) : Bool := decide (opB g b = true ∧ mB g b 1 = k ∧ ¬ t + gp < mB g b 2 ∧ ¬ mB g b 3 + gp < t)
theorem sim_joined {C M : CS} (hR : Rel C M) (q1 : Int32) (q2 : Int32) : S_X7_joined M q1 q2 ∧ SimI ["java/lang/IndexOutOfBoundsException", "java/lang/IllegalArgumentException", "java/util/NoSuchElementException"] (F_X6_joined C q1 q2) (F_X7_joined M q1 q2).1 ((F_X7_joined M q1 q2).2.2.1 0) ∧ Rel C (F_X7_joined M q1 q2).2 := by
  obtain ⟨n, h⟩ := hR.rn
  have hn := h.n
  unfold S_X7_joined F_X6_joined F_X7_joined
  rw [pz_needKey, pz_needWithin]
  by_cases hk : F_X7_isKey q1 = 0
  · simp only [hk, pz_bnd, if_true, pz_xl]
    exact ⟨trivial, simI_l rfl pz_i10, rel_thr hR 1⟩
  · obtain ⟨k, hk8, e⟩ := pz_keyN hk
    subst e
    simp only [hk, pz_bnd, if_false, pz_xr]
    by_cases hv : F_X7_in q2 0 9999 = 0
    · simp only [hv, if_true, pz_xl]
      exact ⟨trivial, simI_l rfl pz_i20, rel_thr hR 2⟩
    · simp only [hv, if_false, pz_xr]
      have e0 : (1402 : Int32) + nI k = nI (1402 + k) := nI_add 1402 k
      have e1 : F_X0_inReach C (nI k) q2 (rAt 8 (C.1 0) (nI k)) = oI (fN (rcB (M.1 0) (nI k) q2 (M.1 0 (1402 + k))) 0 n) := by
        rw [pz_rAt _ hk8 (by omega), (h.gap hk8).1]
        unfold F_X0_inReach
        rw [h.c6, pz_fu (by omega)]
        refine pz_fnd (rcB (M.1 0) (nI k) q2 (M.1 0 (1402 + k))) oI n (fun i hi => ?_) ?_ 0 n (by omega)
        · show st_X0_inReach_3 (nI k) q2 (M.1 0 (1402 + k)) C (nI i) = _
          unfold st_X0_inReach_3 rcB
          rw [h.c6, if_neg (pz_ge hi (by omega)), pz_bnd, h.ook hi, pz_bnd, pz_bnd, pz_rAt _ (by omega) (by omega), pz_rAt _ (by omega) (by omega), h.fi hi, h.la hi, pz_s1]
          by_cases c1 : opB (M.1 0) i = true ∧ mB (M.1 0) i 1 = nI k
          · by_cases c2 : q2 + M.1 0 (1402 + k) < mB (M.1 0) i 2
            · simp [c1, c2, pz_i10]
            · by_cases c3 : mB (M.1 0) i 3 + M.1 0 (1402 + k) < q2
              · simp [c1, c2, c3, pz_i10]
              · simp [c1, c2, c3, pz_i10]; rfl
          · by_cases c2 : opB (M.1 0) i = true
            · have c3 : ¬ mB (M.1 0) i 1 = nI k := fun e => c1 ⟨c2, e⟩
              simp [c2, c3]
            · simp [c2]
        · show st_X0_inReach_3 (nI k) q2 (M.1 0 (1402 + k)) C (nI n) = _
          unfold st_X0_inReach_3
          rw [h.c6, if_pos (pz_leR n (by omega))]
          rfl
      have e2 : lpS (fun (z : Int32 × CS) => st_X7_joined_32 (nI k) q2 z.1 z.2) (fun (z : Int32 × CS) => Sst_X7_joined_32 (nI k) q2 z.1 z.2) (n + 1) (0, M) ∧ lp (fun (z : Int32 × CS) => st_X7_joined_32 (nI k) q2 z.1 z.2) (0, M) (n + 1) (0, M) = (fun o : Option Nat => match o with | none => ((0 : Int32), sI M 0 3) | some k => (nI k, sI M 0 0)) (fN (rcB (M.1 0) (nI k) q2 (M.1 0 (1402 + k))) 0 n) := by
        refine pz_bfnd (fun x => (x, M)) (rcB (M.1 0) (nI k) q2 (M.1 0 (1402 + k))) (fun o : Option Nat => match o with | none => ((0 : Int32), sI M 0 3) | some k => (nI k, sI M 0 0)) n (fun i hi => ?_) ?_ 0 n (by omega)
        · show Sst_X7_joined_32 (nI k) q2 (nI i) M ∧ st_X7_joined_32 (nI k) q2 (nI i) M = _
          unfold Sst_X7_joined_32 st_X7_joined_32 rcB
          rw [h.m14, if_neg (pz_ge hi (by omega)), if_neg (pz_ge hi (by omega)), pz_isO h.m14 hn hi]
          simp only [pz_bnd, pz_of1 (show i < 100 by omega), pz_of2 (show i < 100 by omega), pz_of3 (show i < 100 by omega), pz_s1, e0, nI_clamp (show 1402 + k < 2 ^ 31 by omega)]
          refine ⟨⟨h.oS _, ?_⟩, ?_⟩
          · by_cases c0 : opB (M.1 0) i = true
            · rw [if_pos c0, if_neg pz_i10]
              refine ⟨pz_oS1 (by omega), ?_⟩
              split
              · refine ⟨pz_oS2 (by omega), pz_vin (by omega), ?_⟩
                split
                · exact trivial
                · exact ⟨pz_oS3 (by omega), pz_vin (by omega), trivial⟩
              · exact trivial
            · rw [if_neg c0, if_pos rfl]
              exact trivial
          · by_cases c0 : opB (M.1 0) i = true
            · by_cases c1 : mB (M.1 0) i 1 = nI k
              · by_cases c2 : q2 + M.1 0 (1402 + k) < mB (M.1 0) i 2
                · simp [c0, c1, c2, pz_i10]
                · by_cases c3 : mB (M.1 0) i 3 + M.1 0 (1402 + k) < q2
                  · simp [c0, c1, c2, c3, pz_i10]
                  · simp [c0, c1, c2, c3, pz_i10]; exact ⟨rfl, rfl⟩
              · simp [c0, c1, pz_i10]
            · simp [c0]
        · show Sst_X7_joined_32 (nI k) q2 (nI n) M ∧ st_X7_joined_32 (nI k) q2 (nI n) M = _
          unfold Sst_X7_joined_32 st_X7_joined_32
          rw [h.m14, if_pos (pz_leR n (by omega)), if_pos (pz_leR n (by omega))]
          exact ⟨trivial, rfl⟩
      rw [h.m14, pz_fu (by omega), e2.2, e1]
      refine ⟨e2.1, ?_⟩
      cases e : fN (rcB (M.1 0) (nI k) q2 (M.1 0 (1402 + k))) 0 n with
      | none =>
        rw [pz_nf0]
        exact ⟨simI_l rfl pz_i30, rel_thr hR 3⟩
      | some k =>
        have hk2 := (pz_fN_some e).2.1
        rw [pz_nf1 (by omega)]
        exact ⟨simI_r rfl, rel_thr hR 0⟩
