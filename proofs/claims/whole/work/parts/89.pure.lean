/-! pure: restore, reset -/
theorem nk_R (C : CS) : ∀ k, k < 21 → ∀ i, i < wd k → (F_X1_copyFrom_nk C).1 k i = C.1 (k + 21) i := by
  intro k hk i hi
  unfold F_X1_copyFrom_nk F_X3_copyFrom_nk F_X0_copyFrom_nk F_X2_copyFrom_nk
  simp only [pz_bnd, pz_IR, pz_LR, pz_R]
  have hk21 : k = 0 ∨ k = 1 ∨ k = 2 ∨ k = 3 ∨ k = 4 ∨ k = 5 ∨ k = 6 ∨ k = 7 ∨ k = 8 ∨ k = 9 ∨ k = 10 ∨ k = 11 ∨ k = 12 ∨ k = 13 ∨ k = 14 ∨ k = 15 ∨ k = 16 ∨ k = 17 ∨ k = 18 ∨ k = 19 ∨ k = 20 := by omega
  rcases hk21 with e | e | e | e | e | e | e | e | e | e | e | e | e | e | e | e | e | e | e | e | e <;> subst e <;> simp <;> exact pz_cp _ _ (by omega) hi
theorem nk_o (C : CS) : ∀ k, 21 ≤ k → (F_X1_copyFrom_nk C).1 k = C.1 k := by
  intro k hk
  unfold F_X1_copyFrom_nk F_X3_copyFrom_nk F_X0_copyFrom_nk F_X2_copyFrom_nk
  simp only [pz_bnd, pz_IR, pz_LR, pz_R]
  repeat rw [if_neg (by omega)]
theorem nk_I (C : CS) : ∀ k, k < 9 → (F_X1_copyFrom_nk C).2.1 k = C.2.1 (k + 9) := by
  intro k hk
  unfold F_X1_copyFrom_nk F_X3_copyFrom_nk F_X0_copyFrom_nk F_X2_copyFrom_nk
  simp only [pz_bnd, pz_LI, pz_RI, pz_I]
  have hk9 : k = 0 ∨ k = 1 ∨ k = 2 ∨ k = 3 ∨ k = 4 ∨ k = 5 ∨ k = 6 ∨ k = 7 ∨ k = 8 := by omega
  rcases hk9 with e | e | e | e | e | e | e | e | e <;> subst e <;> simp
theorem nk_J (C : CS) : ∀ k, 9 ≤ k → (F_X1_copyFrom_nk C).2.1 k = C.2.1 k := by
  intro k hk
  unfold F_X1_copyFrom_nk F_X3_copyFrom_nk F_X0_copyFrom_nk F_X2_copyFrom_nk
  simp only [pz_bnd, pz_LI, pz_RI, pz_I]
  repeat rw [if_neg (by omega)]
theorem nk_L (C : CS) : (F_X1_copyFrom_nk C).2.2 0 = C.2.2 1 ∧ (F_X1_copyFrom_nk C).2.2 1 = C.2.2 1 := by
  unfold F_X1_copyFrom_nk F_X3_copyFrom_nk F_X0_copyFrom_nk F_X2_copyFrom_nk
  simp [pz_bnd, pz_IL, pz_RL, pz_L]
theorem pz_restore (M : CS) (h : ¬ M.2.1 1 = 0) : S_X7_restore M ∧ F_X7_restore M = (cpG (M.1 0) (M.1 2) 1787 400, sI (sL (sR M 0 (cpG (M.1 0) (M.1 2) 1787)) 0 (M.2.2 2)) 0 0) := by
  have f : ((1787 : Int32).toInt - (0 : Int32).toInt).toNat + 1 = 1787 + 1 := pz_fu (n := 1787) (by omega)
  unfold S_X7_restore F_X7_restore
  rw [if_neg h, if_neg h, f]
  refine pz_bo (fun i s => s = (nI i, sR M 0 (cpG (M.1 0) (M.1 2) i))) (fun r => r = (cpG (M.1 0) (M.1 2) 1787 400, sI (sL (sR M 0 (cpG (M.1 0) (M.1 2) 1787)) 0 (M.2.2 2)) 0 0)) 1787 (fun i s hi hs => ?_) (fun s hs => ?_) 1787 0 (0, M) (by omega) ?_
  · subst hs
    show Sst_X7_restore_15 (nI i) (sR M 0 (cpG (M.1 0) (M.1 2) i)) ∧ ((∃ s', st_X7_restore_15 (nI i) (sR M 0 (cpG (M.1 0) (M.1 2) i)) = .inl s' ∧ _) ∨ _)
    have e3 : ¬ (1787 : Int32) ≤ nI i := pz_ge (b := 1787) hi (by omega)
    unfold Sst_X7_restore_15 st_X7_restore_15
    rw [if_neg e3, if_neg e3, pz_bnd, nI_clamp (by omega), pz_RR, pz_s1]
    refine ⟨⟨pz_vin hi, pz_vin hi, trivial⟩, .inl ⟨_, rfl, ?_⟩⟩
    show (nI (i + 1), sR M 0 (upd (cpG (M.1 0) (M.1 2) i) i (M.1 2 i))) = _
    rw [cpG_s]
  · subst hs
    show Sst_X7_restore_15 (nI 1787) _ ∧ ∃ r, st_X7_restore_15 (nI 1787) _ = .inr r ∧ _
    have e3 : (1787 : Int32) ≤ nI 1787 := pz_leR 1787 (by omega)
    unfold Sst_X7_restore_15 st_X7_restore_15
    rw [if_pos e3, if_pos e3]
    exact ⟨trivial, _, rfl, rfl⟩
  · rw [cpG_0]
    exact congrArg (fun z => ((0 : Int32), z)) (pz_R_self M 0).symm
theorem sim_restore {C M : CS} (hR : Rel C M) : S_X7_restore M ∧ SimI ["java/lang/IllegalStateException"] (F_X6_restore C).1 (F_X7_restore M).1 ((F_X7_restore M).2.2.1 0) ∧ Rel (F_X6_restore C).2 (F_X7_restore M).2 := by
  obtain ⟨⟨n, h⟩, ⟨k, a1, a2, a3, a4, a5, a6⟩, h3⟩ := id hR
  by_cases c : C.2.1 21 = 0
  · have c' : M.2.1 1 = 0 := a6.symm.trans c
    unfold S_X7_restore F_X7_restore F_X6_restore
    rw [if_pos c', if_pos c', if_pos c]
    exact ⟨trivial, simI_l rfl pz_i10, rel_thr hR 1⟩
  · have c' : ¬ M.2.1 1 = 0 := fun e => c (a6.trans e)
    obtain ⟨s1, s2⟩ := pz_restore M c'
    refine ⟨s1, ?_⟩
    clear s1
    obtain ⟨m, hm⟩ := h3 c
    have eC : F_X6_restore C = (.inr (C.2.1 14), F_X1_copyFrom_nk C) := by
      unfold F_X6_restore
      rw [if_neg c, pz_bnd, nk_I C 5 (by omega)]
    rw [eC, s2]
    clear s2 eC
    refine ⟨simI_r ?_, ⟨m, ?_⟩, ⟨k, a1, ?_, a3, fun i hi => ?_, ?_, ?_⟩, fun _ => ⟨m, ?_⟩⟩
    · have e : cpG (M.1 0) (M.1 2) 1787 400 = M.1 2 400 := if_pos (by omega)
      rw [e]
      exact hm.2.1.1.trans hm.2.1.2.2.1.symm
    · exact RelN.cgp hm (fun j hj i hi => nk_R C j hj i hi) (fun j hj => nk_I C j hj) (nk_L C).1 (fun x hx => if_pos hx) rfl
    · exact (nk_J C 18 (by omega)).trans a2
    · rw [nk_o C 42 (by omega)]
      exact a4 i hi
    · exact (nk_J C 22 (by omega)).trans a5
    · exact (nk_J C 21 (by omega)).trans a6
    · exact RelN.cgp hm (fun j hj i hi => congrFun (nk_o C (j + 21) (by omega)) i) (fun j hj => nk_J C (j + 9) (by omega)) (nk_L C).2 (fun x hx => rfl) rfl
theorem pz_fill (f : Nat → Int32) (v : Int32) {n : Nat} (hn : n ≤ 2000) : rFill n f v = fun i => if i < n then v else f i := by
  unfold rFill
  rw [pz_fu hn]
  refine pz_ho (fun m s => s = (nI m, fun i => if i < m then v else f i)) (fun r => r = fun i => if i < n then v else f i) n (fun m s hm hs => .inl ?_) (fun s hs => ?_) n 0 (0, f) (by omega) ?_
  · subst hs
    refine ⟨(nI (m + 1), fun i => if i < m + 1 then v else f i), ?_, rfl⟩
    show st_X4_fillWith_2 v n (nI m) (fun i => if i < m then v else f i) = _
    unfold st_X4_fillWith_2
    rw [if_neg (pz_ge hm hn), pz_bnd, nI_clamp (by omega), pz_s1]
    have e : upd (fun i => if i < m then v else f i) m v = fun i => if i < m + 1 then v else f i := by
      funext i
      unfold upd
      by_cases c : i = m
      · rw [if_pos c, if_pos (by omega)]
      · rw [if_neg c]
        show (if i < m then v else f i) = _
        by_cases d : i < m
        · rw [if_pos d, if_pos (by omega)]
        · rw [if_neg d, if_neg (by omega)]
    rw [e]
  · subst hs
    refine ⟨_, ?_, rfl⟩
    show st_X4_fillWith_2 v n (nI n) _ = _
    unfold st_X4_fillWith_2
    rw [if_pos (pz_leR n hn)]
  · have e : (fun i => if i < 0 then v else f i) = f := by
      funext i
      exact if_neg (by omega)
    rw [e]
    all_goals rfl
def zG (f : Nat → Int32) (i : Nat) : Nat → Int32 := fun x => if x < i then 0 else f x
def tG (f : Nat → Int32) (k : Nat) : Nat → Int32 := fun x => if 1402 ≤ x ∧ x < 1402 + k then 10 else zG f 1787 x
theorem zG_0 (f : Nat → Int32) : zG f 0 = f := by
  funext x
  exact if_neg (by omega)
theorem zG_s (f : Nat → Int32) (i : Nat) : upd (zG f i) i 0 = zG f (i + 1) := by
  funext x
  unfold upd zG
  by_cases c : x = i
  · rw [if_pos c, if_pos (by omega)]
  · rw [if_neg c]
    by_cases d : x < i
    · rw [if_pos d, if_pos (by omega)]
    · rw [if_neg d, if_neg (by omega)]
theorem tG_0 (f : Nat → Int32) : tG f 0 = zG f 1787 := by
  funext x
  exact if_neg (by omega)
theorem tG_s (f : Nat → Int32) (i : Nat) : upd (tG f i) (1402 + i) 10 = tG f (i + 1) := by
  funext x
  unfold upd tG
  by_cases c : x = 1402 + i
  · rw [if_pos c, if_pos (by omega)]
  · rw [if_neg c]
    by_cases d : 1402 ≤ x ∧ x < 1402 + i
    · rw [if_pos d, if_pos (by omega)]
    · rw [if_neg d, if_neg (by omega)]
theorem tG_a {f : Nat → Int32} {k x : Nat} (h : 1402 ≤ x ∧ x < 1402 + k) : tG f k x = 10 := if_pos h
theorem tG_b {f : Nat → Int32} {k x : Nat} (h : ¬ (1402 ≤ x ∧ x < 1402 + k)) (h2 : x < 1787) : tG f k x = 0 := (if_neg h).trans (if_pos h2)
theorem pz_starts8 (M C : CS) (f : Nat → Int32) : lpS (fun (z : Int32 × CS) => st_X7_starts_24 z.1 z.2) (fun (z : Int32 × CS) => Sst_X7_starts_24 z.1 z.2) 9 (0, sR M 0 (zG f 1787)) ∧ lp (fun (z : Int32 × CS) => st_X7_starts_24 z.1 z.2) (.inr C) 9 (0, sR M 0 (zG f 1787)) = .inr (sL (sR M 0 (tG f 8)) 0 0) := by
  refine pz_bo (fun i s => s = (nI i, sR M 0 (tG f i))) (fun (r : (Int32 × CS) ⊕ CS) => r = .inr (sL (sR M 0 (tG f 8)) 0 0)) 8 (fun i s hi hs => ?_) (fun s hs => ?_) 8 0 (0, sR M 0 (zG f 1787)) (by omega) ?_
  · subst hs
    show Sst_X7_starts_24 (nI i) (sR M 0 (tG f i)) ∧ ((∃ s', st_X7_starts_24 (nI i) (sR M 0 (tG f i)) = .inl s' ∧ _) ∨ _)
    have e3 : ¬ (8 : Int32) ≤ nI i := pz_ge (b := 8) hi (by omega)
    have e4 : (1402 + nI i : Int32) = nI (1402 + i) := nI_add 1402 i
    unfold Sst_X7_starts_24 st_X7_starts_24
    rw [if_neg e3, if_neg e3, pz_bnd, e4, nI_clamp (by omega), pz_RR, pz_s1]
    refine ⟨⟨pz_vin (by omega), trivial⟩, .inl ⟨_, rfl, ?_⟩⟩
    show (nI (i + 1), sR M 0 (upd (tG f i) (1402 + i) 10)) = _
    rw [tG_s]
  · subst hs
    show Sst_X7_starts_24 (nI 8) _ ∧ ∃ r, st_X7_starts_24 (nI 8) _ = .inr r ∧ _
    have e3 : (8 : Int32) ≤ nI 8 := pz_leR 8 (by omega)
    unfold Sst_X7_starts_24 st_X7_starts_24
    rw [if_pos e3, if_pos e3]
    exact ⟨trivial, _, rfl, rfl⟩
  · rw [tG_0]
    rfl
theorem pz_starts (M : CS) : S_X7_starts M ∧ F_X7_starts M = sL (sR M 0 (tG (M.1 0) 8)) 0 0 := by
  have f : ((1787 : Int32).toInt - (0 : Int32).toInt).toNat + 1 = 1787 + 1 := pz_fu (n := 1787) (by omega)
  have f8 : ((8 : Int32).toInt - (0 : Int32).toInt).toNat + 1 = 9 := pz_fu (n := 8) (by omega)
  unfold S_X7_starts F_X7_starts
  rw [f]
  refine pz_bo (fun i s => s = (nI i, sR M 0 (zG (M.1 0) i))) (fun r => r = sL (sR M 0 (tG (M.1 0) 8)) 0 0) 1787 (fun i s hi hs => ?_) (fun s hs => ?_) 1787 0 (0, M) (by omega) ?_
  · subst hs
    show Sst_X7_starts_2 M (nI i) (sR M 0 (zG (M.1 0) i)) ∧ ((∃ s', st_X7_starts_2 M (nI i) (sR M 0 (zG (M.1 0) i)) = .inl s' ∧ _) ∨ _)
    have e3 : ¬ (1787 : Int32) ≤ nI i := pz_ge (b := 1787) hi (by omega)
    unfold Sst_X7_starts_2 st_X7_starts_2
    rw [if_neg e3, if_neg e3, pz_bnd, nI_clamp (by omega), pz_RR, pz_s1]
    refine ⟨⟨pz_vin hi, trivial⟩, .inl ⟨_, rfl, ?_⟩⟩
    show (nI (i + 1), sR M 0 (upd (zG (M.1 0) i) i 0)) = _
    rw [zG_s]
  · subst hs
    show Sst_X7_starts_2 M (nI 1787) (sR M 0 (zG (M.1 0) 1787)) ∧ ∃ r, st_X7_starts_2 M (nI 1787) (sR M 0 (zG (M.1 0) 1787)) = .inr r ∧ _
    have e3 : (1787 : Int32) ≤ nI 1787 := pz_leR 1787 (by omega)
    unfold Sst_X7_starts_2 st_X7_starts_2
    rw [if_pos e3, if_pos e3, f8]
    obtain ⟨b1, b2⟩ := pz_starts8 M M (M.1 0)
    exact ⟨b1, _, b2, rfl⟩
  · rw [zG_0]
    exact congrArg (fun z => ((0 : Int32), z)) (pz_R_self M 0).symm
theorem cl_fr (C : CS) : FrC C (F_X1_clear C) := by
  unfold F_X1_clear F_X2_clear
  simp only [pz_bnd]
  exact (FrC.r (by omega)).tr ((FrC.r (by omega)).tr ((FrC.i (by omega)).tr ((FrC.i (by omega)).tr ((FrC.r (by omega)).tr ((FrC.i (by omega)).tr ((FrC.i (by omega)).tr (FrC.l.tr ((FrC.i (by omega)).tr ((FrC.i (by omega)).tr ((FrC.i (by omega)).tr ((FrC.i (by omega)).tr (FrC.i (by omega)))))))))))))
theorem cl_0 (C : CS) {k : Nat} (hk : k < 8) : (F_X1_clear C).1 0 k = 10 := by
  unfold F_X1_clear F_X2_clear
  simp only [pz_bnd, pz_IR, pz_LR, pz_R]
  simp
  rw [pz_fill _ _ (by omega)]
  exact if_pos hk
theorem cl_1 (C : CS) {k : Nat} (hk : k < 8) : (F_X1_clear C).1 1 k = 0 := by
  unfold F_X1_clear F_X2_clear
  simp only [pz_bnd, pz_IR, pz_LR, pz_R]
  simp
  rw [pz_fill _ _ (by omega)]
  exact if_pos hk
theorem cl_20 (C : CS) {k : Nat} (hk : k < 3) : (F_X1_clear C).1 20 k = 0 := by
  unfold F_X1_clear F_X2_clear
  simp only [pz_bnd, pz_IR, pz_LR, pz_R]
  simp
  rw [pz_fill _ _ (by omega)]
  exact if_pos hk
theorem cl_I (C : CS) {k : Nat} (hk : k < 9) : (F_X1_clear C).2.1 k = nI 0 := by
  unfold F_X1_clear F_X2_clear
  simp only [pz_bnd, pz_LI, pz_RI, pz_I]
  have hk9 : k = 0 ∨ k = 1 ∨ k = 2 ∨ k = 3 ∨ k = 4 ∨ k = 5 ∨ k = 6 ∨ k = 7 ∨ k = 8 := by omega
  rcases hk9 with e | e | e | e | e | e | e | e | e <;> subst e <;> rfl
theorem cl_L (C : CS) : (F_X1_clear C).2.2 0 = 0 := by
  unfold F_X1_clear F_X2_clear
  simp [pz_bnd, pz_IL, pz_RL, pz_L]
/-- the cells of an empty grouping -/
theorem RelN.st {R : Nat → Nat → Int32} {I : Nat → Int32} {g : Nat → Int32} (h0 : ∀ k, k < 8 → R 0 k = 10) (h1 : ∀ k, k < 8 → R 1 k = 0) (h20 : ∀ k, k < 3 → R 20 k = 0) (hI : ∀ k, k < 9 → I k = nI 0) (f : Nat → Int32) (hg : ∀ x, x < 1787 → g x = tG f 8 x) : RelN 0 R I 0 g 0 := by
  have z : ∀ x, x < 1787 → ¬ (1402 ≤ x ∧ x < 1402 + 8) → g x = nI 0 := fun x hx hn => (hg x hx).trans (tG_b hn hx)
  have r0 : ∀ {x : Int32} (hi : Nat), x = nI 0 → rng x 0 hi := fun hi e => ⟨0, Nat.le_refl _, Nat.zero_le _, e⟩
  refine ⟨Nat.zero_le _, ⟨hI 5 (by omega), hI 6 (by omega), z 400 (by omega) (by omega), z 1401 (by omega) (by omega), fun k hk => ?_, fun k hk => ?_, ?_, r0 _ (z 1419 (by omega) (by omega)), ?_, r0 _ (z 1420 (by omega) (by omega)), ?_, r0 _ (z 1418 (by omega) (by omega)), ?_, ?_, rfl⟩, fun b hb => absurd hb (by omega), ⟨fun r hr => absurd hr (by omega), fun b hb => absurd hb (by omega), [], List.Perm.refl _, List.Pairwise.nil, fun i hi => absurd hi (by omega)⟩, 0, 0, by omega, by omega, fun _ => rfl, hI 8 (by omega), z 1426 (by omega) (by omega), hI 7 (by omega), fun j hj i hi => absurd hi (by omega), fun k hk => ?_⟩
  · have e : g (1402 + k) = 10 := (hg _ (by omega)).trans (tG_a (by omega))
    exact ⟨(h0 k hk).trans e.symm, 10, by omega, by omega, e⟩
  · have e := z (1410 + k) (by omega) (by omega)
    exact ⟨(h1 k hk).trans e.symm, r0 _ e⟩
  · exact (hI 0 (by omega)).trans (z 1419 (by omega) (by omega)).symm
  · exact (hI 1 (by omega)).trans (z 1420 (by omega) (by omega)).symm
  · exact (hI 2 (by omega)).trans (z 1418 (by omega) (by omega)).symm
  · exact (hI 3 (by omega)).trans (z 1421 (by omega) (by omega)).symm
  · exact (hI 4 (by omega)).trans (z 1422 (by omega) (by omega)).symm
  · exact (h20 k hk).trans (z (1423 + k) (by omega) (by omega)).symm
theorem sim_reset {C M : CS} (hR : Rel C M) : S_X7_reset M ∧ (F_X6_reset C).1 = (F_X7_reset M).1 ∧ Rel (F_X6_reset C).2 (F_X7_reset M).2 := by
  obtain ⟨n, h⟩ := hR.rn
  obtain ⟨s1, s2⟩ := pz_starts M
  have eM : F_X7_reset M = (M.1 0 400, sI (F_X7_starts M) 0 0) := rfl
  have eC : F_X6_reset C = (C.2.1 5, F_X1_clear C) := rfl
  refine ⟨⟨s1, trivial⟩, ?_⟩
  clear s1
  rw [eM, eC, s2]
  refine ⟨h.c5.trans h.m4.symm, rel_thr (rel_fr hR ⟨cl_fr C, FrM.r.tr FrM.l, 0, ?_⟩) 0⟩
  rw [cl_L]
  exact RelN.st (fun k hk => cl_0 C hk) (fun k hk => cl_1 C hk) (fun k hk => cl_20 C hk) (fun k hk => cl_I C hk) (M.1 0) (fun x hx => rfl)
