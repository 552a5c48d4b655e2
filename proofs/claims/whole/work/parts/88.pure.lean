/-! pure: save -/
theorem pz_cp (f g : Nat → Int32) {n i : Nat} (hn : n ≤ 2000) (hi : i < n) : rCopy n f n g i = g i := by
  rw [pz_copy f g hn]
  exact if_pos hi
theorem kn_R (C : CS) : ∀ k, k < 21 → ∀ i, i < wd k → (F_X1_copyFrom_kn C).1 (k + 21) i = C.1 k i := by
  intro k hk i hi
  unfold F_X1_copyFrom_kn F_X3_copyFrom_kn F_X0_copyFrom_kn F_X2_copyFrom_kn
  simp only [pz_bnd, pz_IR, pz_LR, pz_R]
  have hk21 : k = 0 ∨ k = 1 ∨ k = 2 ∨ k = 3 ∨ k = 4 ∨ k = 5 ∨ k = 6 ∨ k = 7 ∨ k = 8 ∨ k = 9 ∨ k = 10 ∨ k = 11 ∨ k = 12 ∨ k = 13 ∨ k = 14 ∨ k = 15 ∨ k = 16 ∨ k = 17 ∨ k = 18 ∨ k = 19 ∨ k = 20 := by omega
  rcases hk21 with e | e | e | e | e | e | e | e | e | e | e | e | e | e | e | e | e | e | e | e | e <;> subst e <;> simp <;> exact pz_cp _ _ (by omega) hi
theorem kn_o (C : CS) : ∀ k, (k < 21 ∨ 42 ≤ k) → (F_X1_copyFrom_kn C).1 k = C.1 k := by
  intro k hk
  unfold F_X1_copyFrom_kn F_X3_copyFrom_kn F_X0_copyFrom_kn F_X2_copyFrom_kn
  simp only [pz_bnd, pz_IR, pz_LR, pz_R]
  repeat rw [if_neg (by omega)]
theorem kn_I (C : CS) : ∀ k, k < 9 → (F_X1_copyFrom_kn C).2.1 (k + 9) = C.2.1 k := by
  intro k hk
  unfold F_X1_copyFrom_kn F_X3_copyFrom_kn F_X0_copyFrom_kn F_X2_copyFrom_kn
  simp only [pz_bnd, pz_LI, pz_RI, pz_I]
  have hk9 : k = 0 ∨ k = 1 ∨ k = 2 ∨ k = 3 ∨ k = 4 ∨ k = 5 ∨ k = 6 ∨ k = 7 ∨ k = 8 := by omega
  rcases hk9 with e | e | e | e | e | e | e | e | e <;> subst e <;> simp
theorem kn_J (C : CS) : ∀ k, (k < 9 ∨ 18 ≤ k) → (F_X1_copyFrom_kn C).2.1 k = C.2.1 k := by
  intro k hk
  unfold F_X1_copyFrom_kn F_X3_copyFrom_kn F_X0_copyFrom_kn F_X2_copyFrom_kn
  simp only [pz_bnd, pz_LI, pz_RI, pz_I]
  repeat rw [if_neg (by omega)]
theorem kn_L (C : CS) : (F_X1_copyFrom_kn C).2.2 1 = C.2.2 0 ∧ (F_X1_copyFrom_kn C).2.2 0 = C.2.2 0 := by
  unfold F_X1_copyFrom_kn F_X3_copyFrom_kn F_X0_copyFrom_kn F_X2_copyFrom_kn
  simp [pz_bnd, pz_IL, pz_RL, pz_L]
def cpG (f g : Nat → Int32) (i : Nat) : Nat → Int32 := fun x => if x < i then g x else f x
theorem cpG_0 (f g : Nat → Int32) : cpG f g 0 = f := by
  funext x
  exact if_neg (by omega)
theorem cpG_s (f g : Nat → Int32) (i : Nat) : upd (cpG f g i) i (g i) = cpG f g (i + 1) := by
  funext x
  unfold upd cpG
  by_cases c : x = i
  · rw [if_pos c, if_pos (by omega), c]
  · rw [if_neg c]
    by_cases d : x < i
    · rw [if_pos d, if_pos (by omega)]
    · rw [if_neg d, if_neg (by omega)]
theorem pz_R_self (C : CS) (k : Nat) : sR C k (C.1 k) = C := by
  have e3 : (fun j => if j = k then C.1 k else C.1 j) = C.1 := by
    funext j
    by_cases q : j = k
    · rw [if_pos q, q]
    · rw [if_neg q]
  unfold sR
  rw [e3]
theorem pz_save (M : CS) : S_X7_save M ∧ F_X7_save M = (M.1 0 400, sI (sL (sR (sI M 1 1) 2 (cpG (M.1 2) (M.1 0) 1787)) 2 (M.2.2 0)) 0 0) := by
  have f : ((1787 : Int32).toInt - (0 : Int32).toInt).toNat + 1 = 1787 + 1 := pz_fu (n := 1787) (by omega)
  unfold S_X7_save F_X7_save
  rw [pz_bnd, pz_bnd, f]
  refine pz_bo (fun i s => s = (nI i, sR (sI M 1 1) 2 (cpG (M.1 2) (M.1 0) i))) (fun r => r = (M.1 0 400, sI (sL (sR (sI M 1 1) 2 (cpG (M.1 2) (M.1 0) 1787)) 2 (M.2.2 0)) 0 0)) 1787 (fun i s hi hs => ?_) (fun s hs => ?_) 1787 0 (0, sI M 1 1) (by omega) ?_
  · subst hs
    show Sst_X7_save_7 (nI i) (sR (sI M 1 1) 2 (cpG (M.1 2) (M.1 0) i)) ∧ ((∃ s', st_X7_save_7 (nI i) (sR (sI M 1 1) 2 (cpG (M.1 2) (M.1 0) i)) = .inl s' ∧ _) ∨ _)
    have e3 : ¬ (1787 : Int32) ≤ nI i := pz_ge (b := 1787) hi (by omega)
    unfold Sst_X7_save_7 st_X7_save_7
    rw [if_neg e3, if_neg e3, pz_bnd, nI_clamp (by omega), pz_RR, pz_s1]
    refine ⟨⟨pz_vin hi, pz_vin hi, trivial⟩, .inl ⟨_, rfl, ?_⟩⟩
    show (nI (i + 1), sR (sI M 1 1) 2 (upd (cpG (M.1 2) (M.1 0) i) i (M.1 0 i))) = _
    rw [cpG_s]
  · subst hs
    show Sst_X7_save_7 (nI 1787) _ ∧ ∃ r, st_X7_save_7 (nI 1787) _ = .inr r ∧ _
    have e3 : (1787 : Int32) ≤ nI 1787 := pz_leR 1787 (by omega)
    unfold Sst_X7_save_7 st_X7_save_7
    rw [if_pos e3, if_pos e3]
    exact ⟨trivial, _, rfl, rfl⟩
  · rw [cpG_0]
    exact congrArg (fun z => ((0 : Int32), z)) (pz_R_self (sI M 1 1) 2).symm
theorem sim_save {C M : CS} (hR : Rel C M) : S_X7_save M ∧ (F_X6_save C).1 = (F_X7_save M).1 ∧ Rel (F_X6_save C).2 (F_X7_save M).2 := by
  obtain ⟨⟨n, h⟩, ⟨k, a1, a2, a3, a4, a5, a6⟩, h3⟩ := id hR
  have h : RN n C M := h
  obtain ⟨s1, s2⟩ := pz_save M
  refine ⟨s1, ?_⟩
  rw [s2]
  have eC : F_X6_save C = (C.2.1 5, sI (F_X1_copyFrom_kn C) 21 1) := by
    unfold F_X6_save
    rw [pz_bnd, pz_bnd, pz_I, if_neg (by omega), kn_J C 5 (by omega)]
  rw [eC]
  refine ⟨h.c5.trans h.m4.symm, ⟨n, ?_⟩, ⟨k, a1, ?_, a3, fun i hi => ?_, ?_, ?_⟩, fun _ => ⟨n, ?_⟩⟩
  · refine RelN.cgp h (fun j hj i hi => ?_) (fun j hj => ?_) ?_ (fun x hx => rfl) rfl
    · rw [pz_IR, kn_o C j (by omega)]
    · rw [pz_I, if_neg (by omega), kn_J C j (by omega)]
    · rw [pz_IL]
      exact (kn_L C).2
  · rw [pz_I, if_neg (by omega), kn_J C 18 (by omega), a2]
  · rw [pz_IR, kn_o C 42 (by omega)]
    exact a4 i hi
  · rw [pz_I, if_neg (by omega), kn_J C 22 (by omega)]
    exact a5
  · rw [pz_I, if_pos rfl]
    rfl
  · refine RelN.cgp h (fun j hj i hi => ?_) (fun j hj => ?_) ?_ (fun x hx => ?_) rfl
    · show (sI (F_X1_copyFrom_kn C) 21 1).1 (j + 21) i = _
      rw [pz_IR]
      exact kn_R C j hj i hi
    · show (sI (F_X1_copyFrom_kn C) 21 1).2.1 (j + 9) = _
      rw [pz_I, if_neg (by omega)]
      exact kn_I C j hj
    · rw [pz_IL]
      exact (kn_L C).1
    · exact if_pos hx
