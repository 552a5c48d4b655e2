/-! pure: fire -/
theorem pz_resC {C D : CS} (h1 : D.1 1 = C.1 1) (h3 : D.1 3 = C.1 3) (h4 : D.1 4 = C.1 4) (h5 : D.1 5 = C.1 5) (hI : D.2.1 5 = C.2.1 5) (q : Int32) : F_X1_resultOf D q = F_X1_resultOf C q := by
  have e : ∀ (x w : Int32), (fun (z : Int32 × Int32) => st_X3_fold_8 x w D z.1 z.2) = (fun (z : Int32 × Int32) => st_X3_fold_8 x w C z.1 z.2) := fun x w => by
    funext z
    unfold st_X3_fold_8
    rw [hI, h3, h4]
  unfold F_X1_resultOf F_X3_fold
  simp only [pz_bnd]
  rw [h5, h1, hI, e]
theorem Fst.res {n b : Nat} {C M D N : CS} (h : Fst n b C M D N) (h0 : RN n C M) {j : Nat} (hj : j < n) (hs : stB (M.1 0) j = true) : F_X7_resultOf N (nI j) = F_X7_resultOf M (nI j) := by
  have hn := h0.n
  have hs2 : stB (N.1 0) j = true := by rw [h.st (by omega)]; exact hs
  rw [← (h.2.2.1.res hj hs2).1, ← (h0.res hj hs).1]
  exact pz_resC (h.2.2.2.1 1 (by omega)) (h.2.2.2.1 3 (by omega)) (h.2.2.2.1 4 (by omega)) (h.2.2.2.1 5 (by omega)) (h.2.2.2.2.1 5 (by omega)) _
theorem pz_fiN (M : CS) (q1 q2 : Int32) (h : ¬ F_X7_of M q2 5 = 1) : F_X7_fires M q1 q2 = (1, fpM M q1 q2) := by
  unfold F_X7_fires fpM
  simp only [pz_bnd, if_neg h]
  rfl
theorem pz_fi0 (M : CS) (q2 : Int32) (h : F_X7_of M q2 5 = 1) (ho : F_X7_isOther M q2 = 0) : F_X7_fires M 0 q2 = (0, M) := by
  unfold F_X7_fires
  simp only [pz_bnd, if_pos h, ho, if_true]
theorem pz_fi1 (M : CS) (q1 q2 : Int32) (h : F_X7_of M q2 5 = 1) (ho : F_X7_isOther M q2 = 0) (h1 : ¬ q1 = 0) : F_X7_fires M q1 q2 = (1, fpM M q1 q2) := by
  unfold F_X7_fires fpM
  simp only [pz_bnd, if_pos h, ho, if_true, if_neg h1]
  rfl
theorem pz_fi2 (M : CS) (q1 q2 : Int32) (h : F_X7_of M q2 5 = 1) (ho : ¬ F_X7_isOther M q2 = 0) : F_X7_fires M q1 q2 = (2, fpM (F_X7_takesBack M q2) q1 q2) := by
  unfold F_X7_fires fpM
  simp only [pz_bnd, if_pos h, if_neg ho]
  rfl
theorem pz_fsN (M : CS) (q1 q2 : Int32) (h : ¬ F_X7_of M q2 5 = 1) (h0 : S_X7_of M q2 5) (hp : fpS M q1 q2) : S_X7_fires M q1 q2 := by
  unfold S_X7_fires
  refine ⟨h0, ?_⟩
  simp only [pz_bnd, if_neg h]
  exact hp
theorem pz_fs0 (M : CS) (q2 : Int32) (h : F_X7_of M q2 5 = 1) (ho : F_X7_isOther M q2 = 0) (h0 : S_X7_of M q2 5) (hs : S_X7_isOther M q2) : S_X7_fires M 0 q2 := by
  unfold S_X7_fires
  refine ⟨h0, ?_⟩
  simp only [pz_bnd, if_pos h, ho, if_true]
  exact ⟨hs, trivial⟩
theorem pz_fs1 (M : CS) (q1 q2 : Int32) (h : F_X7_of M q2 5 = 1) (ho : F_X7_isOther M q2 = 0) (h1 : ¬ q1 = 0) (h0 : S_X7_of M q2 5) (hs : S_X7_isOther M q2) (hp : fpS M q1 q2) : S_X7_fires M q1 q2 := by
  unfold S_X7_fires
  refine ⟨h0, ?_⟩
  simp only [pz_bnd, if_pos h, ho, if_true, if_neg h1]
  exact ⟨hs, hp⟩
theorem pz_fs2 (M : CS) (q1 q2 : Int32) (h : F_X7_of M q2 5 = 1) (ho : ¬ F_X7_isOther M q2 = 0) (h0 : S_X7_of M q2 5) (hs : S_X7_isOther M q2) (ht : S_X7_takesBack M q2) (hp : fpS (F_X7_takesBack M q2) q1 q2) : S_X7_fires M q1 q2 := by
  unfold S_X7_fires
  refine ⟨h0, ?_⟩
  simp only [pz_bnd, if_pos h, if_neg ho]
  exact ⟨hs, ht, hp⟩
theorem RN.fires {n : Nat} {C M : CS} (h : RN n C M) {kd b : Nat} (hk : kd < 3) (hb : b < n) (hs : stB (M.1 0) b = true) : S_X7_fires M (nI kd) (nI b) ∧ (F_X1_letFire C (nI b) (nI kd)).1 = (F_X7_fires M (nI kd) (nI b)).1 ∧ Fst n b C M (F_X1_letFire C (nI b) (nI kd)).2 (F_X7_fires M (nI kd) (nI b)).2 := by
  have hn := h.n
  have hb' : b < 100 := by omega
  have e5 := pz_of5 (M := M) hb'
  have hr := (h.res hb hs).1
  have hk0 : nI kd = 0 ↔ kd = 0 := nI_eq (b := 0) (by omega) (by omega)
  rcases h.fdr hb with hf | hf
  · have f2 : mB (M.1 0) b 5 = 0 := (h.fd hb).symm.trans hf
    have f3 : ¬ F_X7_of M (nI b) 5 = 1 := by rw [e5, f2]; exact pz_i01
    have hp := h.fp hk hb hs
    rw [pz_fiN M _ _ f3]
    have eC : F_X1_letFire C (nI b) (nI kd) = (1, fpC C (nI b) (nI kd) (F_X7_resultOf M (nI b))) := by
      unfold F_X1_letFire fpC
      simp only [pz_bnd, h.hf hb, f2, if_neg pz_i01, if_true, hr]
    rw [eC]
    exact ⟨pz_fsN M _ _ f3 (pz_oS5 hb') hp.1, rfl, hp.2⟩
  · have f2 : mB (M.1 0) b 5 = 1 := (h.fd hb).symm.trans hf
    have f3 : F_X7_of M (nI b) 5 = 1 := by rw [e5, f2]
    have ho := h.oth hb hs hf
    by_cases c : F_X7_isOther M (nI b) = 0
    · by_cases c2 : kd = 0
      · subst c2
        have eC : F_X1_letFire C (nI b) (nI 0) = (0, C) := by
          unfold F_X1_letFire
          simp only [pz_bnd, h.hf hb, f2, if_true, if_neg pz_i10, hr, ho.1, c]
          exact if_pos rfl
        rw [eC, show nI 0 = (0 : Int32) from rfl, pz_fi0 M _ f3 c]
        exact ⟨pz_fs0 M _ f3 c (pz_oS5 hb') ho.2, rfl, FrC.rf C, FrM.rf M, h, fun _ _ => rfl, fun _ _ => rfl, fun _ _ _ => rfl⟩
      · have c3 : ¬ nI kd = 0 := fun hh => c2 (hk0.mp hh)
        have hp := h.fp hk hb hs
        have eC : F_X1_letFire C (nI b) (nI kd) = (1, fpC C (nI b) (nI kd) (F_X7_resultOf M (nI b))) := by
          unfold F_X1_letFire fpC
          simp only [pz_bnd, h.hf hb, f2, if_true, if_neg pz_i10, hr, ho.1, c, if_neg c3]
        rw [eC, pz_fi1 M _ _ f3 c c3]
        exact ⟨pz_fs1 M _ _ f3 c c3 (pz_oS5 hb') ho.2 hp.1, rfl, hp.2⟩
    · obtain ⟨k1, k2, k3⟩ := h.back hb hs hf
      have hs2 : stB ((F_X7_takesBack M (nI b)).1 0) b = true := by rw [k2.st hb']; exact hs
      have hp := k2.2.2.1.fp hk hb hs2
      have hr2 := k2.res h hb hs
      have eC : F_X1_letFire C (nI b) (nI kd) = (2, fpC (F_X1_retract C (nI b)) (nI b) (nI kd) (F_X7_resultOf (F_X7_takesBack M (nI b)) (nI b))) := by
        unfold F_X1_letFire fpC
        simp only [pz_bnd, h.hf hb, f2, if_true, if_neg pz_i10, hr, ho.1, if_neg c, hr2]
      rw [eC, pz_fi2 M _ _ f3 c]
      exact ⟨pz_fs2 M _ _ f3 c (pz_oS5 hb') ho.2 k1 hp.1, rfl, k2.tr hp.2⟩
theorem sim_fire {C M : CS} (hR : Rel C M) (q1 : Int32) : S_X7_fire M q1 ∧ SimI ["java/lang/IndexOutOfBoundsException", "java/lang/IllegalStateException"] (F_X6_fire C q1).1 (F_X7_fire M q1).1 ((F_X7_fire M q1).2.2.1 0) ∧ Rel (F_X6_fire C q1).2 (F_X7_fire M q1).2 := by
  obtain ⟨n, h⟩ := hR.rn
  have hn := h.n
  unfold S_X7_fire F_X6_fire F_X7_fire F_X6_needBurst F_X6_needOpen
  rw [h.st, h.op]
  by_cases hk : F_X7_isBurst M q1 = 0
  · simp only [hk, pz_bnd, if_true, pz_wl]
    exact ⟨⟨h.bS _, trivial⟩, simI_l rfl pz_i10, rel_thr hR 1⟩
  · obtain ⟨b, hb, e, hs⟩ := h.bN hk
    subst e
    simp only [hk, pz_bnd, if_false, pz_wr]
    by_cases ho : F_X7_isOpen M (nI b) = 0
    · simp only [ho, if_true, pz_wl]
      exact ⟨⟨h.bS _, h.oS _, trivial⟩, simI_l rfl pz_i20, rel_thr hR 2⟩
    · simp only [ho, if_false, pz_wr]
      obtain ⟨a1, a2, a3⟩ := h.fires (kd := 0) (by omega) hb hs
      exact ⟨⟨h.bS _, h.oS _, a1, trivial⟩, simI_r a2, rel_thr (rel_fr hR ⟨a3.1, a3.2.1, n, a3.2.2.1⟩) 0⟩
