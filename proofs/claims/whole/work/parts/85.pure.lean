/-! pure: the log told; the text's last wrong place -/
theorem sim_firing {C M : CS} (hR : Rel C M) (q1 : Int32) (q2 : Int32) : S_X7_firing M q1 q2 ∧ SimI ["java/lang/IndexOutOfBoundsException", "java/lang/IllegalArgumentException"] (F_X6_firing C q1 q2) (F_X7_firing M q1 q2).1 ((F_X7_firing M q1 q2).2.2.1 0) ∧ Rel C (F_X7_firing M q1 q2).2 := by
  obtain ⟨n, h⟩ := hR.rn
  obtain ⟨q, o, a1, a2, a3, a4, a5, a6, a7, a8⟩ := h.2.2.2.2
  unfold S_X7_firing F_X6_firing F_X7_firing
  rw [a5, pz_m1 (show q ≤ 100 by omega), a4, pz_needWithin]
  rcases pz_cases (q := q1) q (by omega) with ⟨i, hi, e⟩ | hc | hc
  · subst e
    have c1 : ¬ nI i < 0 := pz_nlt0 (by omega)
    have c2 : ¬ nI q ≤ nI i := pz_ge hi (by omega)
    have c3 : nI i < nI q := (nI_ltI (by omega) (by omega)).mpr hi
    simp only [if_neg c1, if_neg c2, if_pos c3, pz_bnd, if_neg pz_i10]
    by_cases hv : F_X7_in q2 0 5 = 0
    · simp only [hv, if_true, pz_xl]
      exact ⟨trivial, simI_l rfl pz_i20, rel_thr hR 2⟩
    · simp only [hv, if_false, pz_xr]
      obtain ⟨j, _, hj, e⟩ := pz_inN (lo := 0) (hi := 5) (by omega) (by omega) hv
      subst e
      have e1 : (1427 + 6 * nI i + nI j : Int32) = nI (1427 + 6 * i + j) := by rw [pz_l0, nI_add]
      have e2 : F_X2_entry C (nI i) (nI j) = C.1 (14 + j) ((o + i) % 60) := by
        have hp : (o + i) % 60 < 60 := by omega
        unfold F_X2_entry
        rw [pz_plo a2 (by omega) a6]
        simp only [pz_bnd, pz_rAt _ hp (show 60 ≤ 2000 by omega)]
        have hj6 : j = 0 ∨ j = 1 ∨ j = 2 ∨ j = 3 ∨ j = 4 ∨ j = 5 := by omega
        rcases hj6 with e | e | e | e | e | e <;> subst e <;> rfl
      rw [e1, nI_clamp (by omega), e2, a7 j (by omega) i hi]
      exact ⟨⟨pz_vin (by omega), trivial⟩, simI_r rfl, rel_thr hR 0⟩
  · simp only [if_pos hc, pz_bnd, if_true]
    exact ⟨trivial, simI_l rfl pz_i10, rel_thr hR 1⟩
  · have c3 : ¬ q1 < nI q := Int32.not_lt.mpr hc.2
    simp only [if_neg hc.1, if_pos hc.2, if_neg c3, pz_bnd, if_true]
    exact ⟨trivial, simI_l rfl pz_i10, rel_thr hR 1⟩
theorem sim_errorPosition {C M : CS} (hR : Rel C M) : SimI ["java/util/NoSuchElementException"] (F_X6_errorPosition C) (F_X7_errorPosition M).1 ((F_X7_errorPosition M).2.2.1 0) ∧ Rel C (F_X7_errorPosition M).2 := by
  obtain ⟨k, a1, a2, a3, a4, a5, a6⟩ := hR.2.1
  unfold F_X6_errorPosition F_X7_errorPosition F_X6_needFound
  rw [a5]
  by_cases c : M.2.1 3 = -1
  · rw [if_pos c, if_pos c]
    exact ⟨simI_l rfl pz_i10, rel_thr hR 1⟩
  · rw [if_neg c, if_neg c]
    exact ⟨simI_r rfl, rel_thr hR 0⟩
