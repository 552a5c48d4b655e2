/-! pure: append -/
theorem pz_ch : ∀ k : Nat, k < 127 → (nI k).toUInt32.toUInt16.toUInt32.toInt32 = nI k := by decide
theorem pz_char {k : Nat} (h : k < 127) : vp_nar .char (nI k) = nI k := (vp_nar_char _).trans (pz_ch k h)
theorem sim_append {C M : CS} (hR : Rel C M) (q1 : Int32) (hq : ∃ k : Nat, k < 65536 ∧ q1 = nI k) : S_X7_append M q1 ∧ SimI ["java/lang/IllegalArgumentException", "java/lang/IllegalStateException"] (F_X6_append C q1).1 (F_X7_append M q1).1 ((F_X7_append M q1).2.2.1 0) ∧ Rel (F_X6_append C q1).2 (F_X7_append M q1).2 := by
  obtain ⟨⟨n, h⟩, ⟨k, a1, a2, a3, a4, a5, a6⟩, h3⟩ := id hR
  unfold S_X7_append F_X6_append F_X7_append
  rw [pz_needWithin]
  by_cases hv : F_X7_in q1 32 126 = 0
  · simp only [hv, pz_bnd, if_true, pz_wl]
    exact ⟨trivial, simI_l rfl pz_i10, rel_thr hR 1⟩
  · obtain ⟨c, _, hc, e⟩ := pz_inN (lo := 32) (hi := 126) (by omega) (by omega) hv
    subst e
    have e40 : nI k = 40 ↔ k = 40 := nI_eq (b := 40) (by omega) (by omega)
    have l40 : nI k < 40 ↔ k < 40 := nI_ltI (b := 40) (by omega) (by omega)
    simp only [hv, pz_bnd, if_false, pz_wr, a2, a3, e40, l40]
    by_cases c4 : k = 40
    · rw [if_pos c4, if_neg (show ¬ k < 40 by omega), if_pos c4]
      exact ⟨trivial, simI_l rfl pz_i20, rel_thr hR 2⟩
    · rw [if_neg c4, if_pos (show k < 40 by omega), if_neg c4]
      have eC : F_X5_lengthen C (nI c) = (nI (k + 1), sI (sR C 42 (upd (C.1 42) k (nI c))) 18 (nI (k + 1))) := by
        unfold F_X5_lengthen
        simp only [pz_bnd, a2, pz_rPut _ _ (show k < 40 by omega) (show 40 ≤ 2000 by omega), pz_RI, pz_s1]
        rfl
      rw [eC, nI_clamp (by omega), pz_char (by omega)]
      refine ⟨⟨vp_in_nI (by omega) (by omega), trivial⟩, simI_r ?_, ?_⟩
      · show nI (k + 1) = (sI (sR M 3 (upd (M.1 3) k (nI c))) 2 ((sR M 3 (upd (M.1 3) k (nI c))).2.1 2 + 1)).2.1 2
        rw [pz_I, if_pos rfl, pz_RI, a3, pz_s1]
      · refine rel_thr (M := sI (sR M 3 (upd (M.1 3) k (nI c))) 2 ((sR M 3 (upd (M.1 3) k (nI c))).2.1 2 + 1)) ⟨⟨n, ?_⟩, ⟨k + 1, by omega, ?_, ?_, fun i hi => ?_, ?_, ?_⟩, fun hh => ?_⟩ 0
        · refine RelN.cgp h (fun j hj i hi => ?_) (fun j hj => ?_) rfl (fun x hx => rfl) rfl
          · rw [pz_IR, pz_R, if_neg (by omega)]
          · rw [pz_I, if_neg (by omega), pz_RI]
        · rw [pz_I, if_pos rfl]
        · rw [pz_I, if_pos rfl, pz_RI, a3, pz_s1]
        · show upd (C.1 42) k (nI c) i = upd (M.1 3) k (nI c) i
          by_cases d : i = k
          · subst d
            rw [pz_updE, pz_updE]
          · rw [pz_updN d, pz_updN d]
            exact a4 i (by omega)
        · exact a5
        · exact a6
        · obtain ⟨m, hm⟩ := h3 hh
          refine ⟨m, RelN.cgp hm (fun j hj i hi => ?_) (fun j hj => ?_) rfl (fun x hx => rfl) rfl⟩
          · show (sI (sR C 42 (upd (C.1 42) k (nI c))) 18 (nI (k + 1))).1 (j + 21) i = _
            rw [pz_IR, pz_R, if_neg (by omega)]
          · show (sI (sR C 42 (upd (C.1 42) k (nI c))) 18 (nI (k + 1))).2.1 (j + 9) = _
            rw [pz_I, if_neg (by omega), pz_RI]
