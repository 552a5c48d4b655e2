/-! pure: take and add -/
def Tkn (n' : Nat) (C M D N : CS) : Prop := FrC C D ∧ FrM M N ∧ RN n' D N ∧ D.2.1 0 = C.2.1 0 ∧ D.2.1 2 = C.2.1 2
theorem RN.tk {n : Nat} {C M : CS} (r0 : RN n C M) {kk : Nat} (hk8 : kk < 8) {t : Int32} (ht : rng t 0 9999) (v : Int32) (hroom : F_X7_isLateNow M t = 0 → n ≤ 99) :
    S_X7_comes M (nI kk) t v ∧ (F_X1_take C (nI kk) t v).1 = (F_X7_comes M (nI kk) t v).1 ∧ Tkn (if F_X7_isLateNow M t = 0 then n + 1 else n) C M (F_X1_take C (nI kk) t v).2 (F_X7_comes M (nI kk) t v).2 := by
  have hn := r0.n
  by_cases hl : F_X7_isLateNow M t = 0
  · have hn9 := hroom hl
    rw [if_pos hl]
    have rN := r0.new hn9 hk8 ht v
    have e0 : ∀ y, lpS (fun (z : Int32 × CS) => st_X7_comes_175 (nI kk) M z.1 z.2) (fun (z : Int32 × CS) => Sst_X7_comes_175 (nI kk) M z.1 z.2) 101 (1, mG M (nwG (M.1 0) n (nI kk) t v) (M.2.2 0)) → lp (fun (z : Int32 × CS) => st_X7_comes_175 (nI kk) M z.1 z.2) (.inr (0, M)) 101 (1, mG M (nwG (M.1 0) n (nI kk) t v) (M.2.2 0)) = .inr y → S_X7_comes M (nI kk) t v ∧ F_X7_comes M (nI kk) t v = y := by
      intro y
      have := pz_form M (M.1 0) (M.2.2 0) (n := n) (nI kk) t v r0.m4 r0.m14 hn9 (by rw [mG_self]; exact hl) y
      rw [mG_self] at this
      exact this
    obtain ⟨M2, eM2⟩ : ∃ M2, M2 = mG M (nwG (M.1 0) n (nI kk) t v) (M.2.2 0) := ⟨_, rfl⟩
    obtain ⟨C2, eC2⟩ : ∃ C2, C2 = kpC (foC C n (nI kk) t) n t v (nI n) := ⟨_, rfl⟩
    rw [← eM2] at e0
    rw [← eM2, ← eC2] at rN
    have hfC : FrC C C2 := by
      rw [eC2]
      unfold kpC foC
      exact (FrC.r (by omega)).tr ((FrC.r (by omega)).tr ((FrC.r (by omega)).tr ((FrC.r (by omega)).tr ((FrC.r (by omega)).tr ((FrC.r (by omega)).tr ((FrC.i (by omega)).tr ((FrC.r (by omega)).tr ((FrC.r (by omega)).tr ((FrC.r (by omega)).tr (FrC.i (by omega)))))))))))
    have hfM : FrM M M2 := by rw [eM2]; exact mG_fr _ _ _
    have hC0 : C2.1 0 = C.1 0 := by rw [eC2]; rfl
    have hI0 : C2.2.1 0 = C.2.1 0 := by rw [eC2]; rfl
    have hI2 : C2.2.1 2 = C.2.1 2 := by rw [eC2]; rfl
    have how : mK (M2.1 0) n 3 = nI n := by rw [eM2, mG_g, nw_r (by omega)]; rfl
    obtain ⟨C', M', o', x1, ⟨y1, y2, y3, y4, y5, y6⟩, x3⟩ := RN.mal (n := n + 1) (0, C2) (.inr (0, M)) M hk8 (own := n) (by omega) (M2.1 0 (1402 + kk)) 100 C2 M2 0 100 (nI n) rN (Nat.le_trans (pz_cN_le _ _) (by omega)) (by omega) (by omega) (by omega) how rfl
    have eMA : F_X1_mergeAll C2 (nI kk) (nI n) = (o', C') := by
      unfold F_X1_mergeAll
      rw [pz_bnd, pz_rAt _ hk8 (by omega), (rN.gap hk8).1]
      exact x1
    have eT : F_X1_take C (nI kk) t v = (if C'.2.1 1 ≤ 0 then (o', C') else bnd (F_X3_countOf C' o') (fun r11 => if (r11 - r11 / C'.2.1 1 * C'.2.1 1) = 0 then (bnd ((F_X1_letFire C' o' 0).2) (fun u15 => (bnd ((F_X1_letFire C' o' 0).1) (fun r14 => (o', u15))))) else (o', C'))) := by
      unfold F_X1_take
      rw [r0.isl, hl, pz_bnd, if_pos rfl, pz_foC r0.c6 hn9]
      simp only [pz_bnd]
      rw [pz_keep (show (foC C n (nI kk) t).2.1 5 = nI n from r0.c5) hn9, ← eC2, eMA]
    obtain ⟨b, hb, eb, _, hb0⟩ := y3.own (show n < n + 1 by omega)
    have eo : o' = nI b := y5.symm.trans eb
    have hst : stB (M'.1 0) b = true := decide_eq_true hb0
    have tri := y3.tri
    have hn1 := y3.n
    have ec : (4 * M.1 0 400 + 3 : Int32).toNatClampNeg = 4 * n + 3 := by rw [r0.m4]; exact pz_rc3 (by omega)
    have ev : vp_in (4 * M.1 0 400 + 3 : Int32) 1787 := by rw [r0.m4]; exact pz_rv3 (by omega)
    have eO : M'.1 0 (4 * n + 3) = nI b := eb
    by_cases c1 : M'.1 0 1420 ≤ 0
    · have sx := x3 (.inr (nI b, M')) (by
          unfold st_X7_comes_175
          rw [if_pos rfl, if_pos c1, ec, eO]) (by
          unfold Sst_X7_comes_175
          rw [if_pos rfl, if_pos c1]
          exact ⟨ev, trivial⟩)
      obtain ⟨s1, s2⟩ := e0 (nI b, M') sx.1 sx.2
      rw [eT, tri.1, if_pos c1, s2, eo]
      exact ⟨s1, rfl, hfC.tr y1, hfM.tr y2, y3, (y4 0 (by omega)).trans hI0, (y4 2 (by omega)).trans hI2⟩
    · have hm := pz_many y3.m4 hn1 (nI b)
      by_cases c2 : (nI (cN (ownB (M'.1 0) (nI b)) (n + 1)) - nI (cN (ownB (M'.1 0) (nI b)) (n + 1)) / M'.1 0 1420 * M'.1 0 1420) = 0
      · obtain ⟨f1, f2, f3⟩ := y3.fires (kd := 0) (by omega) hb hst
        have sx := x3 (.inr (nI b, (F_X7_fires M' (nI 0) (nI b)).2)) (by
            unfold st_X7_comes_175
            rw [if_pos rfl, if_neg c1, ec, eO, hm.2]
            simp only [pz_bnd]
            rw [if_pos c2]
            rfl) (by
            unfold Sst_X7_comes_175
            rw [if_pos rfl, if_neg c1, ec, eO, hm.2]
            simp only [pz_bnd]
            rw [if_pos c2]
            exact ⟨ev, hm.1, fun hh => c1 (by rw [hh]; decide), f1, trivial⟩)
        obtain ⟨s1, s2⟩ := e0 _ sx.1 sx.2
        rw [eT, tri.1, if_neg c1, s2, eo, y3.cof, pz_bnd, if_pos c2]
        exact ⟨s1, rfl, hfC.tr (y1.tr f3.1), hfM.tr (y2.tr f3.2.1), f3.2.2.1, (f3.2.2.2.2.1 0 (by omega)).trans ((y4 0 (by omega)).trans hI0), (f3.2.2.2.2.1 2 (by omega)).trans ((y4 2 (by omega)).trans hI2)⟩
      · have sx := x3 (.inr (nI b, M')) (by
            unfold st_X7_comes_175
            rw [if_pos rfl, if_neg c1, ec, eO, hm.2]
            simp only [pz_bnd]
            rw [if_neg c2]) (by
            unfold Sst_X7_comes_175
            rw [if_pos rfl, if_neg c1, ec, eO, hm.2]
            simp only [pz_bnd]
            rw [if_neg c2]
            exact ⟨ev, hm.1, fun hh => c1 (by rw [hh]; decide), trivial⟩)
        obtain ⟨s1, s2⟩ := e0 _ sx.1 sx.2
        rw [eT, tri.1, if_neg c1, s2, eo, y3.cof, pz_bnd, if_neg c2]
        exact ⟨s1, rfl, hfC.tr y1, hfM.tr y2, y3, (y4 0 (by omega)).trans hI0, (y4 2 (by omega)).trans hI2⟩
  · rw [if_neg hl]
    have eT : F_X1_take C (nI kk) t v = (-1, sI C 3 (M.1 0 1421 + 1)) := by
      unfold F_X1_take
      rw [r0.isl, pz_bnd, if_neg hl, r0.late]
      rfl
    have eM : F_X7_comes M (nI kk) t v = (-1, sR M 0 (upd (M.1 0) 1421 (M.1 0 1421 + 1))) := by
      unfold F_X7_comes
      rw [pz_bnd, if_neg hl]
      rfl
    have eS : S_X7_comes M (nI kk) t v := by
      unfold S_X7_comes
      rw [pz_bnd, if_neg hl]
      exact trivial
    obtain ⟨m1, m2, n', m3⟩ := pz_putI r0 (k := 3) (x := 1421) (v := M.1 0 1421 + 1) (.inr (.inr (.inr (.inl ⟨rfl, rfl⟩))))
    have m3 : RN n' (sI C 3 (M.1 0 1421 + 1)) (sR M 0 (upd (M.1 0) 1421 (M.1 0 1421 + 1))) := m3
    have en : n' = n := by
      have e1 : nI n' = nI n := m3.c5.symm.trans r0.c5
      exact (nI_eq (by have := m3.n; omega) (by omega)).mp e1
    subst en
    rw [eT, eM]
    exact ⟨eS, rfl, m1, m2, m3, rfl, rfl⟩
theorem sim_add {C M : CS} (hR : Rel C M) (q1 : Int32) (q2 : Int32) (q3 : Int32) : S_X7_add M q1 q2 q3 ∧ SimI ["java/lang/IndexOutOfBoundsException", "java/lang/IllegalArgumentException", "java/lang/IllegalStateException"] (F_X6_add C q1 q2 q3).1 (F_X7_add M q1 q2 q3).1 ((F_X7_add M q1 q2 q3).2.2.1 0) ∧ Rel (F_X6_add C q1 q2 q3).2 (F_X7_add M q1 q2 q3).2 := by
  obtain ⟨n, h⟩ := hR.rn
  have hn := h.n
  unfold S_X7_add F_X6_add F_X7_add
  rw [pz_needKey, pz_needWithin]
  have eL : F_X7_lacks M q1 q2 = if F_X7_isKey q1 = 0 then 1 else if F_X7_in q2 0 9999 = 0 then 2 else if F_X7_isLateNow M q2 = 0 then if n = 100 then 3 else 0 else 0 := by
    unfold F_X7_lacks
    have e : M.1 0 400 = 100 ↔ n = 100 := by rw [h.m4]; exact nI_eq (b := 100) (by omega) (by omega)
    simp only [pz_bnd, e]
  rw [eL]
  by_cases hk : F_X7_isKey q1 = 0
  · simp only [hk, pz_bnd, if_true, pz_wl, if_neg pz_i10]
    exact ⟨trivial, simI_l rfl pz_i10, rel_thr hR 1⟩
  · obtain ⟨kk, hk8, e⟩ := pz_keyN hk
    subst e
    by_cases hv : F_X7_in q2 0 9999 = 0
    · simp only [hk, hv, pz_bnd, if_true, if_false, pz_wl, pz_wr, if_neg pz_i20]
      exact ⟨trivial, simI_l rfl pz_i20, rel_thr hR 2⟩
    · have hr := pz_inN (lo := 0) (hi := 9999) (by omega) (by omega) hv
      simp only [hk, hv, pz_bnd, if_false, pz_wr, h.isl]
      have e100 : C.2.1 5 < 100 ↔ n < 100 := by rw [h.c5]; exact nI_ltI (b := 100) (by omega) (by omega)
      by_cases hl : F_X7_isLateNow M q2 = 0
      · simp only [hl, if_true]
        by_cases c : n = 100
        · rw [if_pos c, if_neg pz_i30, if_neg pz_i30, if_neg (fun hh => by have := e100.mp hh; omega)]
          exact ⟨trivial, simI_l rfl pz_i30, rel_thr hR 3⟩
        · obtain ⟨t1, t2, t3⟩ := h.tk hk8 hr q3 (fun _ => by omega)
          rw [if_neg c, if_pos rfl, if_pos rfl, if_pos (e100.mpr (by omega))]
          exact ⟨⟨t1, trivial⟩, simI_r t2, rel_thr (rel_fr hR ⟨t3.1, t3.2.1, _, t3.2.2.1⟩) 0⟩
      · obtain ⟨t1, t2, t3⟩ := h.tk hk8 hr q3 (fun hh => absurd hh hl)
        have key : Sm C M (F_X1_take C (nI kk) q2 q3).2 (F_X7_comes M (nI kk) q2 q3).2 := ⟨t3.1, t3.2.1, _, t3.2.2.1⟩
        have rel := rel_thr (rel_fr hR key) 0
        clear t3 key
        simp only [hl, if_false]
        rw [if_pos trivial, if_pos trivial]
        refine ⟨⟨t1, trivial⟩, ?_⟩
        clear t1
        rw [ite_self]
        generalize F_X1_take C (nI kk) q2 q3 = T at t2 rel ⊢
        generalize F_X7_comes M (nI kk) q2 q3 = N at t2 rel ⊢
        exact ⟨simI_r t2, rel⟩
