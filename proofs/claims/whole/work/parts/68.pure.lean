/-! pure: the next to close -/
theorem RN.lcm {n : Nat} {C M : CS} (h : RN n C M) : ((∀ j, j < n → opB (M.1 0) j = false) ∧ F_X1_leastClosingMark C = 2147483647) ∨ ∃ b, b < n ∧ opB (M.1 0) b = true ∧ F_X1_leastClosingMark C = nI (bdN M b + 1) ∧ ∀ j, j < n → opB (M.1 0) j = true → bdN M b ≤ bdN M j := by
  have hn := h.n
  unfold F_X1_leastClosingMark
  rw [h.c6, pz_fu (by omega)]
  refine pz_ho (fun i (s : Int32 × Int32) => s.1 = nI i ∧ (((∀ j, j < i → opB (M.1 0) j = false) ∧ s.2 = 2147483647) ∨ ∃ b, b < i ∧ opB (M.1 0) b = true ∧ s.2 = nI (bdN M b + 1) ∧ ∀ j, j < i → opB (M.1 0) j = true → bdN M b ≤ bdN M j)) (fun r => ((∀ j, j < n → opB (M.1 0) j = false) ∧ r = 2147483647) ∨ ∃ b, b < n ∧ opB (M.1 0) b = true ∧ r = nI (bdN M b + 1) ∧ ∀ j, j < n → opB (M.1 0) j = true → bdN M b ≤ bdN M j) n (fun i s hi hs => .inl ?_) (fun s hs => ?_) n 0 (0, 2147483647) (by omega) ⟨rfl, .inl ⟨fun j hj => by omega, rfl⟩⟩
  · obtain ⟨x, a⟩ := s
    obtain ⟨e, hs⟩ := hs
    have e : x = nI i := e
    subst e
    show ∃ s', st_X1_leastClosingMark_5 C (nI i) a = .inl s' ∧ _
    unfold st_X1_leastClosingMark_5
    rw [h.c6, if_neg (pz_ge hi (by omega)), pz_bnd, h.opE hi, pz_bnd, (h.bdd hi).2.2.2, pz_s1]
    by_cases c1 : opB (M.1 0) i = true
    · rw [if_pos c1, if_neg pz_i10]
      refine ⟨_, rfl, rfl, .inr ?_⟩
      have h1 := (h.bdd hi).2.1
      rcases hs with ⟨h2, e⟩ | ⟨b, hb, ho, e, h2⟩
      · have e : a = 2147483647 := e
        subst e
        refine ⟨i, by omega, c1, ?_, fun j hj hoj => ?_⟩
        · show (if nI (bdN M i + 1) < 2147483647 then nI (bdN M i + 1) else 2147483647) = nI (bdN M i + 1)
          rw [if_pos (by rw [show (2147483647 : Int32) = nI 2147483647 from rfl, nI_ltI (by omega) (by omega)]; omega)]
        · rcases Nat.lt_or_ge j i with h3 | h3
          · rw [h2 j h3] at hoj; cases hoj
          · have e : j = i := by omega
            subst e
            exact Nat.le_refl _
      · have e : a = nI (bdN M b + 1) := e
        subst e
        have h3 := (h.bdd (show b < n by omega)).2.1
        have e3 : nI (bdN M i + 1) < nI (bdN M b + 1) ↔ bdN M i + 1 < bdN M b + 1 := nI_ltI (by omega) (by omega)
        by_cases c2 : bdN M i < bdN M b
        · refine ⟨i, by omega, c1, ?_, fun j hj hoj => ?_⟩
          · show (if nI (bdN M i + 1) < nI (bdN M b + 1) then nI (bdN M i + 1) else nI (bdN M b + 1)) = nI (bdN M i + 1)
            rw [if_pos (e3.mpr (by omega))]
          · rcases Nat.lt_or_ge j i with h4 | h4
            · have := h2 j h4 hoj
              omega
            · have e : j = i := by omega
              subst e
              exact Nat.le_refl _
        · refine ⟨b, by omega, ho, ?_, fun j hj hoj => ?_⟩
          · show (if nI (bdN M i + 1) < nI (bdN M b + 1) then nI (bdN M i + 1) else nI (bdN M b + 1)) = nI (bdN M b + 1)
            rw [if_neg (fun hh => by have := e3.mp hh; omega)]
          · rcases Nat.lt_or_ge j i with h4 | h4
            · exact h2 j h4 hoj
            · have e : j = i := by omega
              subst e
              omega
    · rw [if_neg c1, if_pos rfl]
      have c2 : opB (M.1 0) i = false := Bool.not_eq_true _ ▸ c1
      refine ⟨_, rfl, rfl, ?_⟩
      rcases hs with ⟨h2, e⟩ | ⟨b, hb, ho, e, h2⟩
      · refine .inl ⟨fun j hj => ?_, e⟩
        rcases Nat.lt_or_ge j i with h4 | h4
        · exact h2 j h4
        · have e : j = i := by omega
          subst e
          exact c2
      · refine .inr ⟨b, by omega, ho, e, fun j hj hoj => ?_⟩
        rcases Nat.lt_or_ge j i with h4 | h4
        · exact h2 j h4 hoj
        · have e : j = i := by omega
          subst e
          exact absurd hoj c1
  · obtain ⟨x, a⟩ := s
    obtain ⟨e, hs⟩ := hs
    have e : x = nI n := e
    subst e
    refine ⟨a, ?_, hs⟩
    show st_X1_leastClosingMark_5 C (nI n) a = .inr a
    unfold st_X1_leastClosingMark_5
    rw [h.c6, if_pos (pz_leR n (by omega))]
theorem sim_nextClosing {C M : CS} (hR : Rel C M) : S_X7_nextClosing M ∧ SimI ["java/util/NoSuchElementException"] (F_X6_nextClosing C) (F_X7_nextClosing M).1 ((F_X7_nextClosing M).2.2.1 0) ∧ Rel C (F_X7_nextClosing M).2 := by
  obtain ⟨n, h⟩ := hR.rn
  have hn := h.n
  have e1 : S_X7_nextClosing M ∧ F_X7_nextClosing M = (fun o : Option Nat => match o with | none => ((0 : Int32), sI M 0 1) | some k => (nI k, sI M 0 0)) (bsN (opB (M.1 0)) (fun b => bdN M b * 10000 + laN (M.1 0) b) n) := by
    unfold S_X7_nextClosing F_X7_nextClosing
    rw [h.m14, pz_fu (by omega)]
    refine pz_bsl (opB (M.1 0)) (fun b => bdN M b * 10000 + laN (M.1 0) b) (fun o : Option Nat => match o with | none => ((0 : Int32), sI M 0 1) | some k => (nI k, sI M 0 0)) n (fun i hi o ho => ?_) (fun o ho => ?_)
    · show Sst_X7_nextClosing_4 M (nI i) (oI o) ∧ st_X7_nextClosing_4 M (nI i) (oI o) = _
      unfold Sst_X7_nextClosing_4 st_X7_nextClosing_4
      rw [h.m14, if_neg (pz_ge hi (by omega)), if_neg (pz_ge hi (by omega)), pz_isO h.m14 hn hi]
      simp only [pz_bnd, (h.bdd hi).1, pz_s1, pz_of3 (show i < 100 by omega), (h.laE hi).1]
      cases c1 : opB (M.1 0) i
      · simp [h.oS]
      · cases o with
        | none => simp [pz_i10, oI, h.oS]
        | some b =>
          have hb := (ho b rfl).1
          rw [pz_oIsome, pz_of3 (by omega), (h.laE (show b < n by omega)).1, (h.bdd (show b < n by omega)).1]
          have h1 := (h.laE hi).2
          have h2 := (h.laE (show b < n by omega)).2
          have h3 := (h.bdd hi).2.1
          have h4 := (h.bdd (show b < n by omega)).2.1
          have e3 : nI (laN (M.1 0) b) ≤ nI (laN (M.1 0) i) ↔ laN (M.1 0) b ≤ laN (M.1 0) i := nI_leI (by omega) (by omega)
          have e4 : nI (bdN M i) < nI (bdN M b) ↔ bdN M i < bdN M b := nI_ltI (by omega) (by omega)
          have e5 : nI (bdN M i) = nI (bdN M b) ↔ bdN M i = bdN M b := nI_eq (by omega) (by omega)
          simp only [if_true, if_neg pz_i10, if_neg (pz_ne1 (show b < 2000 by omega)), e3, e4, e5]
          refine ⟨⟨h.oS _, (h.bdd hi).2.2.1, (h.bdd (show b < n by omega)).2.2.1, ?_⟩, ?_⟩
          · split
            · exact trivial
            · refine ⟨(h.bdd hi).2.2.1, (h.bdd (show b < n by omega)).2.2.1, ?_⟩
              split
              · exact ⟨pz_oS3 (by omega), pz_oS3 (by omega), trivial⟩
              · exact trivial
          · by_cases c2 : bdN M i < bdN M b
            · rw [if_pos c2, if_pos (by omega)]
              rfl
            · rw [if_neg c2]
              by_cases c3 : bdN M i = bdN M b
              · rw [if_pos c3]
                by_cases c4 : laN (M.1 0) b ≤ laN (M.1 0) i
                · rw [if_pos c4, if_neg (by omega)]
                  rfl
                · rw [if_neg c4, if_pos (by omega)]
                  rfl
              · rw [if_neg c3, if_neg (by omega)]
                rfl
    · show Sst_X7_nextClosing_4 M (nI n) (oI o) ∧ st_X7_nextClosing_4 M (nI n) (oI o) = _
      unfold Sst_X7_nextClosing_4 st_X7_nextClosing_4
      rw [h.m14, if_pos (pz_leR n (by omega)), if_pos (pz_leR n (by omega))]
      refine ⟨trivial, ?_⟩
      cases o with
      | none => rfl
      | some b =>
        rw [pz_oIsome, if_neg (pz_ne1 (show b < 2000 by have := ho b rfl; omega))]
        rfl
  have e2 : F_X1_firstToClose C (F_X1_leastClosingMark C) = oI (bsN (opB (M.1 0)) (fun b => bdN M b * 10000 + laN (M.1 0) b) n) := by
    rw [h.ftc]
    congr 1
    rcases h.lcm with ⟨h2, e⟩ | ⟨b, hb, ho, e, h2⟩
    · rw [e]
      have n1 : ∀ j, j < n → (opB (M.1 0) j && !decide ((2147483647 : Int32) < nI (bdN M j + 1))) = false := fun j hj => by rw [h2 j hj]; rfl
      cases e5 : bsN (fun b => opB (M.1 0) b && !decide ((2147483647 : Int32) < nI (bdN M b + 1))) (laN (M.1 0)) n with
      | some k =>
        obtain ⟨a1, a2, a3⟩ := pz_bs_some e5
        rw [n1 k a1] at a2
        cases a2
      | none =>
        cases e6 : bsN (opB (M.1 0)) (fun b => bdN M b * 10000 + laN (M.1 0) b) n with
        | none => rfl
        | some k =>
          obtain ⟨a1, a2, a3⟩ := pz_bs_some e6
          rw [h2 k a1] at a2
          cases a2
    · rw [e]
      have h3 := (h.bdd hb).2.1
      have n1 : ∀ j, j < n → (opB (M.1 0) j && !decide (nI (bdN M b + 1) < nI (bdN M j + 1))) = true → opB (M.1 0) j = true ∧ bdN M j = bdN M b := fun j hj hh => by
        have h4 := (h.bdd hj).2.1
        have e4 : nI (bdN M b + 1) < nI (bdN M j + 1) ↔ bdN M b + 1 < bdN M j + 1 := nI_ltI (by omega) (by omega)
        rw [Bool.and_eq_true, Bool.not_eq_true', decide_eq_false_iff_not, e4] at hh
        have := h2 j hj hh.1
        exact ⟨hh.1, by omega⟩
      have n2 : ∀ j, j < n → opB (M.1 0) j = true → bdN M j = bdN M b → (opB (M.1 0) j && !decide (nI (bdN M b + 1) < nI (bdN M j + 1))) = true := fun j hj h5 h6 => by
        have h4 := (h.bdd hj).2.1
        have e4 : nI (bdN M b + 1) < nI (bdN M j + 1) ↔ bdN M b + 1 < bdN M j + 1 := nI_ltI (by omega) (by omega)
        rw [Bool.and_eq_true, Bool.not_eq_true', decide_eq_false_iff_not, e4]
        exact ⟨h5, by omega⟩
      cases e6 : bsN (opB (M.1 0)) (fun b => bdN M b * 10000 + laN (M.1 0) b) n with
      | none => rw [pz_bs_none e6 b hb] at ho; cases ho
      | some k =>
        obtain ⟨a1, a2, a3⟩ := pz_bs_some e6
        have l1 := (h.laE a1).2
        have l2 := (h.laE hb).2
        have k1 := (a3 b hb ho).1
        have k2 := h2 k a1 a2
        have k3 : bdN M k = bdN M b := by omega
        refine pz_bs_of a1 (n2 k a1 a2 k3) (fun j hj hh => ?_)
        obtain ⟨g1, g2⟩ := n1 j hj hh
        have g3 := a3 j hj g1
        exact ⟨by omega, fun hlt => by have := g3.2 hlt; omega⟩
  refine ⟨e1.1, ?_⟩
  unfold F_X6_nextClosing
  rw [e1.2, pz_bnd, pz_bnd, e2]
  cases e : bsN (opB (M.1 0)) (fun b => bdN M b * 10000 + laN (M.1 0) b) n with
  | none =>
    rw [pz_nf0]
    exact ⟨simI_l rfl pz_i10, rel_thr hR 1⟩
  | some k =>
    have := (pz_bs_some e).1
    rw [pz_nf1 (by omega)]
    exact ⟨simI_r rfl, rel_thr hR 0⟩
