/-! pure: the whole relation; the settings, plain reads -/
def RTx (C M : CS) : Prop := ∃ k : Nat, k ≤ 40 ∧ C.2.1 18 = nI k ∧ M.2.1 2 = nI k ∧ (∀ i, i < k → C.1 42 i = M.1 3 i) ∧ C.2.1 22 = M.2.1 3 ∧ C.2.1 21 = M.2.1 1
def RKp (C M : CS) : Prop := RelG (fun k => C.1 (k + 21)) (fun k => C.2.1 (k + 9)) (C.2.2 1) (M.1 2) (M.2.2 2)
def RNow (C M : CS) : Prop := RelG C.1 C.2.1 (C.2.2 0) (M.1 0) (M.2.2 0)
def Rel (C M : CS) : Prop := RNow C M ∧ RTx C M ∧ (¬ C.2.1 21 = 0 → RKp C M)
theorem Rel.rn {C M : CS} (h : Rel C M) : ∃ n, RN n C M := h.1
theorem rel_thr {C M : CS} (h : Rel C M) (t : Int32) : Rel C (sI M 0 t) := h
theorem rel_fr {C M D N : CS} (h : Rel C M) (s : Sm C M D N) : Rel D N := by
  obtain ⟨h1, ⟨k, a1, a2, a3, a4, a5, a6⟩, h3⟩ := h
  obtain ⟨⟨f1, f2, f3⟩, ⟨g1, g2, g3⟩, r⟩ := s
  refine ⟨r, ⟨k, a1, by rw [f2 18 (by omega), a2], by rw [g2, a3], fun i hi => by rw [f1 42 (by omega), g1 3 (by omega), a4 i hi], by rw [f2 22 (by omega), g2, a5], by rw [f2 21 (by omega), g2, a6]⟩, fun hh => ?_⟩
  rw [f2 21 (by omega)] at hh
  have h4 := h3 hh
  unfold RKp at h4 ⊢
  rw [show (fun k => D.1 (k + 21)) = fun k => C.1 (k + 21) from funext fun k => f1 (k + 21) (by omega), show (fun k => D.2.1 (k + 9)) = fun k => C.2.1 (k + 9) from funext fun k => f2 (k + 9) (by omega), f3 1 (by omega), g1 2 (by omega), g3 2 (by omega)]
  exact h4
theorem simI_l {α : Type} {L : List String} {E : String} {b : α} {t : Int32} (h : t = wrK L E) (h0 : t ≠ 0) : SimI L (.inl E) b t := ⟨h, h0⟩
theorem simI_r {α : Type} {L : List String} {x b : α} (h : x = b) : SimI L (.inr x) b 0 := ⟨rfl, h⟩
theorem pz_i30 : ¬ (3 : Int32) = 0 := by decide
theorem pz_fails (M : CS) (t : Int32) : F_X7_fails M t = (0, sI M 0 t) := rfl
theorem pz_done (M : CS) (v : Int32) : F_X7_done M v = (v, sI M 0 0) := rfl
/-- a part stays true where the cells that it speaks of stay -/
theorem RSet.cg {R R' : Nat → Nat → Int32} {I I' : Nat → Int32} {S S' : Int64} {g g' : Nat → Int32} {B B' : Int64} {n : Nat} (h : RSet R I S g B n) (h0 : R' 0 = R 0) (h1 : R' 1 = R 1) (hI : ∀ k, k < 7 → I' k = I k) (hg : ∀ x, x = 400 ∨ (1401 ≤ x ∧ x < 1423) → g' x = g x) (hS : S' = B') : RSet R' I' S' g' B' n := by
  obtain ⟨a1, a2, a3, a4, a5, a6, a7, a8, a9, a10, a11, a12, a13, a14, a15⟩ := h
  refine ⟨by rw [hI 5 (by omega), a1], by rw [hI 6 (by omega), a2], by rw [hg 400 (by omega), a3], by rw [hg 1401 (by omega), a4], fun k hk => ?_, fun k hk => ?_, ?_, ?_, ?_, ?_, ?_, ?_, ?_, ?_, hS⟩
  · rw [h0, hg (1402 + k) (by omega)]; exact a5 k hk
  · rw [h1, hg (1410 + k) (by omega)]; exact a6 k hk
  · rw [hI 0 (by omega), hg 1419 (by omega), a7]
  · rw [hg 1419 (by omega)]; exact a8
  · rw [hI 1 (by omega), hg 1420 (by omega), a9]
  · rw [hg 1420 (by omega)]; exact a10
  · rw [hI 2 (by omega), hg 1418 (by omega), a11]
  · rw [hg 1418 (by omega)]; exact a12
  · rw [hI 3 (by omega), hg 1421 (by omega), a13]
  · rw [hI 4 (by omega), hg 1422 (by omega), a14]
theorem RB1.cg {R R' : Nat → Nat → Int32} {g g' : Nat → Int32} {b : Nat} (h : RB1 R g b) (hR : ∀ k, 5 ≤ k → k < 14 → R' k b = R k b) (hg : ∀ w, w < 10 → mB g' b w = mB g b w) : RB1 R' g' b := by
  unfold RB1 at h ⊢
  rw [hR 5 (by omega) (by omega), hR 6 (by omega) (by omega), hR 7 (by omega) (by omega), hR 8 (by omega) (by omega), hR 9 (by omega) (by omega), hR 10 (by omega) (by omega), hR 11 (by omega) (by omega), hR 12 (by omega) (by omega), hR 13 (by omega) (by omega),
    hg 0 (by omega), hg 1 (by omega), hg 2 (by omega), hg 3 (by omega), hg 4 (by omega), hg 5 (by omega), hg 6 (by omega), hg 7 (by omega), hg 8 (by omega), hg 9 (by omega)]
  exact h
theorem RBur.cg {R R' : Nat → Nat → Int32} {g g' : Nat → Int32} {n : Nat} (h : RBur R g n) (hR : ∀ k, 5 ≤ k → k < 14 → R' k = R k) (hg : ∀ x, 401 ≤ x → x < 401 + 10 * n → g' x = g x) : RBur R' g' n := fun b hb =>
  (h b hb).cg (fun k h1 h2 => by rw [hR k h1 h2]) (fun w hw => hg _ (by omega) (by omega))
theorem RBef.cg {g g' : Nat → Int32} {a b : Nat} (ha : mK g' a 1 = mK g a 1) (hb : mK g' b 1 = mK g b 1) (h : RBef g a b) : RBef g' a b := by
  unfold RBef at h ⊢
  rw [ha, hb]
  exact h
theorem pz_perm_lt {L : List Nat} {n : Nat} (h : L.Perm (List.range n)) {x : Nat} (hx : x ∈ L) : x < n := List.mem_range.mp (h.mem_iff.mp hx)
theorem pz_getD {L : List Nat} {n : Nat} (h : L.Perm (List.range n)) {i : Nat} (hi : i < n) : L.getD i 0 < n := by
  have e : L.length = n := h.length_eq.trans List.length_range
  rw [List.getD_eq_getElem?_getD, List.getElem?_eq_getElem (by omega), Option.getD_some]
  exact pz_perm_lt h (List.getElem_mem _)
theorem RRec.cg {R R' : Nat → Nat → Int32} {g g' : Nat → Int32} {n : Nat} (h : RRec R g n) (hR : ∀ k, 2 ≤ k → k < 5 → R' k = R k) (hg : ∀ x, x < 4 * n → g' x = g x) (hb : ∀ b, b < n → mB g' b 0 = mB g b 0 ∧ mB g' b 1 = mB g b 1) : RRec R' g' n := by
  obtain ⟨h1, h2, L, h3, h4, h5⟩ := h
  refine ⟨fun r hr => ?_, fun b hb9 h0 => ?_, L, h3, ?_, fun i hi => ?_⟩
  · rw [show mK g' r 1 = mK g r 1 from hg _ (by omega)]
    obtain ⟨a1, b, a2, a3, a4, a5⟩ := h1 r hr
    refine ⟨a1, b, a2, ?_⟩
    rw [show mK g' r 3 = mK g r 3 from hg _ (by omega), show mK g' r 0 = mK g r 0 from hg _ (by omega), (hb b a2).1, (hb b a2).2]
    exact ⟨a3, a4, a5⟩
  · rw [(hb b hb9).1] at h0
    obtain ⟨r, hr, e⟩ := h2 b hb9 h0
    exact ⟨r, hr, by rw [show mK g' r 3 = mK g r 3 from hg _ (by omega)]; exact e⟩
  · refine List.Pairwise.imp_of_mem (fun {a b} ha hb2 hab => ?_) h4
    exact RBef.cg (hg _ (by have := pz_perm_lt h3 ha; omega)) (hg _ (by have := pz_perm_lt h3 hb2; omega)) hab
  · have e := pz_getD h3 hi
    rw [hR 2 (by omega) (by omega), hR 3 (by omega) (by omega), hR 4 (by omega) (by omega), show mK g' (L.getD i 0) 1 = mK g (L.getD i 0) 1 from hg _ (by omega), show mK g' (L.getD i 0) 2 = mK g (L.getD i 0) 2 from hg _ (by omega), show mK g' (L.getD i 0) 3 = mK g (L.getD i 0) 3 from hg _ (by omega)]
    exact h5 i hi
theorem RLog.cg {R R' : Nat → Nat → Int32} {I I' : Nat → Int32} {g g' : Nat → Int32} (h : RLog R I g) (hR : ∀ k, 14 ≤ k → k < 21 → R' k = R k) (h7 : I' 7 = I 7) (h8 : I' 8 = I 8) (hg : ∀ x, 1423 ≤ x → x < 1787 → g' x = g x) : RLog R' I' g' := by
  obtain ⟨q, o, a1, a2, a3, a4, a5, a6, a7, a8⟩ := h
  refine ⟨q, o, a1, a2, a3, by rw [h8, a4], by rw [hg 1426 (by omega) (by omega), a5], by rw [h7, a6], fun j hj i hi => ?_, fun k hk => ?_⟩
  · rw [hR _ (by omega) (by omega), hg _ (by omega) (by omega)]
    exact a7 j hj i hi
  · rw [hR 20 (by omega) (by omega), hg _ (by omega) (by omega)]
    exact a8 k hk
/-- the settings: one cell each, the same on both sides -/
theorem pz_put8 {n : Nat} {C M : CS} (h : RN n C M) {k v : Nat} (hk : k < 8) (h1 : 1 ≤ v) (h2 : v ≤ 50) : Sm C M (sR C 0 (upd (C.1 0) k (nI v))) (sR M 0 (upd (M.1 0) (1402 + k) (nI v))) := by
  refine ⟨FrC.r (by omega), FrM.r, n, h.1, ?_, h.2.2.1.cg (fun j h3 h4 => if_neg (by omega)) (fun x h3 h4 => pz_updN (by have := h.n; omega)), h.2.2.2.1.cg (fun j h3 h4 => if_neg (by omega)) (fun x h3 => pz_updN (by have := h.n; omega)) (fun b hb => ⟨pz_updN (by have := h.n; omega), pz_updN (by have := h.n; omega)⟩), h.2.2.2.2.cg (fun j h3 h4 => if_neg (by omega)) rfl rfl (fun x h3 h4 => pz_updN (by omega))⟩
  refine ⟨h.c5, h.c6, ?_, ?_, fun j hj => ?_, fun j hj => ?_, ?_⟩
  · exact (pz_updN (by omega)).trans h.m4
  · exact (pz_updN (by omega)).trans h.m14
  · show upd (C.1 0) k (nI v) j = upd (M.1 0) (1402 + k) (nI v) (1402 + j) ∧ rng (upd (M.1 0) (1402 + k) (nI v) (1402 + j)) 1 50
    by_cases e : j = k
    · subst e
      rw [pz_updE, pz_updE]
      exact ⟨rfl, v, h1, h2, rfl⟩
    · rw [pz_updN e, pz_updN (by omega)]
      exact h.gap hj
  · show C.1 1 j = upd (M.1 0) (1402 + k) (nI v) (1410 + j) ∧ rng (upd (M.1 0) (1402 + k) (nI v) (1410 + j)) 0 3
    rw [pz_updN (by omega)]
    exact h.fold hj
  · simp only [sR, if_pos]
    rw [pz_updN (by omega), pz_updN (by omega), pz_updN (by omega), pz_updN (by omega), pz_updN (by omega)]
    exact h.2.1.2.2.2.2.2.2
theorem pz_put9 {n : Nat} {C M : CS} (h : RN n C M) {k v : Nat} (hk : k < 8) (h2 : v ≤ 3) : Sm C M (sR C 1 (upd (C.1 1) k (nI v))) (sR M 0 (upd (M.1 0) (1410 + k) (nI v))) := by
  refine ⟨FrC.r (by omega), FrM.r, n, h.1, ?_, h.2.2.1.cg (fun j h3 h4 => if_neg (by omega)) (fun x h3 h4 => pz_updN (by have := h.n; omega)), h.2.2.2.1.cg (fun j h3 h4 => if_neg (by omega)) (fun x h3 => pz_updN (by have := h.n; omega)) (fun b hb => ⟨pz_updN (by have := h.n; omega), pz_updN (by have := h.n; omega)⟩), h.2.2.2.2.cg (fun j h3 h4 => if_neg (by omega)) rfl rfl (fun x h3 h4 => pz_updN (by omega))⟩
  refine ⟨h.c5, h.c6, ?_, ?_, fun j hj => ?_, fun j hj => ?_, ?_⟩
  · exact (pz_updN (by omega)).trans h.m4
  · exact (pz_updN (by omega)).trans h.m14
  · show C.1 0 j = upd (M.1 0) (1410 + k) (nI v) (1402 + j) ∧ rng (upd (M.1 0) (1410 + k) (nI v) (1402 + j)) 1 50
    rw [pz_updN (by omega)]
    exact h.gap hj
  · show upd (C.1 1) k (nI v) j = upd (M.1 0) (1410 + k) (nI v) (1410 + j) ∧ rng (upd (M.1 0) (1410 + k) (nI v) (1410 + j)) 0 3
    by_cases e : j = k
    · subst e
      rw [pz_updE, pz_updE]
      exact ⟨rfl, v, Nat.zero_le _, h2, rfl⟩
    · rw [pz_updN e, pz_updN (by omega)]
      exact h.fold hj
  · simp only [sR, if_pos]
    rw [pz_updN (by omega), pz_updN (by omega), pz_updN (by omega), pz_updN (by omega), pz_updN (by omega)]
    exact h.2.1.2.2.2.2.2.2
/-- a single int of the grouping -/
theorem pz_putI {n : Nat} {C M : CS} (h : RN n C M) {k x : Nat} {v : Int32} (hk : (k = 0 ∧ x = 1419 ∧ rng v 0 100) ∨ (k = 1 ∧ x = 1420 ∧ rng v 0 10) ∨ (k = 2 ∧ x = 1418 ∧ rng v 0 20000) ∨ (k = 3 ∧ x = 1421) ∨ (k = 4 ∧ x = 1422)) : Sm C M (sI C k v) (sR M 0 (upd (M.1 0) x v)) := by
  refine ⟨FrC.i (by omega), FrM.r, n, h.1, ?_, h.2.2.1.cg (fun j h3 h4 => rfl) (fun y h3 h4 => pz_updN (by have := h.n; omega)), h.2.2.2.1.cg (fun j h3 h4 => rfl) (fun y h3 => pz_updN (by have := h.n; omega)) (fun b hb => ⟨pz_updN (by have := h.n; omega), pz_updN (by have := h.n; omega)⟩), h.2.2.2.2.cg (fun j h3 h4 => rfl) (if_neg (by omega)) (if_neg (by omega)) (fun y h3 h4 => pz_updN (by omega))⟩
  refine ⟨(if_neg (by omega)).trans h.c5, (if_neg (by omega)).trans h.c6, (pz_updN (by omega)).trans h.m4, (pz_updN (by omega)).trans h.m14, fun j hj => ?_, fun j hj => ?_, ?_⟩
  · show C.1 0 j = upd (M.1 0) x v (1402 + j) ∧ rng (upd (M.1 0) x v (1402 + j)) 1 50
    rw [pz_updN (by omega)]
    exact h.gap hj
  · show C.1 1 j = upd (M.1 0) x v (1410 + j) ∧ rng (upd (M.1 0) x v (1410 + j)) 0 3
    rw [pz_updN (by omega)]
    exact h.fold hj
  · show upd C.2.1 k v 0 = upd (M.1 0) x v 1419 ∧ rng (upd (M.1 0) x v 1419) 0 100 ∧ upd C.2.1 k v 1 = upd (M.1 0) x v 1420 ∧ rng (upd (M.1 0) x v 1420) 0 10 ∧ upd C.2.1 k v 2 = upd (M.1 0) x v 1418 ∧ rng (upd (M.1 0) x v 1418) 0 20000 ∧ upd C.2.1 k v 3 = upd (M.1 0) x v 1421 ∧ upd C.2.1 k v 4 = upd (M.1 0) x v 1422 ∧ C.2.2 0 = M.2.2 0
    have a1 := h.lat
    have a2 := h.tri
    have a3 := h.mark
    have a4 := h.late
    have a5 := h.mrg
    have a6 := h.bal
    rcases hk with ⟨e1, e2, e3⟩ | ⟨e1, e2, e3⟩ | ⟨e1, e2, e3⟩ | ⟨e1, e2⟩ | ⟨e1, e2⟩ <;> (subst e1; subst e2; simp [pz_upd, a1.1, a2.1, a3.1, a4, a5, a6])
    · exact ⟨e3, a2.2, a3.2⟩
    · exact ⟨a1.2, e3, a3.2⟩
    · exact ⟨a1.2, a2.2, e3⟩
    · exact ⟨a1.2, a2.2, a3.2⟩
    · exact ⟨a1.2, a2.2, a3.2⟩
theorem pz_vin {k : Nat} (h : k < 1787) : vp_in (nI k) 1787 := vp_in_nI h (by omega)
theorem pz_puts (M : CS) (k : Nat) (v : Int32) (h : k < 1787) : F_X7_puts M (nI k) v = (M.1 0 k, sI (sR M 0 (upd (M.1 0) k v)) 0 0) := by
  unfold F_X7_puts
  rw [nI_clamp (by omega)]
  rfl
theorem sim_setGap {C M : CS} (hR : Rel C M) (q1 : Int32) (q2 : Int32) : S_X7_setGap M q1 q2 ∧ SimI ["java/lang/IndexOutOfBoundsException", "java/lang/IllegalArgumentException"] (F_X6_setGap C q1 q2).1 (F_X7_setGap M q1 q2).1 ((F_X7_setGap M q1 q2).2.2.1 0) ∧ Rel (F_X6_setGap C q1 q2).2 (F_X7_setGap M q1 q2).2 := by
  obtain ⟨n, h⟩ := hR.rn
  unfold S_X7_setGap F_X6_setGap F_X7_setGap
  rw [pz_needKey, pz_needWithin]
  by_cases hk : F_X7_isKey q1 = 0
  · simp only [hk, pz_bnd, if_true, xbw]
    exact ⟨trivial, simI_l rfl pz_i10, rel_thr hR 1⟩
  · obtain ⟨k, hk8, e⟩ := pz_keyN hk
    subst e
    simp only [hk, pz_bnd, if_false, xbw]
    by_cases hv : F_X7_in q2 1 50 = 0
    · simp only [hv, if_true]
      exact ⟨trivial, simI_l rfl pz_i20, rel_thr hR 2⟩
    · obtain ⟨v, hv1, hv2, e⟩ := pz_inN (lo := 1) (hi := 50) (by omega) (by omega) hv
      subst e
      simp only [hv, if_false]
      rw [show (1402 : Int32) + nI k = nI (1402 + k) from nI_add 1402 k, pz_puts M _ _ (by omega), pz_rAt _ hk8 (by omega), pz_rPut _ _ hk8 (by omega), (h.gap hk8).1]
      exact ⟨⟨⟨pz_vin (by omega), pz_vin (by omega), trivial⟩, trivial⟩, simI_r rfl, rel_thr (rel_fr hR (pz_put8 h hk8 hv1 hv2)) 0⟩
theorem sim_setFold {C M : CS} (hR : Rel C M) (q1 : Int32) (q2 : Int32) : S_X7_setFold M q1 q2 ∧ SimI ["java/lang/IndexOutOfBoundsException", "java/lang/IllegalArgumentException"] (F_X6_setFold C q1 q2).1 (F_X7_setFold M q1 q2).1 ((F_X7_setFold M q1 q2).2.2.1 0) ∧ Rel (F_X6_setFold C q1 q2).2 (F_X7_setFold M q1 q2).2 := by
  obtain ⟨n, h⟩ := hR.rn
  unfold S_X7_setFold F_X6_setFold F_X7_setFold
  rw [pz_needKey, pz_needWithin]
  by_cases hk : F_X7_isKey q1 = 0
  · simp only [hk, pz_bnd, if_true, xbw]
    exact ⟨trivial, simI_l rfl pz_i10, rel_thr hR 1⟩
  · obtain ⟨k, hk8, e⟩ := pz_keyN hk
    subst e
    simp only [hk, pz_bnd, if_false, xbw]
    by_cases hv : F_X7_in q2 0 3 = 0
    · simp only [hv, if_true]
      exact ⟨trivial, simI_l rfl pz_i20, rel_thr hR 2⟩
    · obtain ⟨v, hv1, hv2, e⟩ := pz_inN (lo := 0) (hi := 3) (by omega) (by omega) hv
      subst e
      simp only [hv, if_false]
      rw [show (1410 : Int32) + nI k = nI (1410 + k) from nI_add 1410 k, pz_puts M _ _ (by omega), pz_rAt _ hk8 (by omega), pz_rPut _ _ hk8 (by omega), (h.fold hk8).1]
      exact ⟨⟨⟨pz_vin (by omega), pz_vin (by omega), trivial⟩, trivial⟩, simI_r rfl, rel_thr (rel_fr hR (pz_put9 h hk8 hv2)) 0⟩
theorem sim_setLateness {C M : CS} (hR : Rel C M) (q1 : Int32) : S_X7_setLateness M q1 ∧ SimI ["java/lang/IllegalArgumentException"] (F_X6_setLateness C q1).1 (F_X7_setLateness M q1).1 ((F_X7_setLateness M q1).2.2.1 0) ∧ Rel (F_X6_setLateness C q1).2 (F_X7_setLateness M q1).2 := by
  obtain ⟨n, h⟩ := hR.rn
  unfold S_X7_setLateness F_X6_setLateness F_X7_setLateness
  rw [pz_needWithin]
  by_cases hv : F_X7_in q1 0 100 = 0
  · simp only [hv, pz_bnd, if_true, xbw]
    exact ⟨trivial, simI_l rfl pz_i10, rel_thr hR 1⟩
  · simp only [hv, pz_bnd, if_false, xbw]
    have hr := pz_inN (lo := 0) (hi := 100) (by omega) (by omega) hv
    rw [show (1419 : Int32) = nI 1419 from rfl, pz_puts M _ _ (by omega)]
    exact ⟨⟨⟨pz_vin (by omega), pz_vin (by omega), trivial⟩, trivial⟩, simI_r h.lat.1, rel_thr (rel_fr hR (pz_putI h (.inl ⟨rfl, rfl, hr⟩))) 0⟩
theorem sim_setTrigger {C M : CS} (hR : Rel C M) (q1 : Int32) : S_X7_setTrigger M q1 ∧ SimI ["java/lang/IllegalArgumentException"] (F_X6_setTrigger C q1).1 (F_X7_setTrigger M q1).1 ((F_X7_setTrigger M q1).2.2.1 0) ∧ Rel (F_X6_setTrigger C q1).2 (F_X7_setTrigger M q1).2 := by
  obtain ⟨n, h⟩ := hR.rn
  unfold S_X7_setTrigger F_X6_setTrigger F_X7_setTrigger
  rw [pz_needWithin]
  by_cases hv : F_X7_in q1 0 10 = 0
  · simp only [hv, pz_bnd, if_true, xbw]
    exact ⟨trivial, simI_l rfl pz_i10, rel_thr hR 1⟩
  · simp only [hv, pz_bnd, if_false, xbw]
    have hr := pz_inN (lo := 0) (hi := 10) (by omega) (by omega) hv
    rw [show (1420 : Int32) = nI 1420 from rfl, pz_puts M _ _ (by omega)]
    exact ⟨⟨⟨pz_vin (by omega), pz_vin (by omega), trivial⟩, trivial⟩, simI_r h.tri.1, rel_thr (rel_fr hR (pz_putI h (.inr (.inl ⟨rfl, rfl, hr⟩)))) 0⟩
theorem sim_watermark {C M : CS} (hR : Rel C M) : (F_X6_watermark C) = (F_X7_watermark M).1 ∧ Rel C (F_X7_watermark M).2 := by
  obtain ⟨n, h⟩ := hR.rn
  exact ⟨h.mark.1, rel_thr hR 0⟩
theorem sim_lateCount {C M : CS} (hR : Rel C M) : (F_X6_lateCount C) = (F_X7_lateCount M).1 ∧ Rel C (F_X7_lateCount M).2 := by
  obtain ⟨n, h⟩ := hR.rn
  exact ⟨h.late, rel_thr hR 0⟩
theorem sim_recordCount {C M : CS} (hR : Rel C M) : (F_X6_recordCount C) = (F_X7_recordCount M).1 ∧ Rel C (F_X7_recordCount M).2 := by
  obtain ⟨n, h⟩ := hR.rn
  exact ⟨h.c5.trans h.m4.symm, rel_thr hR 0⟩
theorem sim_mergeCount {C M : CS} (hR : Rel C M) : (F_X6_mergeCount C) = (F_X7_mergeCount M).1 ∧ Rel C (F_X7_mergeCount M).2 := by
  obtain ⟨n, h⟩ := hR.rn
  exact ⟨h.mrg, rel_thr hR 0⟩
theorem sim_balance {C M : CS} (hR : Rel C M) : (F_X6_balance C) = (F_X7_balance M).1 ∧ Rel C (F_X7_balance M).2 := by
  obtain ⟨n, h⟩ := hR.rn
  exact ⟨h.bal, rel_thr hR 0⟩
theorem RN.isl {n : Nat} {C M : CS} (h : RN n C M) (t : Int32) : F_X1_comesLate C t (C.2.1 2) = F_X7_isLateNow M t := by
  unfold F_X1_comesLate F_X7_isLateNow
  rw [h.lat.1, h.mark.1]
theorem sim_isLate {C M : CS} (hR : Rel C M) (q1 : Int32) : (F_X6_isLate C q1) = (F_X7_isLate M q1).1 ∧ Rel C (F_X7_isLate M q1).2 := by
  obtain ⟨n, h⟩ := hR.rn
  exact ⟨h.isl q1, rel_thr hR 0⟩
theorem sim_firingCount {C M : CS} (hR : Rel C M) : (F_X6_firingCount C) = (F_X7_firingCount M).1 ∧ Rel C (F_X7_firingCount M).2 := by
  obtain ⟨n, h⟩ := hR.rn
  obtain ⟨q, o, a1, a2, a3, a4, a5, a6, a7, a8⟩ := h.2.2.2.2
  exact ⟨a4.trans a5.symm, rel_thr hR 0⟩
theorem sim_firings {C M : CS} (hR : Rel C M) (q1 : Int32) : S_X7_firings M q1 ∧ SimI ["java/lang/IllegalArgumentException"] (F_X6_firings C q1) (F_X7_firings M q1).1 ((F_X7_firings M q1).2.2.1 0) ∧ Rel C (F_X7_firings M q1).2 := by
  obtain ⟨n, h⟩ := hR.rn
  obtain ⟨q, o, a1, a2, a3, a4, a5, a6, a7, a8⟩ := h.2.2.2.2
  unfold S_X7_firings F_X6_firings F_X7_firings
  rw [pz_needWithin]
  by_cases hv : F_X7_in q1 0 2 = 0
  · simp only [hv, pz_bnd, if_true, xbo]
    exact ⟨trivial, simI_l rfl pz_i10, rel_thr hR 1⟩
  · simp only [hv, pz_bnd, if_false, xbo]
    obtain ⟨v, hv1, hv2, e⟩ := pz_inN (lo := 0) (hi := 2) (by omega) (by omega) hv
    subst e
    rw [show (1423 : Int32) + nI v = nI (1423 + v) from nI_add 1423 v, nI_clamp (by omega), pz_rAt _ (by omega) (by omega), a8 v (by omega)]
    exact ⟨⟨pz_vin (by omega), trivial⟩, simI_r rfl, rel_thr hR 0⟩
