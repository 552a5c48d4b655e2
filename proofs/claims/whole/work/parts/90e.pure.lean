/-! pure: the reference carries them out; read -/
theorem tx_back (u Z : CS) : lpS (fun (z : Int32 × CS) => st_X7_read_108 z.1 z.2) (fun (z : Int32 × CS) => Sst_X7_read_108 z.1 z.2) (1787 + 1) (0, u) ∧ lp (fun (z : Int32 × CS) => st_X7_read_108 z.1 z.2) (.inr (.inr (0, Z))) (1787 + 1) (0, u) = .inr (.inr (0, sI (sL (sR u 0 (cpG (u.1 0) (u.1 1) 1787)) 0 (u.2.2 1)) 0 2)) := by
  refine pz_bo (fun i s => s = (nI i, sR u 0 (cpG (u.1 0) (u.1 1) i))) (fun (r : (Int32 × Int32 × CS) ⊕ ((Int32 × CS) ⊕ (Int32 × CS))) => r = .inr (.inr (0, sI (sL (sR u 0 (cpG (u.1 0) (u.1 1) 1787)) 0 (u.2.2 1)) 0 2))) 1787 (fun i s hi hs => ?_) (fun s hs => ?_) 1787 0 (0, u) (by omega) ?_
  · subst hs
    show Sst_X7_read_108 (nI i) (sR u 0 (cpG (u.1 0) (u.1 1) i)) ∧ ((∃ s', st_X7_read_108 (nI i) (sR u 0 (cpG (u.1 0) (u.1 1) i)) = .inl s' ∧ _) ∨ _)
    have e3 : ¬ (1787 : Int32) ≤ nI i := pz_ge (b := 1787) hi (by omega)
    unfold Sst_X7_read_108 st_X7_read_108
    rw [if_neg e3, if_neg e3, pz_bnd, nI_clamp (by omega), pz_RR, pz_s1]
    refine ⟨⟨pz_vin hi, pz_vin hi, trivial⟩, .inl ⟨_, rfl, ?_⟩⟩
    show (nI (i + 1), sR u 0 (upd (cpG (u.1 0) (u.1 1) i) i (u.1 1 i))) = _
    rw [cpG_s]
  · subst hs
    show Sst_X7_read_108 (nI 1787) _ ∧ ∃ r, st_X7_read_108 (nI 1787) _ = .inr r ∧ _
    have e3 : (1787 : Int32) ≤ nI 1787 := pz_leR 1787 (by omega)
    unfold Sst_X7_read_108 st_X7_read_108
    rw [if_pos e3, if_pos e3]
    exact ⟨trivial, _, rfl, rfl⟩
  · rw [cpG_0]
    exact congrArg (fun z => ((0 : Int32), z)) (pz_R_self u 0).symm
/-- what the reference's run of the entries comes to -/
def RdQ (T : Nat → Int32) (k : Nat) (U V : CS) (N : Nat) (x : Int32 × CS) : Prop :=
  ((∀ j, j < N → okE (en T k j) (cq T k U j)) ∧ x = (nI N, sI (sI (mq V N) 2 0) 0 0)) ∨
  (∃ i, i < N ∧ (∀ j, j < i → okE (en T k j) (cq T k U j)) ∧ ¬ okE (en T k i) (cq T k U i) ∧ ∃ m, FB V m ∧ x = (0, sI (sL (sR (sI m 2 0) 0 (cpG (m.1 0) (m.1 1) 1787)) 0 (m.2.2 1)) 0 2))
theorem tx_run {T : Nat → Int32} {k : Nat} (hk : k ≤ 40) {U V Z : CS} {n : Nat} (h : RN n U V) (t : TM T k 0 V) {N : Nat} (hN : N ≤ 14) (hK : ∀ i, i < N → ¬ (en T k i).1 = 0) :
    lpS (fun (z : Int32 × Int32 × CS) => st_X7_read_73 Z (nI N) z.1 z.2.1 z.2.2) (fun (z : Int32 × Int32 × CS) => Sst_X7_read_73 Z (nI N) z.1 z.2.1 z.2.2) (N + 1) (0, 1, V) ∧ ∃ x, lp (fun (z : Int32 × Int32 × CS) => st_X7_read_73 Z (nI N) z.1 z.2.1 z.2.2) (.inr (0, Z)) (N + 1) (0, 1, V) = .inr x ∧ RdQ T k U V N x := by
  have f1787 : ((1787 : Int32).toInt - (0 : Int32).toInt).toNat + 1 = 1787 + 1 := pz_fu (n := 1787) (by omega)
  -- an entry failed: all goes back
  have back : ∀ i m, i < N → (∀ j, j < i → okE (en T k j) (cq T k U j)) → ¬ okE (en T k i) (cq T k U i) → FB V m →
      lpS (fun (z : Int32 × CS) => st_X7_read_108 z.1 z.2) (fun (z : Int32 × CS) => Sst_X7_read_108 z.1 z.2) (1787 + 1) (0, sI m 2 0) ∧ ∃ r, lp (fun (z : Int32 × CS) => st_X7_read_108 z.1 z.2) (.inr (.inr (0, Z))) (1787 + 1) (0, sI m 2 0) = .inr r ∧ ∃ x : Int32 × CS, r = .inr x ∧ RdQ T k U V N x := by
    intro i m hi ho hn hf
    obtain ⟨b1, b2⟩ := tx_back (sI m 2 0) Z
    exact ⟨b1, _, b2, _, rfl, .inr ⟨i, hi, ho, hn, m, hf, rfl⟩⟩
  refine pz_bo (fun i s => ((∀ j, j < i → okE (en T k j) (cq T k U j)) ∧ s = (nI i, 1, mq V i)) ∨ (∃ q m, i = q + 1 ∧ q < N ∧ (∀ j, j < q → okE (en T k j) (cq T k U j)) ∧ ¬ okE (en T k q) (cq T k U q) ∧ FB V m ∧ s = (nI i, 0, m))) (fun (r : (Int32 × CS) ⊕ (Int32 × CS)) => ∃ x, r = .inr x ∧ RdQ T k U V N x) N (fun i s hi hs => ?_) (fun s hs => ?_) N 0 (0, 1, V) (by omega) (.inl ⟨fun j hj => absurd hj (by omega), rfl⟩)
  · rcases hs with ⟨ho, e⟩ | ⟨q, m, eq, hq, ho, hn, hf, e⟩
    · subst e
      show Sst_X7_read_73 Z (nI N) (nI i) 1 (mq V i) ∧ ((∃ s', st_X7_read_73 Z (nI N) (nI i) 1 (mq V i) = .inl s' ∧ _) ∨ ∃ r, st_X7_read_73 Z (nI N) (nI i) 1 (mq V i) = .inr r ∧ _)
      obtain ⟨n', r, f, fb, tm, l⟩ := tx_inv hk h t hK i (by omega) ho
      have hp := ps_k T k i
      obtain ⟨rs, g1, g2, g3, g4, g5⟩ := mre tm (by omega)
      have g1 : (F_X7_readsEntry (mq V i)).1 = nI (en T k i).1 := g1
      have hz := hK i hi
      have r2 := r.ft g2
      have bE : EOk 40 (ps T k i) (en T k i) := by
        have a := (ent_b T k (ps T k i)).1
        exact ⟨a.1, fun _ => Nat.le_trans (a.2.1 hp) hk, a.2.2.1, a.2.2.2.1, a.2.2.2.2.1, a.2.2.2.2.2⟩
      have em : mq V (i + 1) = (F_X7_does (F_X7_readsEntry (mq V i)).2 (nI (en T k i).1)).2 := by
        show (F_X7_does (F_X7_readsEntry (mq V i)).2 (F_X7_readsEntry (mq V i)).1).2 = _
        rw [g1]
      unfold Sst_X7_read_73 st_X7_read_73
      rw [if_neg (pz_ge hi (by omega)), if_neg (pz_ge hi (by omega)), if_neg pz_i10, if_neg pz_i10, pz_bnd, pz_bnd, pz_bnd, pz_bnd, g1]
      by_cases ok : okE (en T k i) (cq T k U i)
      · obtain ⟨d1, d2, _⟩ := tx_do r2 hz bE g4 (g5 hz) ok
        refine ⟨⟨rs, d1, trivial⟩, .inl ?_⟩
        rw [pz_bnd, pz_bnd, d2, ← em, pz_s1]
        refine ⟨_, rfl, .inl ⟨fun j hj => ?_, rfl⟩⟩
        rcases Nat.lt_or_ge j i with y | y
        · exact ho j y
        · have e : j = i := by omega
          subst e
          exact ok
      · obtain ⟨d1, d2⟩ := tx_dont r2 hz bE g4 (g5 hz) ok
        refine ⟨⟨rs, d1, trivial⟩, .inl ?_⟩
        rw [pz_bnd, pz_bnd, d2, pz_s1]
        exact ⟨_, rfl, .inr ⟨i, (F_X7_readsEntry (mq V i)).2, rfl, hi, ho, ok, fb.tr g2.fb, rfl⟩⟩
    · subst e
      show Sst_X7_read_73 Z (nI N) (nI i) 0 m ∧ ((∃ s', st_X7_read_73 Z (nI N) (nI i) 0 m = .inl s' ∧ _) ∨ ∃ r, st_X7_read_73 Z (nI N) (nI i) 0 m = .inr r ∧ _)
      obtain ⟨b1, b2⟩ := back q m hq ho hn hf
      unfold Sst_X7_read_73 st_X7_read_73
      rw [if_neg (pz_ge hi (by omega)), if_neg (pz_ge hi (by omega)), if_pos rfl, if_pos rfl, pz_bnd, pz_bnd, if_pos rfl, if_pos rfl, f1787]
      exact ⟨b1, .inr b2⟩
  · rcases hs with ⟨ho, e⟩ | ⟨q, m, eq, hq, ho, hn, hf, e⟩
    · subst e
      show Sst_X7_read_73 Z (nI N) (nI N) 1 (mq V N) ∧ ∃ r, st_X7_read_73 Z (nI N) (nI N) 1 (mq V N) = .inr r ∧ _
      have e3 : nI N ≤ nI N := pz_leR N (by omega)
      unfold Sst_X7_read_73 st_X7_read_73
      rw [if_pos e3, if_pos e3, pz_bnd, pz_bnd, if_neg pz_i10, if_neg pz_i10]
      exact ⟨trivial, _, rfl, _, rfl, .inl ⟨ho, rfl⟩⟩
    · subst e
      show Sst_X7_read_73 Z (nI N) (nI N) 0 m ∧ ∃ r, st_X7_read_73 Z (nI N) (nI N) 0 m = .inr r ∧ _
      obtain ⟨b1, b2⟩ := back q m hq ho hn hf
      have e3 : nI N ≤ nI N := pz_leR N (by omega)
      unfold Sst_X7_read_73 st_X7_read_73
      rw [if_pos e3, if_pos e3, pz_bnd, pz_bnd, if_pos rfl, if_pos rfl, f1787]
      exact ⟨b1, b2⟩
/-- the reference's state as the run begins -/
def VS (w : CS) : CS := sI (sL (sR w 1 (cpG (w.1 1) (w.1 0) 1787)) 1 (w.2.2 0)) 4 0
theorem tx_keep {T : Nat → Int32} {k : Nat} (hk : k ≤ 40) {U w Z : CS} {n : Nat} (h : RN n U (VS w)) (t : TM T k 0 (VS w)) {N : Nat} (hN : N ≤ 14) (hK : ∀ i, i < N → ¬ (en T k i).1 = 0) :
    lpS (fun (z : Int32 × CS) => st_X7_read_31 Z (nI N) z.1 z.2) (fun (z : Int32 × CS) => Sst_X7_read_31 Z (nI N) z.1 z.2) (1787 + 1) (0, w) ∧ RdQ T k U (VS w) N (lp (fun (z : Int32 × CS) => st_X7_read_31 Z (nI N) z.1 z.2) (0, Z) (1787 + 1) (0, w)) := by
  refine pz_bo (fun i s => s = (nI i, sR w 1 (cpG (w.1 1) (w.1 0) i))) (fun r => RdQ T k U (VS w) N r) 1787 (fun i s hi hs => ?_) (fun s hs => ?_) 1787 0 (0, w) (by omega) ?_
  · subst hs
    show Sst_X7_read_31 Z (nI N) (nI i) (sR w 1 (cpG (w.1 1) (w.1 0) i)) ∧ ((∃ s', st_X7_read_31 Z (nI N) (nI i) (sR w 1 (cpG (w.1 1) (w.1 0) i)) = .inl s' ∧ _) ∨ _)
    have e3 : ¬ (1787 : Int32) ≤ nI i := pz_ge (b := 1787) hi (by omega)
    unfold Sst_X7_read_31 st_X7_read_31
    rw [if_neg e3, if_neg e3, pz_bnd, nI_clamp (by omega), pz_RR, pz_s1]
    refine ⟨⟨pz_vin hi, pz_vin hi, trivial⟩, .inl ⟨_, rfl, ?_⟩⟩
    show (nI (i + 1), sR w 1 (upd (cpG (w.1 1) (w.1 0) i) i (w.1 0 i))) = _
    rw [cpG_s]
  · subst hs
    show Sst_X7_read_31 Z (nI N) (nI 1787) (sR w 1 (cpG (w.1 1) (w.1 0) 1787)) ∧ ∃ r, st_X7_read_31 Z (nI N) (nI 1787) (sR w 1 (cpG (w.1 1) (w.1 0) 1787)) = .inr r ∧ _
    have e3 : (1787 : Int32) ≤ nI 1787 := pz_leR 1787 (by omega)
    obtain ⟨b1, x, b2, b3⟩ := tx_run (Z := Z) hk h t hN hK
    unfold Sst_X7_read_31 st_X7_read_31
    rw [if_pos e3, if_pos e3, pz_bnd, pz_bnd, pz_bnd, pz_bnd, pz_fu (by omega)]
    exact ⟨b1, x, b2, b3⟩
  · rw [cpG_0]
    exact congrArg (fun z => ((0 : Int32), z)) (pz_R_self w 1).symm
theorem rel_tx {C M D N : CS} (hR : Rel C M) {n : Nat} (h : RN n D N) (c18 : D.2.1 18 = nI 0) (m2 : N.2.1 2 = nI 0) (e22 : D.2.1 22 = N.2.1 3) (e21 : D.2.1 21 = C.2.1 21) (m1 : N.2.1 1 = M.2.1 1) (r : ∀ j, 21 ≤ j → j < 42 → D.1 j = C.1 j) (ii : ∀ j, 9 ≤ j → j < 18 → D.2.1 j = C.2.1 j) (l1 : D.2.2 1 = C.2.2 1) (g2 : N.1 2 = M.1 2) (b2 : N.2.2 2 = M.2.2 2) : Rel D N := by
  obtain ⟨_, ⟨k, a1, a2, a3, a4, a5, a6⟩, h3⟩ := hR
  refine ⟨⟨n, h⟩, ⟨0, by omega, c18, m2, fun i hi => absurd hi (by omega), e22, by rw [e21, m1]; exact a6⟩, fun hh => ?_⟩
  rw [e21] at hh
  obtain ⟨q, hq⟩ := h3 hh
  refine ⟨q, RelN.cgp hq (fun j hj i hi => congrFun (r (j + 21) (by omega) (by omega)) i) (fun j hj => ii (j + 9) (by omega) (by omega)) l1 (fun x hx => congrFun g2 x) b2⟩
theorem sim_read {C M : CS} (hR : Rel C M) : S_X6_read C ∧ S_X7_read M ∧ SimI ["java/lang/IllegalArgumentException", "java/lang/IllegalStateException"] (F_X6_read C).1 (F_X7_read M).1 ((F_X7_read M).2.2.1 0) ∧ Rel (F_X6_read C).2 (F_X7_read M).2 := by
  obtain ⟨⟨n, h⟩, ⟨k, a1, a2, a3, a4, a5, a6⟩, h3⟩ := id hR
  have h : RN n C M := h
  obtain ⟨T, eT⟩ : ∃ T, T = M.1 3 := ⟨_, rfl⟩
  have tb : TB T k C := ⟨a1, a2, by rw [eT]; exact a4⟩
  obtain ⟨J, hJ, h1, hE⟩ := tx_out T a1
  have f1787 : ((1787 : Int32).toInt - (0 : Int32).toInt).toNat + 1 = 1787 + 1 := pz_fu (n := 1787) (by omega)
  obtain ⟨x1, x2⟩ := cpa tb hJ h1 hE
  obtain ⟨sc, y1, y2⟩ := mce a1 a3 eT.symm hJ h1 hE
  unfold S_X6_read F_X6_read S_X7_read F_X7_read
  generalize F_X5_parse C = P at x1 x2 ⊢
  generalize F_X7_countsEntries M = Q at y1 y2 ⊢
  obtain ⟨p1, u⟩ := P
  obtain ⟨q1, w⟩ := Q
  have x1 : FX C u := x1
  have y1 : FT M w := y1
  simp only [pz_bnd]
  have kU : RN n (sI u 18 0) M := by
    refine RelN.cgp h (fun j hj i hi => congrFun (x1.1 j (by omega)) i) (fun j hj => ?_) (congrFun x1.2.2 0) (fun x hx => rfl) rfl
    rw [pz_I, if_neg (by omega)]
    exact x1.2.1 j (by omega) (by omega)
  have r21 : ∀ j, 21 ≤ j → j < 42 → (sI u 18 0).1 j = C.1 j := fun j _ hj => x1.1 j (by omega)
  have i9 : ∀ j, 9 ≤ j → j < 18 → (sI u 18 0).2.1 j = C.2.1 j := fun j _ hj => by
    rw [pz_I, if_neg (by omega)]
    exact x1.2.1 j (by omega) (by omega)
  have u18 : (sI u 18 0).2.1 18 = nI 0 := by rw [pz_I, if_pos rfl]; all_goals rfl
  have u21 : (sI u 18 0).2.1 21 = C.2.1 21 := by
    rw [pz_I, if_neg (by omega)]
    exact x1.2.1 21 (by omega) (by omega)
  have u22 : (sI u 18 0).2.1 22 = C.2.1 22 := by
    rw [pz_I, if_neg (by omega)]
    exact x1.2.1 22 (by omega) (by omega)
  have ul1 : (sI u 18 0).2.2 1 = C.2.2 1 := congrFun x1.2.2 1
  rcases x2 with ⟨hz, c1, c2⟩ | ⟨hz, c1, c2, c3⟩
  · have y2 : w.2.1 4 = nI (ps T k (J + 1)) ∧ q1 = -1 := by
      rcases y2 with ⟨_, b1, b2⟩ | ⟨b0, _⟩
      · exact ⟨b2, b1⟩
      · exact absurd hz b0
    have c1 : p1 = 0 := c1
    have c2 : u.2.1 19 = nI (ps T k (J + 1)) := c2
    rw [if_pos c1, if_pos c1, if_pos y2.2, if_pos y2.2]
    refine ⟨trivial, ⟨sc, trivial⟩, simI_l rfl pz_i10, ?_⟩
    have e19 : (sI u 18 0).2.1 19 = w.2.1 4 := by
      rw [pz_I, if_neg (by omega), c2, y2.1]
    refine rel_tx hR (n := n) ?_ ?_ ?_ ?_ ?_ ?_ (fun j hj hj2 => r21 j hj hj2) (fun j hj hj2 => ?_) ul1 ?_ ?_
    · refine RelN.cgp kU (fun j hj i hi => rfl) (fun j hj => ?_) rfl (fun x hx => congrFun (congrFun y1.1 0) x) (congrFun y1.2.1 0)
      show (sI (sI u 18 0) 22 ((sI u 18 0).2.1 19)).2.1 j = _
      rw [pz_I, if_neg (by omega)]
    · show (sI (sI u 18 0) 22 ((sI u 18 0).2.1 19)).2.1 18 = nI 0
      rw [pz_I, if_neg (by omega)]
      exact u18
    · rfl
    · show (sI (sI u 18 0) 22 ((sI u 18 0).2.1 19)).2.1 22 = w.2.1 4
      rw [pz_I, if_pos rfl]
      exact e19
    · show (sI (sI u 18 0) 22 ((sI u 18 0).2.1 19)).2.1 21 = _
      rw [pz_I, if_neg (by omega)]
      exact u21
    · exact y1.2.2 1 (by omega)
    · show (sI (sI u 18 0) 22 ((sI u 18 0).2.1 19)).2.1 j = _
      rw [pz_I, if_neg (by omega)]
      exact i9 j hj hj2
    · exact congrFun y1.1 2
    · exact congrFun y1.2.1 2
  · have y2 : q1 = nI (J + 1) := by
      rcases y2 with ⟨b0, _⟩ | ⟨_, b1⟩
      · exact absurd b0 hz
      · exact b1
    subst y2
    have c1 : p1 = 1 := c1
    have c2 : (sI u 18 0).2.1 20 = nI (J + 1) := by
      rw [pz_I, if_neg (by omega)]
      exact c2
    have c3 : ∀ i, i < J + 1 → DX (sI u 18 0) i (en T k i) := fun i hi => c3 i (by omega)
    have n1 : ¬ nI (J + 1) = -1 := tx_nm (by omega)
    have kV : RN n (sI u 18 0) (VS w) := RelN.cgp kU (fun j hj i hi => rfl) (fun j hj => rfl) rfl (fun x hx => congrFun (congrFun y1.1 0) x) (congrFun y1.2.1 0)
    have tV : TM T k 0 (VS w) := ⟨a1, (y1.2.2 2 (by omega)).trans a3, rfl, (congrFun y1.1 3).trans eT.symm⟩
    have vB : (VS w).1 2 = M.1 2 ∧ (VS w).2.1 1 = M.2.1 1 ∧ (VS w).2.1 3 = M.2.1 3 ∧ (VS w).2.2 2 = M.2.2 2 := ⟨congrFun y1.1 2, y1.2.2 1 (by omega), y1.2.2 3 (by omega), congrFun y1.2.1 2⟩
    have vG : ∀ x, x < 1787 → (VS w).1 1 x = M.1 0 x := fun x hx => (if_pos hx : cpG (w.1 1) (w.1 0) 1787 x = w.1 0 x).trans (congrFun (congrFun y1.1 0) x)
    have vL : (VS w).2.2 1 = M.2.2 0 := congrFun y1.2.1 0
    have hK : ∀ i, i < J + 1 → ¬ (en T k i).1 = 0 := fun i hi => by
      rcases Nat.lt_or_ge i J with z | z
      · exact (h1 i z).1
      · have e : i = J := by omega
        subst e
        exact hz
    have np1 : ¬ p1 = 0 := by rw [c1]; exact pz_i10
    rw [if_neg np1, if_neg np1, if_neg n1, if_neg n1, c2, f1787, pz_fu (show J + 1 ≤ 2000 by omega)]
    obtain ⟨k1, k2⟩ := tx_keep (Z := M) a1 kV tV (N := J + 1) (by omega) hK
    have can := tx_can a1 kV tV (N := J + 1) (by omega) hK c2 c3
    have car := tx_car (Z := C) a1 kV tV (N := J + 1) (by omega) hK c2 c3
    have inv := tx_inv a1 kV tV (N := J + 1) hK (J + 1) (Nat.le_refl _)
    generalize lp (fun (z : Int32 × CS) => st_X7_read_31 M (nI (J + 1)) z.1 z.2) (0, M) (1787 + 1) (0, w) = X at k2 ⊢
    rcases can with ⟨b1, b2⟩ | ⟨b1, b2⟩
    · have nb : ¬ F_X1_canCarryOut (sI u 18 0) = 0 := by rw [b1]; exact pz_i10
      rw [if_neg nb, if_neg nb]
      obtain ⟨d1, d2⟩ := car b2
      rw [d2]
      refine ⟨d1, ⟨sc, k1⟩, ?_⟩
      have k2 : X = (nI (J + 1), sI (sI (mq (VS w) (J + 1)) 2 0) 0 0) := by
        rcases k2 with ⟨_, z⟩ | ⟨i, hi, _, z, _⟩
        · exact z
        · exact absurd (b2 i hi) z
      rw [k2]
      obtain ⟨n', r, f, fb, tm, l⟩ := inv b2
      refine ⟨simI_r rfl, rel_tx hR (n := n') r ((f.2.1 18 (by omega)).trans u18) rfl ?_ ((f.2.1 21 (by omega)).trans u21) ?_ (fun j hj hj2 => (f.1 j hj).trans (r21 j hj hj2)) (fun j hj hj2 => (f.2.1 j hj).trans (i9 j hj hj2)) ((f.2.2 1 (by omega)).trans ul1) ((fb.1 2 (by omega)).trans vB.1) ((fb.2.2 2 (by omega)).trans vB.2.2.2)⟩
      · exact (f.2.1 22 (by omega)).trans (u22.trans (a5.trans ((fb.2.1 3 (by omega)).trans vB.2.2.1).symm))
      · exact (fb.2.1 1 (by omega)).trans vB.2.1
    · rw [if_pos b1, if_pos b1]
      refine ⟨trivial, ⟨sc, k1⟩, ?_⟩
      obtain ⟨m, fb, k2⟩ : ∃ m, FB (VS w) m ∧ X = (0, sI (sL (sR (sI m 2 0) 0 (cpG (m.1 0) (m.1 1) 1787)) 0 (m.2.2 1)) 0 2) := by
        rcases k2 with ⟨z, _⟩ | ⟨_, _, _, _, m, hm, z⟩
        · obtain ⟨i, hi, _, y⟩ := b2
          exact absurd (z i hi) y
        · exact ⟨m, hm, z⟩
      rw [k2]
      refine ⟨simI_l rfl pz_i20, rel_tx hR (n := n) ?_ u18 rfl ?_ u21 ?_ r21 i9 ul1 ((fb.1 2 (by omega)).trans vB.1) ((fb.2.2 2 (by omega)).trans vB.2.2.2)⟩
      · refine RelN.cgp kU (fun j hj i hi => rfl) (fun j hj => rfl) rfl (fun x hx => ?_) ?_
        · show cpG (m.1 0) (m.1 1) 1787 x = M.1 0 x
          have e : cpG (m.1 0) (m.1 1) 1787 x = m.1 1 x := if_pos hx
          rw [e, fb.1 1 (by omega)]
          exact vG x hx
        · exact (fb.2.2 1 (by omega)).trans vL
      · exact u22.trans (a5.trans ((fb.2.1 3 (by omega)).trans vB.2.2.1).symm)
      · exact (fb.2.1 1 (by omega)).trans vB.2.1
