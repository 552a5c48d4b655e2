/-! pure: the entries carried out, on both sides -/
def xC (E : Nat × Nat × Nat × Nat × Int32) (w : CS) : CS :=
  if E.1 = 2 then (F_X1_moveMark w (nI E.2.2.2.1)).2 else (F_X1_take w (nI E.2.2.1) (nI E.2.2.2.1) E.2.2.2.2).2
def cq (T : Nat → Int32) (k : Nat) (U : CS) : Nat → CS
  | 0 => U
  | i + 1 => xC (en T k i) (cq T k U i)
def mq (V : CS) : Nat → CS
  | 0 => V
  | i + 1 => (F_X7_does (F_X7_readsEntry (mq V i)).2 (F_X7_readsEntry (mq V i)).1).2
def okE (E : Nat × Nat × Nat × Nat × Int32) (w : CS) : Prop :=
  if E.1 = 2 then w.2.1 2 ≤ nI E.2.2.2.1 else (F_X1_comesLate w (nI E.2.2.2.1) (w.2.1 2) = 0 → w.2.1 5 < 100)
def FB (B N : CS) : Prop := (∀ j, 1 ≤ j → N.1 j = B.1 j) ∧ (∀ j, j < 4 → N.2.1 j = B.2.1 j) ∧ ∀ j, 1 ≤ j → N.2.2 j = B.2.2 j
theorem FB.tr {A B C : CS} (h : FB A B) (h2 : FB B C) : FB A C := ⟨fun j hj => (h2.1 j hj).trans (h.1 j hj), fun j hj => (h2.2.1 j hj).trans (h.2.1 j hj), fun j hj => (h2.2.2 j hj).trans (h.2.2 j hj)⟩
theorem FB.rf (A : CS) : FB A A := ⟨fun _ _ => rfl, fun _ _ => rfl, fun _ _ => rfl⟩
theorem FT.fb {M N : CS} (h : FT M N) : FB M N := ⟨fun j _ => congrFun h.1 j, h.2.2, fun j _ => congrFun h.2.1 j⟩
theorem FrM.fb {M N : CS} (h : FrM M N) : FB M N := ⟨h.1, fun j _ => congrFun h.2.1 j, h.2.2⟩
theorem RN.ft {n : Nat} {C M N : CS} (h : RN n C M) (f : FT M N) : RN n C N := by
  obtain ⟨f1, f2, _⟩ := f
  unfold RN at h ⊢
  rw [f1, f2]
  exact h
theorem tx_lacks {M : CS} {key t : Nat} (hk : key ≤ 7) (ht : t ≤ 9999) : F_X7_lacks M (nI key) (nI t) = if F_X7_isLateNow M (nI t) = 0 then if M.1 0 400 = 100 then 3 else 0 else 0 := by
  have e1 : F_X7_isKey (nI key) = 1 := pz_keyT (by omega)
  have e2 : F_X7_in (nI t) 0 9999 = 1 := pz_inT (lo := 0) (hi := 9999) (by omega) ht (by omega)
  unfold F_X7_lacks
  simp only [pz_bnd, e1, e2, pz_i10, if_false]
/-- an entry that can be carried out -/
theorem tx_do {n : Nat} {c m : CS} {E : Nat × Nat × Nat × Nat × Int32} {p : Nat} (h : RN n c m) (h0 : ¬ E.1 = 0) (hE : EOk 40 p E) (g6 : E.1 = 1 → m.2.1 6 = nI E.2.2.1 ∧ m.2.1 8 = E.2.2.2.2) (g7 : m.2.1 7 = nI E.2.2.2.1) (ok : okE E c) :
    S_X7_does m (nI E.1) ∧ (F_X7_does m (nI E.1)).1 = 1 ∧ FrM m (F_X7_does m (nI E.1)).2 ∧ FrC c (xC E c) ∧ (xC E c).2.1 0 = c.2.1 0 ∧ (xC E c).2.1 2 = (if E.1 = 2 then nI E.2.2.2.1 else c.2.1 2) ∧
      ∃ n', RN n' (xC E c) (F_X7_does m (nI E.1)).2 ∧ nI n' = (if E.1 = 2 then c.2.1 5 else if F_X1_comesLate c (nI E.2.2.2.1) (c.2.1 2) = 0 then c.2.1 5 + 1 else c.2.1 5) := by
  obtain ⟨b1, b2, b3, b4, b5, b6⟩ := hE
  unfold S_X7_does F_X7_does xC
  unfold okE at ok
  rw [g7]
  by_cases c2 : E.1 = 2
  · have q2 : nI E.1 = 2 := congrArg nI c2
    rw [if_pos c2] at ok ⊢
    rw [h.mark.1] at ok
    rw [if_pos c2, if_pos c2, if_pos q2, if_pos q2, if_pos ok, if_pos ok, pz_bnd, pz_bnd]
    obtain ⟨m1, m2, m3, m4, m5, m6, m7⟩ := h.mv (q := nI E.2.2.2.1) ⟨_, Nat.zero_le _, by omega, rfl⟩
    exact ⟨⟨m1, trivial⟩, rfl, m4, m3, m7 0 (by omega) (by omega), m6, n, m5, h.c5.symm⟩
  · have c1 : E.1 = 1 := by omega
    have q2 : ¬ nI E.1 = 2 := by rw [c1]; decide
    obtain ⟨g6, g8⟩ := g6 c1
    rw [if_neg c2] at ok ⊢
    rw [if_neg c2, if_neg c2, if_neg q2, if_neg q2, g6, g8, tx_lacks b5 b6, pz_bnd, pz_bnd]
    rw [h.isl, h.c5] at ok
    have hn := h.n
    have l0 : (if F_X7_isLateNow m (nI E.2.2.2.1) = 0 then if m.1 0 400 = 100 then (3 : Int32) else 0 else 0) = 0 := by
      by_cases z : F_X7_isLateNow m (nI E.2.2.2.1) = 0
      · have a := ok z
        have a2 : n < 100 := (nI_ltI (b := 100) (by omega) (by omega)).mp a
        rw [if_pos z, h.m4, if_neg (fun hh => by have := (nI_eq (b := 100) (by omega) (by omega)).mp hh; omega)]
      · rw [if_neg z]
    rw [if_pos l0, if_pos l0, pz_bnd, pz_bnd, h.isl, h.c5]
    obtain ⟨t1, t2, t3, t4, t5, t6, t7⟩ := h.tk (kk := E.2.2.1) (by omega) (t := nI E.2.2.2.1) ⟨_, Nat.zero_le _, b6, rfl⟩ E.2.2.2.2 (fun z => by have := (nI_ltI (b := 100) (by omega) (by omega)).mp (ok z); omega)
    refine ⟨⟨t1, trivial⟩, rfl, t4, t3, t6, t7, _, t5, ?_⟩
    by_cases z : F_X7_isLateNow m (nI E.2.2.2.1) = 0
    · rw [if_pos z, if_pos z, pz_s1]
    · rw [if_neg z, if_neg z]
/-- an entry that can't be carried out -/
theorem tx_dont {n : Nat} {c m : CS} {E : Nat × Nat × Nat × Nat × Int32} {p : Nat} (h : RN n c m) (h0 : ¬ E.1 = 0) (hE : EOk 40 p E) (g6 : E.1 = 1 → m.2.1 6 = nI E.2.2.1 ∧ m.2.1 8 = E.2.2.2.2) (g7 : m.2.1 7 = nI E.2.2.2.1) (ok : ¬ okE E c) :
    S_X7_does m (nI E.1) ∧ F_X7_does m (nI E.1) = (0, m) := by
  obtain ⟨b1, b2, b3, b4, b5, b6⟩ := hE
  unfold S_X7_does F_X7_does
  unfold okE at ok
  rw [g7]
  by_cases c2 : E.1 = 2
  · have q2 : nI E.1 = 2 := congrArg nI c2
    rw [if_pos c2, h.mark.1] at ok
    rw [if_pos q2, if_pos q2, if_neg ok, if_neg ok]
    exact ⟨trivial, rfl⟩
  · have c1 : E.1 = 1 := by omega
    have q2 : ¬ nI E.1 = 2 := by rw [c1]; decide
    obtain ⟨g6, g8⟩ := g6 c1
    rw [if_neg c2, h.isl, h.c5] at ok
    have hn := h.n
    rw [if_neg q2, if_neg q2, g6, tx_lacks b5 b6, pz_bnd, pz_bnd]
    by_cases z : F_X7_isLateNow m (nI E.2.2.2.1) = 0
    · have e100 : n = 100 := by
        rcases Nat.lt_or_ge n 100 with y | y
        · exact absurd (fun _ => (nI_ltI (b := 100) (by omega) (by omega)).mpr y) ok
        · omega
      have e3 : m.1 0 400 = 100 := by rw [h.m4, e100]; all_goals rfl
      rw [if_pos z, if_pos e3, if_neg pz_i30, if_neg pz_i30]
      exact ⟨trivial, rfl⟩
    · exact absurd (fun y => absurd y z) ok
/-- all entries up to the first that can't -/
theorem tx_inv {T : Nat → Int32} {k : Nat} (hk : k ≤ 40) {U V : CS} {n : Nat} (h : RN n U V) (t : TM T k 0 V) {N : Nat} (hK : ∀ i, i < N → ¬ (en T k i).1 = 0) : ∀ i, i ≤ N → (∀ j, j < i → okE (en T k j) (cq T k U j)) →
    ∃ n', RN n' (cq T k U i) (mq V i) ∧ FrC U (cq T k U i) ∧ FB V (mq V i) ∧ TM T k (ps T k i) (mq V i) ∧ (cq T k U i).2.1 0 = U.2.1 0
  | 0, _, _ => ⟨n, h, FrC.rf U, FB.rf V, t, rfl⟩
  | i + 1, hi, ho => by
    obtain ⟨n', r, f, fb, tm, l⟩ := tx_inv hk h t hK i (by omega) (fun j hj => ho j (by omega))
    have hp := ps_k T k i
    obtain ⟨_, g1, g2, g3, g4, g5⟩ := mre tm (by omega)
    have g1 : (F_X7_readsEntry (mq V i)).1 = nI (en T k i).1 := g1
    have hz := hK i (by omega)
    have r2 := r.ft g2
    have bE : EOk 40 (ps T k i) (en T k i) := by
      have a := (ent_b T k (ps T k i)).1
      exact ⟨a.1, fun _ => Nat.le_trans (a.2.1 hp) hk, a.2.2.1, a.2.2.2.1, a.2.2.2.2.1, a.2.2.2.2.2⟩
    obtain ⟨d1, d2, d3, d4, d5, d6, n2, d7, d8⟩ := tx_do r2 hz bE g4 (g5 hz) (ho i (by omega))
    have em : mq V (i + 1) = (F_X7_does (F_X7_readsEntry (mq V i)).2 (nI (en T k i).1)).2 := by
      show (F_X7_does (F_X7_readsEntry (mq V i)).2 (F_X7_readsEntry (mq V i)).1).2 = _
      rw [g1]
    have t2 : TM T k (ps T k (i + 1)) (F_X7_readsEntry (mq V i)).2 := tm.of g2 g3
    refine ⟨n2, ?_, f.tr d4, ?_, ?_, d5.trans l⟩
    · rw [em]
      exact d7
    · rw [em]
      exact fb.tr (g2.fb.tr d3.fb)
    · rw [em]
      exact ⟨hk, (congrFun d3.2.1 2).trans t2.2.1, (congrFun d3.2.1 4).trans t2.2.2.1, (d3.1 3 (by omega)).trans t2.2.2.2⟩
/-- the class's look ahead -/
theorem tx_can {T : Nat → Int32} {k : Nat} (hk : k ≤ 40) {U V : CS} {n : Nat} (h : RN n U V) (t : TM T k 0 V) {N : Nat} (hN : N ≤ 14) (hK : ∀ i, i < N → ¬ (en T k i).1 = 0) (h20 : U.2.1 20 = nI N) (hD : ∀ i, i < N → DX U i (en T k i)) :
    (F_X1_canCarryOut U = 1 ∧ ∀ j, j < N → okE (en T k j) (cq T k U j)) ∨ (F_X1_canCarryOut U = 0 ∧ ∃ i, i < N ∧ (∀ j, j < i → okE (en T k j) (cq T k U j)) ∧ ¬ okE (en T k i) (cq T k U i)) := by
  unfold F_X1_canCarryOut
  rw [h20, pz_fu (by omega)]
  refine pz_ho (fun i s => (∀ j, j < i → okE (en T k j) (cq T k U j)) ∧ s = (nI i, (cq T k U i).2.1 5, (cq T k U i).2.1 2)) (fun r => (r = 1 ∧ ∀ j, j < N → okE (en T k j) (cq T k U j)) ∨ (r = 0 ∧ ∃ i, i < N ∧ (∀ j, j < i → okE (en T k j) (cq T k U j)) ∧ ¬ okE (en T k i) (cq T k U i))) N (fun i s hi hs => ?_) (fun s hs => ?_) N 0 (0, U.2.1 5, U.2.1 2) (by omega) ⟨fun j hj => absurd hj (by omega), rfl⟩
  · obtain ⟨ho, e⟩ := hs
    subst e
    show (∃ s', st_X1_canCarryOut_22 U (nI i) ((cq T k U i).2.1 5) ((cq T k U i).2.1 2) = .inl s' ∧ _) ∨ ∃ r, st_X1_canCarryOut_22 U (nI i) ((cq T k U i).2.1 5) ((cq T k U i).2.1 2) = .inr r ∧ _
    obtain ⟨n', r, f, fb, tm, l⟩ := tx_inv hk h t hK i (by omega) ho
    have hp := ps_k T k i
    obtain ⟨_, g1, g2, g3, g4, g5⟩ := mre tm (by omega)
    have hz := hK i hi
    have r2 := r.ft g2
    have bE : EOk 40 (ps T k i) (en T k i) := by
      have a := (ent_b T k (ps T k i)).1
      exact ⟨a.1, fun _ => Nat.le_trans (a.2.1 hp) hk, a.2.2.1, a.2.2.2.1, a.2.2.2.2.1, a.2.2.2.2.2⟩
    obtain ⟨x1, x2, x3⟩ := hD i hi
    have r1 : rAt 14 (U.1 44) (nI i) = nI (en T k i).2.2.2.1 := (pz_rAt _ (show i < 14 by omega) (by omega)).trans x2
    have r3 : rAt 14 (U.1 43) (nI i) = if (en T k i).1 = 2 then -1 else nI (en T k i).2.2.1 := (pz_rAt _ (show i < 14 by omega) (by omega)).trans x1
    have lc : ∀ x y, F_X1_comesLate U x y = F_X1_comesLate (cq T k U i) x y := by
      intro x y
      unfold F_X1_comesLate
      rw [l]
    have stay : ¬ okE (en T k i) (cq T k U i) → ((0 : Int32) = 1 ∧ ∀ j, j < N → okE (en T k j) (cq T k U j)) ∨ ((0 : Int32) = 0 ∧ ∃ i, i < N ∧ (∀ j, j < i → okE (en T k j) (cq T k U j)) ∧ ¬ okE (en T k i) (cq T k U i)) := fun z => .inr ⟨rfl, i, hi, ho, z⟩
    have more : okE (en T k i) (cq T k U i) → ∀ j, j < i + 1 → okE (en T k j) (cq T k U j) := by
      intro z j hj
      rcases Nat.lt_or_ge j i with y | y
      · exact ho j y
      · have e : j = i := by omega
        subst e
        exact z
    unfold st_X1_canCarryOut_22
    rw [h20, if_neg (pz_ge hi (by omega)), r1, r3]
    simp only [pz_bnd]
    rw [lc]
    by_cases c2 : (en T k i).1 = 2
    · rw [if_pos c2, if_pos rfl]
      by_cases z : (cq T k U i).2.1 2 ≤ nI (en T k i).2.2.2.1
      · have ok : okE (en T k i) (cq T k U i) := by
          unfold okE
          rw [if_pos c2]
          exact z
        obtain ⟨d1, d2, d3, d4, d5, d6, n2, d7, d8⟩ := tx_do r2 hz bE g4 (g5 hz) ok
        rw [if_pos c2] at d6 d8
        rw [if_pos z, pz_s1]
        refine .inl ⟨_, rfl, more ok, ?_⟩
        show (nI (i + 1), (cq T k U i).2.1 5, nI (en T k i).2.2.2.1) = (nI (i + 1), (xC (en T k i) (cq T k U i)).2.1 5, (xC (en T k i) (cq T k U i)).2.1 2)
        rw [d6, d7.c5, d8]
      · rw [if_neg z]
        refine .inr ⟨_, rfl, stay ?_⟩
        unfold okE
        rw [if_pos c2]
        exact z
    · have n2 : ¬ nI (en T k i).2.2.1 = -1 := tx_nm (by have := bE.2.2.2.2.1; omega)
      rw [if_neg c2, if_neg n2]
      by_cases z : F_X1_comesLate (cq T k U i) (nI (en T k i).2.2.2.1) ((cq T k U i).2.1 2) = 0
      · rw [if_pos z]
        by_cases y : (cq T k U i).2.1 5 < 100
        · have ok : okE (en T k i) (cq T k U i) := by
            unfold okE
            rw [if_neg c2]
            exact fun _ => y
          obtain ⟨d1, d2, d3, d4, d5, d6, n2, d7, d8⟩ := tx_do r2 hz bE g4 (g5 hz) ok
          rw [if_neg c2] at d6 d8
          rw [if_pos z] at d8
          rw [if_pos y, pz_s1]
          refine .inl ⟨_, rfl, more ok, ?_⟩
          show (nI (i + 1), (cq T k U i).2.1 5 + 1, (cq T k U i).2.1 2) = (nI (i + 1), (xC (en T k i) (cq T k U i)).2.1 5, (xC (en T k i) (cq T k U i)).2.1 2)
          rw [d6, d7.c5, d8]
        · rw [if_neg y]
          refine .inr ⟨_, rfl, stay ?_⟩
          unfold okE
          rw [if_neg c2]
          exact fun w => y (w z)
      · have ok : okE (en T k i) (cq T k U i) := by
          unfold okE
          rw [if_neg c2]
          exact fun w => absurd w z
        obtain ⟨d1, d2, d3, d4, d5, d6, n2, d7, d8⟩ := tx_do r2 hz bE g4 (g5 hz) ok
        rw [if_neg c2] at d6 d8
        rw [if_neg z] at d8
        rw [if_neg z, pz_s1]
        refine .inl ⟨_, rfl, more ok, ?_⟩
        show (nI (i + 1), (cq T k U i).2.1 5, (cq T k U i).2.1 2) = (nI (i + 1), (xC (en T k i) (cq T k U i)).2.1 5, (xC (en T k i) (cq T k U i)).2.1 2)
        rw [d6, d7.c5, d8]
  · obtain ⟨ho, e⟩ := hs
    subst e
    show ∃ r, st_X1_canCarryOut_22 U (nI N) ((cq T k U N).2.1 5) ((cq T k U N).2.1 2) = .inr r ∧ _
    unfold st_X1_canCarryOut_22
    rw [h20, if_pos (pz_leR N (by omega))]
    exact ⟨_, rfl, .inl ⟨rfl, ho⟩⟩
/-- the class carries them out -/
theorem tx_car {T : Nat → Int32} {k : Nat} (hk : k ≤ 40) {U V Z : CS} {n : Nat} (h : RN n U V) (t : TM T k 0 V) {N : Nat} (hN : N ≤ 14) (hK : ∀ i, i < N → ¬ (en T k i).1 = 0) (h20 : U.2.1 20 = nI N) (hD : ∀ i, i < N → DX U i (en T k i)) (ho : ∀ j, j < N → okE (en T k j) (cq T k U j)) :
    lpS (fun (z : Int32 × CS) => st_X6_read_67 z.1 z.2) (fun (z : Int32 × CS) => Sst_X6_read_67 z.1 z.2) (N + 1) (0, U) ∧ lp (fun (z : Int32 × CS) => st_X6_read_67 z.1 z.2) (.inr 0, Z) (N + 1) (0, U) = (.inr (nI N), cq T k U N) := by
  have f20 : ∀ i, i ≤ N → FrC U (cq T k U i) := fun i hi => by
    obtain ⟨_, _, f, _⟩ := tx_inv hk h t hK i hi (fun j hj => ho j (by omega))
    exact f
  refine pz_bo (fun i s => s = (nI i, cq T k U i)) (fun (r : (String ⊕ Int32) × CS) => r = (.inr (nI N), cq T k U N)) N (fun i s hi hs => ?_) (fun s hs => ?_) N 0 (0, U) (by omega) rfl
  · subst hs
    show Sst_X6_read_67 (nI i) (cq T k U i) ∧ ((∃ s', st_X6_read_67 (nI i) (cq T k U i) = .inl s' ∧ _) ∨ ∃ r, st_X6_read_67 (nI i) (cq T k U i) = .inr r ∧ _)
    have f := f20 i (by omega)
    obtain ⟨x1, x2, x3⟩ := hD i hi
    have q20 : (cq T k U i).2.1 20 = nI N := (f.2.1 20 (by omega)).trans h20
    have r1 : rAt 14 ((cq T k U i).1 44) (nI i) = nI (en T k i).2.2.2.1 := (pz_rAt _ (show i < 14 by omega) (by omega)).trans ((congrFun (f.1 44 (by omega)) i).trans x2)
    have r2 : rAt 14 ((cq T k U i).1 45) (nI i) = (en T k i).2.2.2.2 := (pz_rAt _ (show i < 14 by omega) (by omega)).trans ((congrFun (f.1 45 (by omega)) i).trans x3)
    have r3 : rAt 14 ((cq T k U i).1 43) (nI i) = if (en T k i).1 = 2 then -1 else nI (en T k i).2.2.1 := (pz_rAt _ (show i < 14 by omega) (by omega)).trans ((congrFun (f.1 43 (by omega)) i).trans x1)
    have bE := (ent_b T k (ps T k i)).1
    have eX : cq T k U (i + 1) = xC (en T k i) (cq T k U i) := rfl
    unfold xC at eX
    unfold st_X6_read_67
    refine ⟨trivial, .inl ?_⟩
    rw [q20, if_neg (pz_ge hi (by omega)), r1, r2, r3]
    simp only [pz_bnd]
    by_cases c2 : (en T k i).1 = 2
    · rw [if_pos c2] at eX
      rw [if_pos c2, if_pos rfl, ← eX, pz_s1]
      exact ⟨_, rfl, rfl⟩
    · have n2 : ¬ nI (en T k i).2.2.1 = -1 := tx_nm (by have a : (en T k i).2.2.1 ≤ 7 := bE.2.2.2.2.1; omega)
      rw [if_neg c2] at eX
      rw [if_neg c2, if_neg n2, ← eX, pz_s1]
      exact ⟨_, rfl, rfl⟩
  · subst hs
    show Sst_X6_read_67 (nI N) (cq T k U N) ∧ ∃ r, st_X6_read_67 (nI N) (cq T k U N) = .inr r ∧ _
    have f := f20 N (Nat.le_refl _)
    have q20 : (cq T k U N).2.1 20 = nI N := (f.2.1 20 (by omega)).trans h20
    unfold st_X6_read_67
    rw [q20, if_pos (pz_leR N (by omega))]
    exact ⟨trivial, _, rfl, rfl⟩
