/-! pure: the entries of a text, on both sides -/
def ps (T : Nat → Int32) (k : Nat) : Nat → Nat
  | 0 => 0
  | j + 1 => (ent T k (ps T k j)).2.1
def en (T : Nat → Int32) (k j : Nat) : Nat × Nat × Nat × Nat × Int32 := ent T k (ps T k j)
theorem ps_s (T : Nat → Int32) (k j : Nat) : ps T k (j + 1) = (en T k j).2.1 := rfl
theorem ps_k (T : Nat → Int32) (k : Nat) : ∀ j, ps T k j ≤ k
  | 0 => Nat.zero_le _
  | j + 1 => (ent_b T k (ps T k j)).1.2.1 (ps_k T k j)
theorem tx_out (T : Nat → Int32) {k : Nat} (hk : k ≤ 40) : ∃ J, J ≤ 13 ∧ (∀ i, i < J → ¬ (en T k i).1 = 0 ∧ ps T k (i + 1) < k) ∧ ((en T k J).1 = 0 ∨ k ≤ ps T k (J + 1)) := by
  by_cases hc : ∃ J, J ≤ 13 ∧ (∀ i, i < J → ¬ (en T k i).1 = 0 ∧ ps T k (i + 1) < k) ∧ ((en T k J).1 = 0 ∨ k ≤ ps T k (J + 1))
  · exact hc
  · have key : ∀ m, m ≤ 14 → ∀ i, i < m → ¬ (en T k i).1 = 0 ∧ ps T k (i + 1) < k := by
      intro m
      induction m with
      | zero => intro _ i hi; omega
      | succ m ih =>
        intro hm i hi
        have ih := ih (by omega)
        by_cases c : i < m
        · exact ih i c
        · have e : i = m := by omega
          subst e
          refine ⟨fun z => hc ⟨i, by omega, ih, .inl z⟩, ?_⟩
          rcases Nat.lt_or_ge (ps T k (i + 1)) k with z | z
          · exact z
          · exact absurd ⟨i, by omega, ih, .inr z⟩ hc
    have gr : ∀ m, m ≤ 14 → 3 * m ≤ ps T k m := by
      intro m
      induction m with
      | zero => intro _; exact Nat.zero_le _
      | succ m ih =>
        intro hm
        have a := ih (by omega)
        have b := (ent_b T k (ps T k m)).2 (key 14 (Nat.le_refl _) m (by omega)).1
        have c : ps T k (m + 1) = (ent T k (ps T k m)).2.1 := rfl
        omega
    have a := gr 14 (Nat.le_refl _)
    have b : ps T k 14 < k := (key 14 (Nat.le_refl _) 13 (by omega)).2
    omega
def FX (C D : CS) : Prop := (∀ j, j < 43 → D.1 j = C.1 j) ∧ (∀ j, j ≠ 19 → j ≠ 20 → D.2.1 j = C.2.1 j) ∧ D.2.2 = C.2.2
def DX (w : CS) (i : Nat) (E : Nat × Nat × Nat × Nat × Int32) : Prop := w.1 43 i = (if E.1 = 2 then -1 else nI E.2.2.1) ∧ w.1 44 i = nI E.2.2.2.1 ∧ w.1 45 i = E.2.2.2.2
theorem FX.tb {T : Nat → Int32} {k : Nat} {C D : CS} (f : FX C D) (h : TB T k C) : TB T k D := ⟨h.1, (f.2.1 18 (by omega) (by omega)).trans h.2.1, fun i hi => (congrFun (f.1 42 (by omega)) i).trans (h.2.2 i hi)⟩
theorem FX.nt {C D : CS} (f : FX C D) (e : Nat) (a b c : Int32) : FX C (nE D e a b c) := by
  refine ⟨fun j hj => ?_, fun j h1 h2 => ?_, f.2.2⟩
  · unfold nE
    rw [pz_IR, pz_R, if_neg (by omega), pz_R, if_neg (by omega), pz_R, if_neg (by omega)]
    exact f.1 j hj
  · unfold nE
    rw [pz_I, if_neg h2, pz_RI, pz_RI, pz_RI]
    exact f.2.1 j h1 h2
theorem FX.p {C D : CS} (f : FX C D) (v : Int32) : FX C (sI D 19 v) := by
  refine ⟨f.1, fun j h1 h2 => ?_, f.2.2⟩
  rw [pz_I, if_neg h1]
  exact f.2.1 j h1 h2
theorem DX.o {w : CS} {i e : Nat} {E : Nat × Nat × Nat × Nat × Int32} (h : DX w i E) (hi : i < e) (a b c : Int32) : DX (nE w e a b c) i E := by
  refine ⟨?_, ?_, ?_⟩
  · show upd (w.1 43) e a i = _
    rw [pz_updN (by omega)]
    exact h.1
  · show upd (w.1 44) e b i = _
    rw [pz_updN (by omega)]
    exact h.2.1
  · show upd (w.1 45) e c i = _
    rw [pz_updN (by omega)]
    exact h.2.2
theorem DX.n (w : CS) (e : Nat) (E : Nat × Nat × Nat × Nat × Int32) : DX (nE w e (if E.1 = 2 then -1 else nI E.2.2.1) (nI E.2.2.2.1) E.2.2.2.2) e E := by
  refine ⟨?_, ?_, ?_⟩
  · show upd (w.1 43) e _ e = _
    rw [pz_updE]
  · show upd (w.1 44) e _ e = _
    rw [pz_updE]
  · show upd (w.1 45) e _ e = _
    rw [pz_updE]
theorem cpa {T : Nat → Int32} {k : Nat} {C : CS} (h : TB T k C) {J : Nat} (hJ : J ≤ 13) (h1 : ∀ i, i < J → ¬ (en T k i).1 = 0 ∧ ps T k (i + 1) < k) (hE : (en T k J).1 = 0 ∨ k ≤ ps T k (J + 1)) :
    FX C (F_X5_parse C).2 ∧ (((en T k J).1 = 0 ∧ (F_X5_parse C).1 = 0 ∧ (F_X5_parse C).2.2.1 19 = nI (ps T k (J + 1))) ∨ (¬ (en T k J).1 = 0 ∧ (F_X5_parse C).1 = 1 ∧ (F_X5_parse C).2.2.1 20 = nI (J + 1) ∧ ∀ i, i ≤ J → DX (F_X5_parse C).2 i (en T k i))) := by
  have hk : k ≤ 40 := h.1
  have f14 : ((14 : Int32).toInt - (0 : Int32).toInt).toNat + 1 = 14 + 1 := pz_fu (n := 14) (by omega)
  have e0 : sI (sI C 19 0) 20 0 = sI (sI C 20 0) 19 (nI (ps T k 0)) := Prod.ext rfl (Prod.ext (tx_cm C.2.1 (i := 19) (j := 20) (by omega) 0 0) rfl)
  unfold F_X5_parse
  rw [pz_bnd, pz_bnd, f14, e0]
  refine pz_ho (fun i s => i ≤ J ∧ ∃ w, s = (nI i, sI w 19 (nI (ps T k i))) ∧ FX C w ∧ w.2.1 20 = nI i ∧ ∀ j, j < i → DX w j (en T k j)) (fun (r : Int32 × CS) => FX C r.2 ∧ (((en T k J).1 = 0 ∧ r.1 = 0 ∧ r.2.2.1 19 = nI (ps T k (J + 1))) ∨ (¬ (en T k J).1 = 0 ∧ r.1 = 1 ∧ r.2.2.1 20 = nI (J + 1) ∧ ∀ i, i ≤ J → DX r.2 i (en T k i)))) 14 (fun i s hi hs => ?_) (fun s hs => ?_) 14 0 (0, sI (sI C 20 0) 19 (nI (ps T k 0))) (by omega) ⟨Nat.zero_le _, sI C 20 0, rfl, ⟨fun _ _ => rfl, fun j a b => by rw [pz_I, if_neg b], rfl⟩, by rw [pz_I, if_pos rfl]; all_goals rfl, fun j hj => absurd hj (by omega)⟩
  · obtain ⟨hiJ, w, e, f, h20, hd⟩ := hs
    subst e
    show (∃ s', st_X5_parse_12 (nI i) (sI w 19 (nI (ps T k i))) = .inl s' ∧ _) ∨ ∃ r, st_X5_parse_12 (nI i) (sI w 19 (nI (ps T k i))) = .inr r ∧ _
    have hp := ps_k T k i
    have hp1 := ps_k T k (i + 1)
    have n14 : ¬ (14 : Int32) ≤ nI i := pz_ge (b := 14) hi (by omega)
    have ep := cpe (f.tb h) (p := ps T k i) (by omega) h20 (by omega)
    have ep : F_X5_parseEntry (sI w 19 (nI (ps T k i))) = rsC w i (en T k i) := ep
    unfold st_X5_parse_12
    rw [if_neg n14, ep]
    unfold rsC
    rw [← ps_s]
    by_cases c : (en T k i).1 = 0
    · have eJ : i = J := by
        rcases Nat.lt_or_ge i J with z | z
        · exact absurd c (h1 i z).1
        · omega
      subst eJ
      rw [if_pos c]
      simp only [pz_bnd, if_true]
      refine .inr ⟨_, rfl, f.p _, .inl ⟨c, rfl, ?_⟩⟩
      show (sI w 19 (nI (ps T k (i + 1)))).2.1 19 = _
      rw [pz_I, if_pos rfl]
    · rw [if_neg c]
      simp only [pz_bnd, if_neg pz_i10]
      obtain ⟨w2, ew⟩ : ∃ x, x = nE w i (if (en T k i).1 = 2 then -1 else nI (en T k i).2.2.1) (nI (en T k i).2.2.2.1) (en T k i).2.2.2.2 := ⟨_, rfl⟩
      have f2 : FX C w2 := by rw [ew]; exact f.nt _ _ _ _
      have t2 := f2.tb h
      have d2 : ∀ j, j ≤ i → DX w2 j (en T k j) := by
        intro j hj
        rw [ew]
        rcases Nat.lt_or_ge j i with z | z
        · exact (hd j z).o z _ _ _
        · have e : j = i := by omega
          subst e
          exact DX.n w j (en T k j)
      have h2 : w2.2.1 20 = nI (i + 1) := by
        rw [ew]
        unfold nE
        rw [pz_I, if_pos rfl]
      rw [← ew]
      have e19 : (sI w2 19 (nI (ps T k (i + 1)))).2.1 19 = nI (ps T k (i + 1)) := by rw [pz_I, if_pos rfl]
      have e18 : (sI w2 19 (nI (ps T k (i + 1)))).2.1 18 = nI k := t2.2.1
      rw [e19, e18]
      by_cases d : ps T k (i + 1) < k
      · have hiJ2 : i < J := by
          rcases Nat.lt_or_ge i J with z | z
          · exact z
          · have e : i = J := by omega
            subst e
            rcases hE with y | y
            · exact absurd y c
            · omega
        rw [if_pos (show nI (ps T k (i + 1)) < nI k by rw [tx_lt (by omega) (by omega)]; exact d), pz_s1]
        exact .inl ⟨_, rfl, hiJ2, w2, rfl, f2, h2, fun j hj => d2 j (by omega)⟩
      · have eJ : i = J := by
          rcases Nat.lt_or_ge i J with z | z
          · exact absurd (h1 i z).2 d
          · omega
        subst eJ
        rw [if_neg (show ¬ nI (ps T k (i + 1)) < nI k by rw [tx_lt (by omega) (by omega)]; exact d)]
        exact .inr ⟨_, rfl, f2.p _, .inr ⟨c, rfl, h2, d2⟩⟩
  · exact absurd hs.1 (by omega)
theorem mce {T : Nat → Int32} {k : Nat} {M : CS} (hk : k ≤ 40) (h2 : M.2.1 2 = nI k) (hT : M.1 3 = T) {J : Nat} (hJ : J ≤ 13) (h1 : ∀ i, i < J → ¬ (en T k i).1 = 0 ∧ ps T k (i + 1) < k) (hE : (en T k J).1 = 0 ∨ k ≤ ps T k (J + 1)) :
    S_X7_countsEntries M ∧ (FT M (F_X7_countsEntries M).2 ∧ (((en T k J).1 = 0 ∧ (F_X7_countsEntries M).1 = -1 ∧ (F_X7_countsEntries M).2.2.1 4 = nI (ps T k (J + 1))) ∨ (¬ (en T k J).1 = 0 ∧ (F_X7_countsEntries M).1 = nI (J + 1)))) := by
  unfold S_X7_countsEntries F_X7_countsEntries
  rw [pz_bnd, pz_bnd]
  have ek : ∀ i, (en T k i).1 ≤ 2 := fun i => (ent_b T k (ps T k i)).1.1
  refine pz_bo (fun i s => i ≤ J + 1 ∧ ∃ w, FT M w ∧ TM T k (ps T k i) w ∧ ((∃ wh : Int32, ¬ wh = 0 ∧ s = (wh, nI i, w) ∧ (i = J + 1 → ¬ (en T k J).1 = 0)) ∨ (i = J + 1 ∧ (en T k J).1 = 0 ∧ s = (0, nI J, w)))) (fun (r : Int32 × CS) => FT M r.2 ∧ (((en T k J).1 = 0 ∧ r.1 = -1 ∧ r.2.2.1 4 = nI (ps T k (J + 1))) ∨ (¬ (en T k J).1 = 0 ∧ r.1 = nI (J + 1)))) 100 (fun i s hi hs => ?_) (fun s hs => ?_) 100 0 (1, 0, sI M 4 0) (by omega) ⟨Nat.zero_le _, sI M 4 0, FT.i (by omega), ⟨hk, by rw [pz_I, if_neg (by omega)]; exact h2, by rw [pz_I, if_pos rfl]; all_goals rfl, hT⟩, .inl ⟨1, pz_i10, rfl, fun hh => absurd hh (by omega)⟩⟩
  · obtain ⟨hiJ, w, f, t, hs⟩ := hs
    have hp := ps_k T k i
    rcases hs with ⟨wh, hw, e, hc⟩ | ⟨hi2, hz, e⟩
    · subst e
      show Sst_X7_countsEntries_9 wh (nI i) w ∧ ((∃ s', st_X7_countsEntries_9 wh (nI i) w = .inl s' ∧ _) ∨ ∃ r, st_X7_countsEntries_9 wh (nI i) w = .inr r ∧ _)
      obtain ⟨rS, rm⟩ := mre t (by omega)
      have rm : RM w (en T k i) (F_X7_readsEntry w) := rm
      have e0 : nI i = 0 ↔ i = 0 := nI_eq (b := 0) (by omega) (by omega)
      -- a turn that reads
      have go : i ≤ J → ∃ s', (if (F_X7_readsEntry w).1 = 0 then (Sum.inl ((F_X7_readsEntry w).1, nI i + 0, (F_X7_readsEntry w).2) : (Int32 × Int32 × CS) ⊕ (Int32 × CS)) else .inl ((F_X7_readsEntry w).1, nI i + 1, (F_X7_readsEntry w).2)) = .inl s' ∧ i + 1 ≤ J + 1 ∧ ∃ w, FT M w ∧ TM T k (ps T k (i + 1)) w ∧ ((∃ wh : Int32, ¬ wh = 0 ∧ s' = (wh, nI (i + 1), w) ∧ (i + 1 = J + 1 → ¬ (en T k J).1 = 0)) ∨ (i + 1 = J + 1 ∧ (en T k J).1 = 0 ∧ s' = (0, nI J, w))) := by
        intro hJi
        generalize F_X7_readsEntry w = r at rm ⊢
        obtain ⟨rr, r2⟩ := r
        dsimp only
        obtain ⟨g1, g2, g3, g4, g5⟩ := rm
        have g1 : rr = nI (en T k i).1 := g1
        have g2 : FT w r2 := g2
        have t2 : TM T k (ps T k (i + 1)) r2 := t.of g2 g3
        have hk2 := ek i
        have z0 : rr = 0 ↔ (en T k i).1 = 0 := by rw [g1]; exact nI_eq (b := 0) (by omega) (by omega)
        by_cases c : (en T k i).1 = 0
        · have eJ : i = J := by
            rcases Nat.lt_or_ge i J with z | z
            · exact absurd c (h1 i z).1
            · omega
          subst eJ
          have c2 : rr = 0 := z0.mpr c
          rw [if_pos c2]
          refine ⟨_, rfl, Nat.le_refl _, r2, f.tr g2, t2, .inr ⟨rfl, c, ?_⟩⟩
          rw [c2, Int32.add_zero]
        · have c2 : ¬ rr = 0 := fun z => c (z0.mp z)
          rw [if_neg c2, pz_s1]
          refine ⟨_, rfl, by omega, r2, f.tr g2, t2, .inl ⟨rr, c2, rfl, fun hh => ?_⟩⟩
          have e : i = J := by omega
          subst e
          exact c
      unfold Sst_X7_countsEntries_9 st_X7_countsEntries_9
      rw [if_neg hw, if_neg hw]
      by_cases c0 : i = 0
      · rw [if_pos (e0.mpr c0), if_pos (e0.mpr c0), pz_bnd, pz_bnd]
        exact ⟨⟨rS, trivial⟩, .inl (go (by omega))⟩
      · have n0 : ¬ nI i = 0 := fun z => c0 (e0.mp z)
        rw [if_neg n0, if_neg n0, t.2.1, t.2.2.1]
        by_cases c1 : i = J + 1
        · have hz := hc c1
          subst c1
          have hk2 : k ≤ ps T k (J + 1) := by
            rcases hE with z | z
            · exact absurd z hz
            · exact z
          have n1 : nI k ≤ nI (ps T k (J + 1)) := by rw [tx_le (by omega) (by omega)]; exact hk2
          rw [if_pos n1, if_pos n1, if_neg hw]
          exact ⟨trivial, .inr ⟨_, rfl, f, .inr ⟨hz, rfl⟩⟩⟩
        · have hlt : ps T k i < k := by
            have := (h1 (i - 1) (by omega)).2
            rw [show i - 1 + 1 = i by omega] at this
            exact this
          have n1 : ¬ nI k ≤ nI (ps T k i) := by rw [tx_le (by omega) (by omega)]; omega
          rw [if_neg n1, if_neg n1, pz_bnd, pz_bnd]
          exact ⟨⟨rS, trivial⟩, .inl (go (by omega))⟩
    · subst e
      subst hi2
      show Sst_X7_countsEntries_9 0 (nI J) w ∧ ((∃ s', st_X7_countsEntries_9 0 (nI J) w = .inl s' ∧ _) ∨ ∃ r, st_X7_countsEntries_9 0 (nI J) w = .inr r ∧ _)
      unfold Sst_X7_countsEntries_9 st_X7_countsEntries_9
      rw [if_pos rfl, if_pos rfl, if_pos rfl]
      exact ⟨trivial, .inr ⟨_, rfl, f, .inl ⟨hz, rfl, t.2.2.1⟩⟩⟩
  · exact absurd hs.1 (by omega)
