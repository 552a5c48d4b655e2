/-! pure: all merges -/
theorem loO_s {g : Nat → Int32} {k gp : Int32} {n l : Nat} (e : loO g k gp n = some l) : ∃ h, paO g k gp n l = some h ∧ l < h ∧ h < n ∧ opB g l = true ∧ opB g h = true ∧ mB g l 1 = k ∧ mB g h 1 = k := by
  obtain ⟨_, a2, a3, _⟩ := pz_fN_some e
  cases e2 : paO g k gp n l with
  | none => rw [e2] at a3; cases a3
  | some h =>
    obtain ⟨b1, b2, b3⟩ := paO_lt e2
    unfold prP at b3
    rw [Bool.and_eq_true, Bool.and_eq_true, Bool.and_eq_true, Bool.and_eq_true] at b3
    exact ⟨h, rfl, b1, b2, b3.1.1.1.1, b3.1.1.1.2, of_decide_eq_true b3.1.1.2, of_decide_eq_true b3.1.2⟩
def Mga (n own : Nat) (o : Int32) (C M D N : CS) : Prop := FrC C D ∧ FrM M N ∧ RN n D N ∧ (∀ k, k < 4 → D.2.1 k = C.2.1 k) ∧ mK (N.1 0) own 3 = o ∧ ∀ x, 1402 ≤ x → x < 1422 → N.1 0 x = M.1 0 x
theorem RN.mal {n : Nat} (dC : Int32 × CS) (dM : (Int32 × CS) ⊕ (Int32 × CS)) (M0 : CS) {kk own : Nat} (hk8 : kk < 8) (ho : own < n) (gp : Int32) : ∀ (t : Nat) (C M : CS) (i t' : Nat) (o : Int32), RN n C M → cN (stB (M.1 0)) n ≤ t → i + t ≤ 100 → t ≤ t' → 1 ≤ t' → mK (M.1 0) own 3 = o → M.1 0 (1402 + kk) = gp →
    ∃ (C' M' : CS) (o' : Int32), lp (fun (z : Int32 × Int32 × CS) => st_X1_mergeAll_15 (nI kk) gp z.1 z.2.1 z.2.2) dC (100 - i + 1) (nI i, o, C) = (o', C') ∧ Mga n own o' C M C' M' ∧
      ∀ r, st_X7_comes_175 (nI kk) M0 0 M' = .inr r → Sst_X7_comes_175 (nI kk) M0 0 M' → lpS (fun (z : Int32 × CS) => st_X7_comes_175 (nI kk) M0 z.1 z.2) (fun (z : Int32 × CS) => Sst_X7_comes_175 (nI kk) M0 z.1 z.2) (t' + 1) (1, M) ∧ lp (fun (z : Int32 × CS) => st_X7_comes_175 (nI kk) M0 z.1 z.2) dM (t' + 1) (1, M) = r := by
  intro t
  induction t with
  | zero =>
    intro C M i t' o h ht hi htt ht1 how hgp
    exfalso
    have hn := h.n
    obtain ⟨b, hb, _, _, hb0⟩ := h.own ho
    have := pz_cN_pos (p := stB (M.1 0)) hb (decide_eq_true hb0)
    omega
  | succ t ih =>
    intro C M i t' o h ht hi htt ht1 how hgp
    have hn := h.n
    obtain ⟨t2, e2⟩ : ∃ t2, t' = t2 + 1 := ⟨t' - 1, by omega⟩
    subst e2
    have h1 := h.one hk8
    rw [hgp] at h1
    cases e : loO (M.1 0) (nI kk) gp n with
    | none =>
      rw [e] at h1
      have h12 : F_X7_mergesOne M (nI kk) = (0, M) := h1.2
      have s3 : (fun (z : Int32 × Int32 × CS) => st_X1_mergeAll_15 (nI kk) gp z.1 z.2.1 z.2.2) (nI i, o, C) = .inr (o, C) := by
        show st_X1_mergeAll_15 (nI kk) gp (nI i) o C = .inr (o, C)
        unfold st_X1_mergeAll_15
        rw [h.low, e]
        split
        · rfl
        · rfl
      refine ⟨C, M, o, pz_lpr (step := (fun (z : Int32 × Int32 × CS) => st_X1_mergeAll_15 (nI kk) gp z.1 z.2.1 z.2.2)) (s := (nI i, o, C)) s3, ⟨FrC.rf C, FrM.rf M, h, fun _ _ => rfl, how, fun _ _ _ => rfl⟩, fun r hr hs => ?_⟩
      have s1 : (fun (z : Int32 × CS) => st_X7_comes_175 (nI kk) M0 z.1 z.2) (1, M) = .inl (0, M) := by
        show st_X7_comes_175 (nI kk) M0 1 M = .inl (0, M)
        unfold st_X7_comes_175
        rw [if_neg pz_i10, pz_bnd, pz_bnd, h12]
      have s2 : (fun (z : Int32 × CS) => Sst_X7_comes_175 (nI kk) M0 z.1 z.2) (1, M) := by
        show Sst_X7_comes_175 (nI kk) M0 1 M
        unfold Sst_X7_comes_175
        rw [if_neg pz_i10]
        exact ⟨h1.1, trivial⟩
      have s4 : (fun (z : Int32 × CS) => st_X7_comes_175 (nI kk) M0 z.1 z.2) (0, M) = .inr r := hr
      rw [pz_lpl (step := (fun (z : Int32 × CS) => st_X7_comes_175 (nI kk) M0 z.1 z.2)) (s := (1, M)) (s' := (0, M)) s1]
      exact ⟨pz_lsl (step := (fun (z : Int32 × CS) => st_X7_comes_175 (nI kk) M0 z.1 z.2)) (s := (1, M)) (s' := (0, M)) s1 s2 (pz_lsr (step := (fun (z : Int32 × CS) => st_X7_comes_175 (nI kk) M0 z.1 z.2)) (s := (0, M)) s4 hs), pz_lpr (step := (fun (z : Int32 × CS) => st_X7_comes_175 (nI kk) M0 z.1 z.2)) (s := (0, M)) s4⟩
    | some l =>
      obtain ⟨hh, p1, p2, p3, p4, p5, p6, p7⟩ := loO_s e
      rw [e, onR_s p1] at h1
      obtain ⟨m1, f1, f2, f3, f4, f5, f6, f7⟩ := h.merge p2 p3 p4 p5 (p6.trans p7.symm)
      have hcl := pz_drop (p := stB (M.1 0)) (p' := stB ((F_X7_merges M (nI l) (nI hh)).1 0)) p3 (pz_opst p5) (by rw [f5 hh p3]; simp) (fun j hj hne => by rw [f5 j hj]; simp [hne])
      have hlp := pz_cN_pos (p := stB ((F_X7_merges M (nI l) (nI hh)).1 0)) (r := l) (n := n) (by omega) (by rw [f5 l (by omega), pz_opst p4]; simp; omega)
      have s3 : (fun (z : Int32 × Int32 × CS) => st_X1_mergeAll_15 (nI kk) gp z.1 z.2.1 z.2.2) (nI i, o, C) = .inl (nI (i + 1), if o = nI hh then nI l else o, F_X1_merge C (nI l) (nI hh)) := by
        show st_X1_mergeAll_15 (nI kk) gp (nI i) o C = _
        unfold st_X1_mergeAll_15
        rw [if_neg (show ¬ (100 : Int32) ≤ nI i from pz_ge (b := 100) (by omega) (by omega)), h.low, e, pz_bnd, pz_oIsome, if_neg (pz_ne1 (by omega)), h.par (by omega) p4 p6, p1, pz_bnd, pz_oIsome, pz_bnd, pz_s1]
        by_cases c : o = nI hh
        · rw [if_pos c, if_pos c]
        · rw [if_neg c, if_neg c]
      have how2 : mK ((F_X7_merges M (nI l) (nI hh)).1 0) own 3 = if o = nI hh then nI l else o := by rw [f6 own ho, how]
      have hgp2 : (F_X7_merges M (nI l) (nI hh)).1 0 (1402 + kk) = gp := by rw [f7 _ (by omega) (by omega), hgp]
      obtain ⟨C', M', o', x1, x2, x3⟩ := ih _ _ (i + 1) t2 _ f3 (by omega) (by omega) (by omega) (by omega) how2 hgp2
      have e3 : 100 - i = (100 - (i + 1)) + 1 := by omega
      refine ⟨C', M', o', ?_, ⟨f1.tr x2.1, f2.tr x2.2.1, x2.2.2.1, fun k hk => (x2.2.2.2.1 k hk).trans (f4 k hk), x2.2.2.2.2.1, fun x y1 y2 => (x2.2.2.2.2.2 x y1 y2).trans (f7 x y1 y2)⟩, fun r hr hs => ?_⟩
      · rw [e3, pz_lpl (step := (fun (z : Int32 × Int32 × CS) => st_X1_mergeAll_15 (nI kk) gp z.1 z.2.1 z.2.2)) (s := (nI i, o, C)) s3]
        exact x1
      · have s1 : (fun (z : Int32 × CS) => st_X7_comes_175 (nI kk) M0 z.1 z.2) (1, M) = .inl (1, F_X7_merges M (nI l) (nI hh)) := by
          show st_X7_comes_175 (nI kk) M0 1 M = _
          unfold st_X7_comes_175
          rw [if_neg pz_i10, pz_bnd, pz_bnd, h1.2]
        have s2 : (fun (z : Int32 × CS) => Sst_X7_comes_175 (nI kk) M0 z.1 z.2) (1, M) := by
          show Sst_X7_comes_175 (nI kk) M0 1 M
          unfold Sst_X7_comes_175
          rw [if_neg pz_i10]
          exact ⟨h1.1, trivial⟩
        have y := x3 r hr hs
        rw [pz_lpl (step := (fun (z : Int32 × CS) => st_X7_comes_175 (nI kk) M0 z.1 z.2)) (s := (1, M)) (s' := (1, F_X7_merges M (nI l) (nI hh))) s1]
        exact ⟨pz_lsl (step := (fun (z : Int32 × CS) => st_X7_comes_175 (nI kk) M0 z.1 z.2)) (s := (1, M)) (s' := (1, F_X7_merges M (nI l) (nI hh))) s1 s2 y.1, y.2⟩
