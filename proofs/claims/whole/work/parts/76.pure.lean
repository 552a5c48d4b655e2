/-! pure: advance -/
theorem pz_drop {p p' : Nat → Bool} {b n : Nat} (hb : b < n) (h1 : p b = true) (h2 : p' b = false) (h3 : ∀ j, j < n → j ≠ b → p' j = p j) : cN p' n + 1 = cN p n := by
  induction n with
  | zero => omega
  | succ n ih =>
    show cN p' n + (if p' n then 1 else 0) + 1 = cN p n + (if p n then 1 else 0)
    rcases Nat.lt_or_ge b n with h | h
    · have := ih h (fun j hj hn => h3 j (by omega) hn)
      rw [h3 n (by omega) (by omega)]
      omega
    · have e : b = n := by omega
      subst e
      rw [h1, h2, pz_cN_congr (fun j hj => h3 j (by omega) (by omega))]
      rfl
theorem RN.opb {n : Nat} {C M : CS} (_h : RN n C M) {b : Nat} (ho : opB (M.1 0) b = true) : mB (M.1 0) b 0 = 1 ∧ mB (M.1 0) b 4 = 0 := by
  unfold opB at ho
  rwa [decide_eq_true_eq] at ho
theorem RN.close {n : Nat} {C M : CS} (h : RN n C M) {b : Nat} (hb : b < n) (ho : opB (M.1 0) b = true) : RN n (sR C 8 (upd (C.1 8) b 1)) (sR M 0 (upd (M.1 0) (401 + 10 * b + 4) 1)) := by
  have hn := h.n
  refine ⟨hn, h.2.1.cg rfl rfl (fun k hk => rfl) (fun x hx => ?_) h.bal, fun j hj => ?_, h.2.2.2.1.cg (fun k _ hk => if_neg (by omega)) (fun x hx => ?_) (fun j hj => ⟨?_, ?_⟩), h.2.2.2.2.cg (fun k _ hk => if_neg (by omega)) rfl rfl (fun x hx _ => ?_)⟩
  · exact pz_updN (by omega)
  · by_cases e : j = b
    · subst e
      obtain ⟨a1, a2, a3, a4, a5, a6, a7, a8, a9, a10, a11⟩ := h.bu hb
      have hc : ∀ w, w ≠ 4 → mB (upd (M.1 0) (401 + 10 * j + 4) 1) j w = mB (M.1 0) j w := fun w hw => pz_updN (by omega)
      have hc4 : mB (upd (M.1 0) (401 + 10 * j + 4) 1) j 4 = 1 := pz_updE _ _ _
      unfold RB1
      rw [pz_R0, hc 1 (by omega), hc 2 (by omega), hc 3 (by omega), hc 9 (by omega), hc 5 (by omega), hc 6 (by omega), hc 7 (by omega), hc 8 (by omega), hc 0 (by omega), hc4]
      refine ⟨a1, a2, a3, a4, a5, a6, a7, a8, a9, a10, .inr (.inl ⟨?_, (h.opb ho).1, rfl⟩)⟩
      rw [pz_R, if_pos rfl, pz_updE]
    · refine (h.bu hj).cg (fun k h1 h2 => ?_) (fun w hw => pz_updN (by omega))
      by_cases c : k = 8
      · subst c
        rw [pz_R, if_pos rfl, pz_updN e]
      · rw [pz_R, if_neg c]
  · exact pz_updN (by omega)
  · exact pz_updN (by omega)
  · exact pz_updN (by omega)
  · exact pz_updN (by omega)
def Adv (n : Nat) (C M D N : CS) : Prop := FrC C D ∧ FrM M N ∧ RN n D N ∧ ∀ k, k < 7 → D.2.1 k = C.2.1 k
theorem Adv.tr {n : Nat} {A B C P Q R : CS} (h : Adv n A P B Q) (h2 : Adv n B Q C R) : Adv n A P C R := ⟨h.1.tr h2.1, h.2.1.tr h2.2.1, h2.2.2.1, fun k hk => (h2.2.2.2 k hk).trans (h.2.2.2 k hk)⟩
theorem pz_lpr {S R : Type} {step : S → S ⊕ R} {d : R} {n : Nat} {s : S} {r : R} (h : step s = .inr r) : lp step d (n + 1) s = r := by
  show (match step s with | .inl s' => lp step d n s' | .inr r => r) = r
  rw [h]
theorem pz_lpl {S R : Type} {step : S → S ⊕ R} {d : R} {n : Nat} {s s' : S} (h : step s = .inl s') : lp step d (n + 1) s = lp step d n s' := by
  show (match step s with | .inl s' => lp step d n s' | .inr r => r) = _
  rw [h]
theorem pz_lsr {S R : Type} {step : S → S ⊕ R} {safe : S → Prop} {n : Nat} {s : S} {r : R} (h : step s = .inr r) (h2 : safe s) : lpS step safe (n + 1) s := ⟨h2, fun s' e => by rw [h] at e; cases e⟩
theorem pz_lsl {S R : Type} {step : S → S ⊕ R} {safe : S → Prop} {n : Nat} {s s' : S} (h : step s = .inl s') (h2 : safe s) (h3 : lpS step safe n s') : lpS step safe (n + 1) s := ⟨h2, fun s2 e => by rw [h] at e; cases e; exact h3⟩
theorem RN.advl {n : Nat} (dC : Int32 × CS) (dM : Int32 × CS) : ∀ (t : Nat) (C M : CS) (i t' : Nat) (c : Int32), RN n C M → cN (opB (M.1 0)) n ≤ t → i + t ≤ 100 → t ≤ t' →
    lpS (fun (z : Int32 × Int32 × CS) => st_X7_advances_16 z.1 z.2.1 z.2.2) (fun (z : Int32 × Int32 × CS) => Sst_X7_advances_16 z.1 z.2.1 z.2.2) (t' + 1) (F_X7_nextOf M, c, M) ∧
    (lp (fun (z : Int32 × Int32 × CS) => st_X1_moveMark_9 z.1 z.2.1 z.2.2) dC (100 - i + 1) (nI i, c, C)).1 = (lp (fun (z : Int32 × Int32 × CS) => st_X7_advances_16 z.1 z.2.1 z.2.2) dM (t' + 1) (F_X7_nextOf M, c, M)).1 ∧
    Adv n C M (lp (fun (z : Int32 × Int32 × CS) => st_X1_moveMark_9 z.1 z.2.1 z.2.2) dC (100 - i + 1) (nI i, c, C)).2 (lp (fun (z : Int32 × Int32 × CS) => st_X7_advances_16 z.1 z.2.1 z.2.2) dM (t' + 1) (F_X7_nextOf M, c, M)).2 := by
  intro t
  induction t with
  | zero =>
    intro C M i t' c h ht hi htt
    have hn := h.n
    have h0 := pz_cN0.mp (Nat.le_zero.mp ht)
    have en : F_X7_nextOf M = -1 := by
      rw [h.nxt.2]
      cases e : bsN (fun b => opB (M.1 0) b && !decide (M.1 0 1418 ≤ nI (bdN M b))) (laN (M.1 0)) n with
      | none => rfl
      | some b =>
        obtain ⟨a1, a2, _⟩ := pz_bs_some e
        rw [h0 b a1] at a2
        cases a2
    have s1 : (fun (z : Int32 × Int32 × CS) => st_X7_advances_16 z.1 z.2.1 z.2.2) (F_X7_nextOf M, c, M) = .inr (c, M) := by
      show st_X7_advances_16 (F_X7_nextOf M) c M = .inr (c, M)
      unfold st_X7_advances_16
      rw [en]
      exact if_pos (by decide)
    have s2 : (fun (z : Int32 × Int32 × CS) => Sst_X7_advances_16 z.1 z.2.1 z.2.2) (F_X7_nextOf M, c, M) := by
      show Sst_X7_advances_16 (F_X7_nextOf M) c M
      unfold Sst_X7_advances_16
      rw [en, if_pos (by decide)]
      exact trivial
    have s3 : (fun (z : Int32 × Int32 × CS) => st_X1_moveMark_9 z.1 z.2.1 z.2.2) (nI i, c, C) = .inr (c, C) := by
      show st_X1_moveMark_9 (nI i) c C = .inr (c, C)
      unfold st_X1_moveMark_9
      rw [h.pick, en]
      split
      · rfl
      · rfl
    rw [pz_lpr (step := fun (z : Int32 × Int32 × CS) => st_X7_advances_16 z.1 z.2.1 z.2.2) s1, pz_lpr (step := fun (z : Int32 × Int32 × CS) => st_X1_moveMark_9 z.1 z.2.1 z.2.2) s3]
    exact ⟨pz_lsr (step := fun (z : Int32 × Int32 × CS) => st_X7_advances_16 z.1 z.2.1 z.2.2) s1 s2, rfl, FrC.rf C, FrM.rf M, h, fun _ _ => rfl⟩
  | succ t ih =>
    intro C M i t' c h ht hi htt
    have hn := h.n
    cases e : bsN (fun b => opB (M.1 0) b && !decide (M.1 0 1418 ≤ nI (bdN M b))) (laN (M.1 0)) n with
    | none =>
      have en : F_X7_nextOf M = -1 := by
        rw [h.nxt.2, e]
        rfl
      have s1 : (fun (z : Int32 × Int32 × CS) => st_X7_advances_16 z.1 z.2.1 z.2.2) (F_X7_nextOf M, c, M) = .inr (c, M) := by
        show st_X7_advances_16 (F_X7_nextOf M) c M = .inr (c, M)
        unfold st_X7_advances_16
        rw [en]
        exact if_pos (by decide)
      have s2 : (fun (z : Int32 × Int32 × CS) => Sst_X7_advances_16 z.1 z.2.1 z.2.2) (F_X7_nextOf M, c, M) := by
        show Sst_X7_advances_16 (F_X7_nextOf M) c M
        unfold Sst_X7_advances_16
        rw [en, if_pos (by decide)]
        exact trivial
      have s3 : (fun (z : Int32 × Int32 × CS) => st_X1_moveMark_9 z.1 z.2.1 z.2.2) (nI i, c, C) = .inr (c, C) := by
        show st_X1_moveMark_9 (nI i) c C = .inr (c, C)
        unfold st_X1_moveMark_9
        rw [h.pick, en]
        split
        · rfl
        · rfl
      rw [pz_lpr (step := fun (z : Int32 × Int32 × CS) => st_X7_advances_16 z.1 z.2.1 z.2.2) s1, pz_lpr (step := fun (z : Int32 × Int32 × CS) => st_X1_moveMark_9 z.1 z.2.1 z.2.2) s3]
      exact ⟨pz_lsr (step := fun (z : Int32 × Int32 × CS) => st_X7_advances_16 z.1 z.2.1 z.2.2) s1 s2, rfl, FrC.rf C, FrM.rf M, h, fun _ _ => rfl⟩
    | some b =>
      obtain ⟨hb, a2, _⟩ := pz_bs_some e
      have ho : opB (M.1 0) b = true := (Bool.and_eq_true _ _ ▸ a2).1
      have hs := pz_opst ho
      have en : F_X7_nextOf M = nI b := by
        rw [h.nxt.2, e]
        rfl
      obtain ⟨f1, f2, f3⟩ := h.fires (kd := 1) (by omega) hb hs
      have ho2 : opB ((F_X7_fires M (nI 1) (nI b)).2.1 0) b = true := by rw [f3.op (by omega)]; exact ho
      have h2 := f3.2.2.1.close hb ho2
      have s1 : (fun (z : Int32 × Int32 × CS) => st_X7_advances_16 z.1 z.2.1 z.2.2) (F_X7_nextOf M, c, M) = .inl (F_X7_nextOf (sR (F_X7_fires M (nI 1) (nI b)).2 0 (upd ((F_X7_fires M (nI 1) (nI b)).2.1 0) (401 + 10 * b + 4) 1)), c + 1, sR (F_X7_fires M (nI 1) (nI b)).2 0 (upd ((F_X7_fires M (nI 1) (nI b)).2.1 0) (401 + 10 * b + 4) 1)) := by
        show st_X7_advances_16 (F_X7_nextOf M) c M = .inl (F_X7_nextOf (sR (F_X7_fires M (nI 1) (nI b)).2 0 (upd ((F_X7_fires M (nI 1) (nI b)).2.1 0) (401 + 10 * b + 4) 1)), c + 1, sR (F_X7_fires M (nI 1) (nI b)).2 0 (upd ((F_X7_fires M (nI 1) (nI b)).2.1 0) (401 + 10 * b + 4) 1))
        unfold st_X7_advances_16
        rw [en, if_neg (pz_nlt0 (by omega))]
        simp only [pz_bnd, pz_set4 (show b < 100 by omega)]
        rfl
      have s2 : (fun (z : Int32 × Int32 × CS) => Sst_X7_advances_16 z.1 z.2.1 z.2.2) (F_X7_nextOf M, c, M) := by
        show Sst_X7_advances_16 (F_X7_nextOf M) c M
        unfold Sst_X7_advances_16
        rw [en, if_neg (pz_nlt0 (by omega))]
        simp only [pz_bnd, pz_set4 (show b < 100 by omega)]
        exact ⟨f1, pz_setS 4 rfl (by omega) (by omega), h2.nxt.1, trivial⟩
      have s3 : (fun (z : Int32 × Int32 × CS) => st_X1_moveMark_9 z.1 z.2.1 z.2.2) (nI i, c, C) = .inl (nI (i + 1), c + 1, sR (F_X1_letFire C (nI b) (nI 1)).2 8 (upd ((F_X1_letFire C (nI b) (nI 1)).2.1 8) b 1)) := by
        show st_X1_moveMark_9 (nI i) c C = .inl (nI (i + 1), c + 1, sR (F_X1_letFire C (nI b) (nI 1)).2 8 (upd ((F_X1_letFire C (nI b) (nI 1)).2.1 8) b 1))
        unfold st_X1_moveMark_9
        rw [h.pick, en, if_neg (show ¬ (100 : Int32) ≤ nI i from pz_ge (b := 100) (by omega) (by omega)), pz_bnd, if_neg (pz_ne1 (by omega))]
        simp only [pz_bnd, pz_rPut _ _ (show b < 100 by omega) (show 100 ≤ 2000 by omega), pz_s1]
        rfl
      have hc : cN (opB ((sR (F_X7_fires M (nI 1) (nI b)).2 0 (upd ((F_X7_fires M (nI 1) (nI b)).2.1 0) (401 + 10 * b + 4) 1)).1 0)) n + 1 = cN (opB (M.1 0)) n := by
        refine pz_drop hb ho ?_ (fun j hj hne => ?_)
        · refine decide_eq_false (fun hh => ?_)
          have := hh.2
          rw [pz_R0] at this
          unfold mB at this
          rw [pz_updE] at this
          exact pz_i10 this
        · rw [← f3.op (show j < 100 by omega), pz_R0]
          unfold opB mB
          rw [pz_updN (by omega), pz_updN (by omega)]
      obtain ⟨t2, e2⟩ : ∃ t2, t' = t2 + 1 := ⟨t' - 1, by omega⟩
      subst e2
      have hx := ih _ _ (i + 1) t2 (c + 1) h2 (by omega) (by omega) (by omega)
      have e3 : 100 - i = (100 - (i + 1)) + 1 := by omega
      rw [pz_lpl (step := fun (z : Int32 × Int32 × CS) => st_X7_advances_16 z.1 z.2.1 z.2.2) s1, e3, pz_lpl (step := fun (z : Int32 × Int32 × CS) => st_X1_moveMark_9 z.1 z.2.1 z.2.2) s3]
      refine ⟨pz_lsl (step := fun (z : Int32 × Int32 × CS) => st_X7_advances_16 z.1 z.2.1 z.2.2) s1 s2 hx.1, hx.2.1, ?_⟩
      refine Adv.tr ⟨f3.1.tr (FrC.r (by omega)), f3.2.1.tr FrM.r, h2, fun k hk => f3.2.2.2.2.1 k hk⟩ hx.2.2
/-- moving the mark -/
theorem RN.mv {n : Nat} {C M : CS} (h : RN n C M) {q : Int32} (hq : rng q 0 20000) : S_X7_advances M q ∧ (F_X1_moveMark C q).1 = (F_X7_advances M q).1 ∧ FrC C (F_X1_moveMark C q).2 ∧ FrM M (F_X7_advances M q).2 ∧ RN n (F_X1_moveMark C q).2 (F_X7_advances M q).2 ∧ (F_X1_moveMark C q).2.2.1 2 = q ∧ ∀ k, k < 7 → k ≠ 2 → (F_X1_moveMark C q).2.2.1 k = C.2.1 k := by
  have hn := h.n
  obtain ⟨m1, m2, n', m3⟩ := pz_putI h (k := 2) (x := 1418) (.inr (.inr (.inl ⟨rfl, rfl, hq⟩)))
  have m3 : RN n' (sI C 2 q) (sR M 0 (upd (M.1 0) 1418 q)) := m3
  have en : n' = n := by
    have e1 : nI n' = nI n := m3.c5.symm.trans h.c5
    exact (nI_eq (by have := m3.n; omega) (by omega)).mp e1
  subst en
  have hx := RN.advl (n := n') (0, C) (0, M) 100 _ _ 0 100 0 m3 (Nat.le_trans (pz_cN_le _ _) hn) (by omega) (by omega)
  have e1 : F_X1_moveMark C q = lp (fun (z : Int32 × Int32 × CS) => st_X1_moveMark_9 z.1 z.2.1 z.2.2) (0, C) (100 - 0 + 1) (nI 0, 0, sI C 2 q) := rfl
  have e2 : F_X7_advances M q = lp (fun (z : Int32 × Int32 × CS) => st_X7_advances_16 z.1 z.2.1 z.2.2) (0, M) (100 + 1) (F_X7_nextOf (sR M 0 (upd (M.1 0) 1418 q)), 0, sR M 0 (upd (M.1 0) 1418 q)) := rfl
  rw [e1, e2]
  obtain ⟨x1, x2, x3, x4, x5, x6⟩ := hx
  refine ⟨⟨m3.nxt.1, x1⟩, x2, m1.tr x3, m2.tr x4, x5, ?_, fun k hk hk2 => ?_⟩
  · rw [x6 2 (by omega)]
    rfl
  · rw [x6 k hk]
    exact if_neg hk2
theorem sim_advance {C M : CS} (hR : Rel C M) (q1 : Int32) : S_X7_advance M q1 ∧ SimI ["java/lang/IllegalArgumentException"] (F_X6_advance C q1).1 (F_X7_advance M q1).1 ((F_X7_advance M q1).2.2.1 0) ∧ Rel (F_X6_advance C q1).2 (F_X7_advance M q1).2 := by
  obtain ⟨n, h⟩ := hR.rn
  have hn := h.n
  unfold S_X7_advance F_X6_advance F_X7_advance
  rw [pz_needWithin, h.mark.1]
  obtain ⟨m, _, hm, em⟩ := h.mark.2
  by_cases hv : F_X7_in q1 (M.1 0 1418) 20000 = 0
  · simp only [hv, pz_bnd, if_true, pz_wl]
    exact ⟨trivial, simI_l rfl pz_i10, rel_thr hR 1⟩
  · simp only [hv, pz_bnd, if_false, pz_wr]
    have hr : rng q1 0 20000 := by
      rw [em] at hv
      obtain ⟨k, k1, k2, k3⟩ := pz_inN (hi := 20000) (by omega) (by omega) hv
      exact ⟨k, by omega, k2, k3⟩
    obtain ⟨x1, x2, x3, x4, x5, x6, x7⟩ := h.mv hr
    exact ⟨⟨x1, trivial⟩, simI_r x2, rel_thr (rel_fr hR ⟨x3, x4, n, x5⟩) 0⟩
