/-! pure: a burst's tale -/
theorem pz_dec {b : Bool} (h : b = true) : b = true := h
theorem RN.st1 {n : Nat} {C M : CS} (_h : RN n C M) {b : Nat} (hs : stB (M.1 0) b = true) : mB (M.1 0) b 0 = 1 := by
  unfold stB at hs
  rwa [decide_eq_true_eq] at hs
theorem sim_burst {C M : CS} (hR : Rel C M) (q1 : Int32) (q2 : Int32) : S_X7_burst M q1 q2 ∧ SimI ["java/lang/IndexOutOfBoundsException", "java/lang/IllegalArgumentException"] (F_X6_burst C q1 q2) (F_X7_burst M q1 q2).1 ((F_X7_burst M q1 q2).2.2.1 0) ∧ Rel C (F_X7_burst M q1 q2).2 := by
  obtain ⟨n, h⟩ := hR.rn
  have hn := h.n
  unfold S_X7_burst F_X6_burst F_X7_burst F_X6_needBurst
  rw [h.st, pz_needWithin]
  by_cases hk : F_X7_isBurst M q1 = 0
  · simp only [hk, pz_bnd, if_true, pz_xl]
    exact ⟨⟨h.bS _, trivial⟩, simI_l rfl pz_i10, rel_thr hR 1⟩
  · obtain ⟨b, hb, e, hs⟩ := h.bN hk
    subst e
    simp only [hk, pz_bnd, if_false, pz_xr]
    have w0 : F_X7_in 0 0 5 = 1 := by decide
    have w1 : F_X7_in 1 0 5 = 1 := by decide
    have w2 : F_X7_in 2 0 5 = 1 := by decide
    have w3 : F_X7_in 3 0 5 = 1 := by decide
    have w4 : F_X7_in 4 0 5 = 1 := by decide
    have w5 : F_X7_in 5 0 5 = 1 := by decide
    refine ⟨⟨h.bS _, ?_⟩, ?_⟩
    · repeat' split
      · exact ⟨pz_oS1 (by omega), trivial⟩
      · exact ⟨pz_oS2 (by omega), trivial⟩
      · exact ⟨pz_oS3 (by omega), trivial⟩
      · exact ⟨(pz_many h.m4 hn _).1, trivial⟩
      · exact ⟨(h.res hb hs).2, trivial⟩
      · exact ⟨pz_oS9 (by omega), trivial⟩
      · exact trivial
    · by_cases c0 : q2 = 0
      · subst c0
        simp only [w0, if_neg pz_i10, pz_xr, if_true]
        rw [pz_rAt _ (by omega) (by omega), h.key hb, pz_of1 (by omega)]
        exact ⟨simI_r rfl, rel_thr hR 0⟩
      by_cases c1 : q2 = 1
      · subst c1
        simp only [w1, if_neg pz_i10, pz_xr, if_true]
        rw [pz_rAt _ (by omega) (by omega), h.fi hb, pz_of2 (by omega)]
        exact ⟨simI_r rfl, rel_thr hR 0⟩
      by_cases c2 : q2 = 2
      · subst c2
        simp only [w2, if_neg pz_i10, pz_xr, if_true, if_neg pz_i20, if_neg pz_i21]
        rw [pz_rAt _ (by omega) (by omega), h.la hb, pz_of3 (by omega)]
        exact ⟨simI_r rfl, rel_thr hR 0⟩
      by_cases c3 : q2 = 3
      · subst c3
        simp only [w3, if_neg pz_i10, pz_xr, if_true, if_neg pz_i30, if_neg pz_i31, if_neg pz_i32]
        rw [h.cof, (pz_many h.m4 hn _).2]
        exact ⟨simI_r rfl, rel_thr hR 0⟩
      by_cases c4 : q2 = 4
      · subst c4
        simp only [w4, if_neg pz_i10, pz_xr, if_true, if_neg c0, if_neg c1, if_neg c2, if_neg c3]
        rw [(h.res hb hs).1]
        exact ⟨simI_r rfl, rel_thr hR 0⟩
      by_cases c5 : q2 = 5
      · subst c5
        simp only [w5, if_neg pz_i10, pz_xr, if_true, if_neg c0, if_neg c1, if_neg c2, if_neg c3, if_neg c4]
        rw [pz_rAt _ (by omega) (by omega), h.fg hb, pz_of9 (by omega)]
        exact ⟨simI_r rfl, rel_thr hR 0⟩
      · have wx : F_X7_in q2 0 5 = 0 := by
          refine Classical.byContradiction fun hh => ?_
          obtain ⟨v, _, hv, e⟩ := pz_inN (lo := 0) (hi := 5) (by omega) (by omega) hh
          have hv6 : v = 0 ∨ v = 1 ∨ v = 2 ∨ v = 3 ∨ v = 4 ∨ v = 5 := by omega
          rcases hv6 with e2 | e2 | e2 | e2 | e2 | e2 <;> subst e2
          · exact c0 e
          · exact c1 e
          · exact c2 e
          · exact c3 e
          · exact c4 e
          · exact c5 e
        simp only [wx, pz_xl, if_true, if_neg c0, if_neg c1, if_neg c2, if_neg c3, if_neg c4, if_neg c5]
        exact ⟨simI_l rfl pz_i20, rel_thr hR 2⟩
theorem RN.oth {n : Nat} {C M : CS} (h : RN n C M) {b : Nat} (hb : b < n) (hs : stB (M.1 0) b = true) (hf : C.1 10 b = 1) : F_X0_differsFromFired C (nI b) (F_X7_resultOf M (nI b)) = F_X7_isOther M (nI b) ∧ S_X7_isOther M (nI b) := by
  have hn := h.n
  obtain ⟨o1, o2, o3⟩ := h.old hb hf
  have e1 := pz_of2 (M := M) (show b < 100 by omega)
  have e2 := pz_of3 (M := M) (show b < 100 by omega)
  have e6 := pz_of6 (M := M) (show b < 100 by omega)
  have e7 := pz_of7 (M := M) (show b < 100 by omega)
  have e8 := pz_of8 (M := M) (show b < 100 by omega)
  constructor
  · unfold F_X0_differsFromFired F_X7_isOther
    simp only [pz_bnd, pz_rAt _ (show b < 100 by omega) (show 100 ≤ 2000 by omega), o1, o2, o3, h.fi hb, h.la hb, e1, e2, e6, e7, e8]
    by_cases c1 : mB (M.1 0) b 6 = F_X7_resultOf M (nI b)
    · rw [if_pos c1, if_pos c1.symm]
      by_cases c2 : mB (M.1 0) b 7 = mB (M.1 0) b 2
      · rw [if_pos c2, if_pos c2.symm]
        by_cases c3 : mB (M.1 0) b 8 = mB (M.1 0) b 3
        · rw [if_pos c3, if_pos c3.symm]
        · rw [if_neg c3, if_neg (fun e => c3 e.symm)]
      · rw [if_neg c2, if_neg (fun e => c2 e.symm)]
    · rw [if_neg c1, if_neg (fun e => c1 e.symm)]
  · unfold S_X7_isOther
    refine ⟨pz_oS6 (by omega), ?_⟩
    refine ⟨(h.res hb hs).2, ?_⟩
    show (if _ then _ else _)
    split
    · refine ⟨pz_oS7 (by omega), ?_⟩
      refine ⟨pz_oS2 (by omega), ?_⟩
      show (if _ then _ else _)
      split
      · refine ⟨pz_oS8 (by omega), ?_⟩
        exact ⟨pz_oS3 (by omega), trivial⟩
      · exact trivial
    · exact trivial
theorem sim_isDirty {C M : CS} (hR : Rel C M) (q1 : Int32) : S_X7_isDirty M q1 ∧ SimI ["java/lang/IndexOutOfBoundsException"] (F_X6_isDirty C q1) (F_X7_isDirty M q1).1 ((F_X7_isDirty M q1).2.2.1 0) ∧ Rel C (F_X7_isDirty M q1).2 := by
  obtain ⟨n, h⟩ := hR.rn
  have hn := h.n
  unfold S_X7_isDirty F_X6_isDirty F_X7_isDirty F_X6_needBurst
  rw [h.st]
  by_cases hk : F_X7_isBurst M q1 = 0
  · have e0 : ¬ (sI M 0 1).2.1 0 = 0 := pz_i10
    simp only [hk, pz_bnd, if_true, if_neg e0, pz_xl]
    exact ⟨⟨h.bS _, trivial⟩, simI_l rfl pz_i10, rel_thr hR 1⟩
  · obtain ⟨b, hb, e, hs⟩ := h.bN hk
    subst e
    have e0 : (sI M 0 0).2.1 0 = 0 := rfl
    have h0 : RN n C (sI M 0 0) := h
    simp only [hk, pz_bnd, if_false, if_pos e0, pz_xr, pz_of5 (show b < 100 by omega), h.hf hb, pz_IR]
    rcases h.fdr hb with hf | hf
    · have hf2 : mB (M.1 0) b 5 = 0 := (h.fd hb).symm.trans hf
      simp only [hf2, if_true, if_neg pz_i01]
      exact ⟨⟨h.bS _, pz_oS5 (by omega), trivial⟩, simI_r rfl, rel_thr hR 0⟩
    · have hf2 : mB (M.1 0) b 5 = 1 := (h.fd hb).symm.trans hf
      simp only [hf2, if_true, if_neg pz_i10]
      have e1 := (h0.oth hb hs hf).1
      have e2 := (h0.res hb hs).1
      rw [e2, e1]
      refine ⟨⟨h.bS _, pz_oS5 (by omega), (h0.oth hb hs hf).2, trivial⟩, ?_⟩
      by_cases c : F_X7_isOther (sI M 0 0) (nI b) = 0
      · rw [if_pos c, if_pos c]
        exact ⟨simI_r rfl, rel_thr hR 0⟩
      · rw [if_neg c, if_neg c]
        exact ⟨simI_r rfl, rel_thr hR 0⟩
/-- ranks -/
theorem pz_Ld {L : List Nat} {n i : Nat} (hp : L.Perm (List.range n)) (hi : i < n) : ∃ (h : i < L.length), L.getD i 0 = L[i] := by
  have e : L.length = n := hp.length_eq.trans List.length_range
  refine ⟨by omega, ?_⟩
  rw [List.getD_eq_getElem?_getD, List.getElem?_eq_getElem (by omega), Option.getD_some]
theorem pz_bef_irr {g : Nat → Int32} {a : Nat} : ¬ RBef g a a := by
  unfold RBef
  rintro (h | ⟨_, h⟩)
  · exact Int32.lt_irrefl h
  · omega
theorem pz_bef_as {g : Nat → Int32} {a b : Nat} (h : RBef g a b) : ¬ RBef g b a := by
  unfold RBef at h ⊢
  rw [Int32.lt_iff_toInt_lt, ← Int32.toInt_inj] at h ⊢
  omega
theorem pz_bef_i {g : Nat → Int32} {L : List Nat} {n i j : Nat} (hp : L.Perm (List.range n)) (hs : L.Pairwise (RBef g)) (hi : i < n) (hj : j < n) : RBef g (L.getD j 0) (L.getD i 0) ↔ j < i := by
  obtain ⟨h1, e1⟩ := pz_Ld hp hi
  obtain ⟨h2, e2⟩ := pz_Ld hp hj
  rw [e1, e2]
  rw [List.pairwise_iff_getElem] at hs
  constructor
  · intro h
    rcases Nat.lt_trichotomy j i with h3 | h3 | h3
    · exact h3
    · subst h3; exact absurd h pz_bef_irr
    · exact absurd h (pz_bef_as (hs i j h1 h2 h3))
  · intro h
    exact hs j i h2 h1 h
theorem pz_mem_L {L : List Nat} {n r : Nat} (hp : L.Perm (List.range n)) (hr : r < n) : ∃ i, i < n ∧ L.getD i 0 = r := by
  have e : L.length = n := hp.length_eq.trans List.length_range
  obtain ⟨i, hi, e2⟩ := List.mem_iff_getElem.mp (hp.mem_iff.mpr (List.mem_range.mpr hr))
  refine ⟨i, by omega, ?_⟩
  rw [List.getD_eq_getElem?_getD, List.getElem?_eq_getElem hi, Option.getD_some, e2]
theorem pz_cN_cut (p : Nat → Bool) {i n : Nat} (h : i ≤ n) : cN (fun j => p j && decide (j < i)) n = cN p i := by
  induction n with
  | zero => have e : i = 0 := by omega
            subst e; rfl
  | succ n ih =>
    rcases Nat.lt_or_ge i (n + 1) with h2 | h2
    · show cN (fun j => p j && decide (j < i)) n + (if (p n && decide (n < i)) = true then 1 else 0) = cN p i
      rw [ih (by omega)]
      simp [show ¬ n < i by omega]
    · have e : i = n + 1 := by omega
      subst e
      refine pz_cN_congr (fun j hj => ?_)
      simp [hj]
def rkB (g : Nat → Int32) (r : Nat) (q : Nat) : Bool := decide (mK g q 3 = mK g r 3 ∧ (mK g q 1 < mK g r 1 ∨ (mK g q 1 = mK g r 1 ∧ q < r)))
theorem RN.rnk {n : Nat} {C M : CS} (h : RN n C M) {r : Nat} (hr : r < n) : S_X7_rankOf M (nI r) ∧ F_X7_rankOf M (nI r) = nI (cN (rkB (M.1 0) r) n) := by
  have hn := h.n
  unfold S_X7_rankOf F_X7_rankOf
  rw [h.m4, pz_fu (by omega)]
  refine pz_bcnt (rkB (M.1 0) r) id n (fun i a hi => ?_) (fun a => ?_)
  · show Sst_X7_rankOf_4 (nI r) M (nI i) a ∧ st_X7_rankOf_4 (nI r) M (nI i) a = _
    unfold Sst_X7_rankOf_4 st_X7_rankOf_4 rkB
    have e3 : nI r ≤ nI i ↔ r ≤ i := nI_leI (by omega) (by omega)
    simp only [h.m4, if_neg (pz_ge hi (show n ≤ 2000 by omega)), pz_rc3 (show i ≤ 100 by omega), pz_rc3 (show r ≤ 100 by omega), pz_rc1 (show i ≤ 100 by omega), pz_rc1 (show r ≤ 100 by omega), pz_s1, e3]
    refine ⟨⟨pz_rv3 (by omega), pz_rv3 (by omega), ?_⟩, ?_⟩
    · split
      · refine ⟨pz_rv1 (by omega), pz_rv1 (by omega), ?_⟩
        split
        · exact trivial
        · exact ⟨pz_rv1 (by omega), pz_rv1 (by omega), trivial⟩
      · exact trivial
    · by_cases c1 : mK (M.1 0) i 3 = mK (M.1 0) r 3
      · by_cases c2 : mK (M.1 0) i 1 < mK (M.1 0) r 1
        · simp [c1, c2]
        · by_cases c3 : mK (M.1 0) i 1 = mK (M.1 0) r 1
          · by_cases c4 : r ≤ i
            · simp [c1, c3, c4, Nat.not_lt.mpr c4]
            · simp [c1, c3, c4, Nat.lt_of_not_le c4]
          · simp [c1, c2, c3]
      · simp [c1]
  · show Sst_X7_rankOf_4 (nI r) M (nI n) a ∧ st_X7_rankOf_4 (nI r) M (nI n) a = _
    unfold Sst_X7_rankOf_4 st_X7_rankOf_4
    rw [h.m4, if_pos (pz_leR n (by omega)), if_pos (pz_leR n (by omega))]
    exact ⟨trivial, rfl⟩
theorem pz_rank {g : Nat → Int32} {L : List Nat} {n i : Nat} (hp : L.Perm (List.range n)) (hs : L.Pairwise (RBef g)) (hi : i < n) : cN (rkB g (L.getD i 0)) n = cN (fun j => ownB g (mK g (L.getD i 0) 3) (L.getD j 0)) i := by
  rw [← pz_cN_perm hp, ← pz_cN_cut (fun j => ownB g (mK g (L.getD i 0) 3) (L.getD j 0)) (Nat.le_of_lt hi)]
  refine pz_cN_congr (fun j hj => ?_)
  have e := pz_bef_i hp hs hi hj
  unfold RBef at e
  unfold rkB ownB
  by_cases c : mK g (L.getD j 0) 3 = mK g (L.getD i 0) 3
  · simp only [c, true_and, e, decide_true, Bool.true_and]
  · simp only [c, false_and, decide_false, Bool.false_and]
theorem sim_record {C M : CS} (hR : Rel C M) (q1 : Int32) (q2 : Int32) (q3 : Int32) : S_X7_record M q1 q2 q3 ∧ SimI ["java/lang/IndexOutOfBoundsException", "java/util/NoSuchElementException"] (F_X6_record C q1 q2 q3) (F_X7_record M q1 q2 q3).1 ((F_X7_record M q1 q2 q3).2.2.1 0) ∧ Rel C (F_X7_record M q1 q2 q3).2 := by
  obtain ⟨n, h⟩ := hR.rn
  have hn := h.n
  unfold S_X7_record F_X6_record F_X7_record F_X6_needBurst
  rw [h.st]
  by_cases hk : F_X7_isBurst M q1 = 0
  · simp only [hk, pz_bnd, if_true, pz_xl]
    exact ⟨⟨h.bS _, trivial⟩, simI_l rfl pz_i10, rel_thr hR 1⟩
  · simp only [hk, pz_bnd, if_false, pz_xr]
    obtain ⟨-, -, L, h3, h4, h5⟩ := h.rec
    have e1 : F_X3_placeOf C q1 q2 = oI (fN (fun i => decide (mK (M.1 0) (L.getD i 0) 3 = q1 ∧ nI (cN (fun j => ownB (M.1 0) q1 (L.getD j 0)) i) = q2)) 0 n) := by
      unfold F_X3_placeOf
      rw [h.c5, pz_fu (by omega)]
      refine pz_ho (fun i (s : Int32 × Int32) => s = (nI i, nI (cN (fun j => ownB (M.1 0) q1 (L.getD j 0)) i)) ∧ fN (fun i => decide (mK (M.1 0) (L.getD i 0) 3 = q1 ∧ nI (cN (fun j => ownB (M.1 0) q1 (L.getD j 0)) i) = q2)) 0 n = fN (fun i => decide (mK (M.1 0) (L.getD i 0) 3 = q1 ∧ nI (cN (fun j => ownB (M.1 0) q1 (L.getD j 0)) i) = q2)) i (n - i)) (fun r => r = oI (fN (fun i => decide (mK (M.1 0) (L.getD i 0) 3 = q1 ∧ nI (cN (fun j => ownB (M.1 0) q1 (L.getD j 0)) i) = q2)) 0 n)) n (fun i s hi hs => ?_) (fun s hs => ?_) n 0 (0, 0) (by omega) ⟨rfl, rfl⟩
      · obtain ⟨hs, hf⟩ := hs
        subst hs
        show (∃ s', st_X3_placeOf_5 q1 q2 C (nI i) (nI (cN (fun j => ownB (M.1 0) q1 (L.getD j 0)) i)) = .inl s' ∧ _) ∨ (∃ r, st_X3_placeOf_5 q1 q2 C (nI i) (nI (cN (fun j => ownB (M.1 0) q1 (L.getD j 0)) i)) = .inr r ∧ _)
        unfold st_X3_placeOf_5
        rw [h.c5, if_neg (pz_ge hi (by omega)), pz_bnd, pz_rAt _ (by omega) (by omega), (h5 i hi).2.2, pz_s1, pz_s1]
        have e9 : n - i = (n - (i + 1)) + 1 := by omega
        rw [e9] at hf
        have ecn : cN (fun j => ownB (M.1 0) q1 (L.getD j 0)) (i + 1) = cN (fun j => ownB (M.1 0) q1 (L.getD j 0)) i + if ownB (M.1 0) q1 (L.getD i 0) then 1 else 0 := rfl
        rw [fN.eq_2] at hf
        by_cases c1 : mK (M.1 0) (L.getD i 0) 3 = q1
        · rw [if_pos c1]
          by_cases c2 : nI (cN (fun j => ownB (M.1 0) q1 (L.getD j 0)) i) = q2
          · rw [if_pos c2]
            rw [if_pos (decide_eq_true ⟨c1, c2⟩)] at hf
            exact .inr ⟨_, rfl, by rw [hf]; rfl⟩
          · rw [if_neg c2]
            rw [if_neg (fun hh => c2 (of_decide_eq_true hh).2)] at hf
            refine .inl ⟨_, rfl, ?_, hf⟩
            rw [ecn, show ownB (M.1 0) q1 (L.getD i 0) = true from decide_eq_true c1, if_pos rfl]
        · rw [if_neg c1]
          rw [if_neg (fun hh => c1 (of_decide_eq_true hh).1)] at hf
          refine .inl ⟨_, rfl, ?_, hf⟩
          rw [ecn, show ownB (M.1 0) q1 (L.getD i 0) = false from decide_eq_false c1, if_neg (by decide)]
          rfl
      · obtain ⟨hs, hf⟩ := hs
        subst hs
        refine ⟨-1, ?_, ?_⟩
        · show st_X3_placeOf_5 q1 q2 C (nI n) _ = _
          unfold st_X3_placeOf_5
          rw [h.c5, if_pos (pz_leR n (by omega))]
        · rw [hf, Nat.sub_self]
          rfl
    have e2 : lpS (fun (z : Int32 × CS) => st_X7_record_17 q1 q2 q3 z.1 z.2) (fun (z : Int32 × CS) => Sst_X7_record_17 q1 q2 q3 z.1 z.2) (n + 1) (0, M) ∧ lp (fun (z : Int32 × CS) => st_X7_record_17 q1 q2 q3 z.1 z.2) (0, M) (n + 1) (0, M) = (fun o : Option Nat => match o with | none => ((0 : Int32), sI M 0 2) | some r => (if q3 = 0 then mK (M.1 0) r 2 else mK (M.1 0) r 1, sI M 0 0)) (fN (fun r => decide (mK (M.1 0) r 3 = q1 ∧ nI (cN (rkB (M.1 0) r) n) = q2)) 0 n) := by
      refine pz_bfnd (fun x => (x, M)) (fun r => decide (mK (M.1 0) r 3 = q1 ∧ nI (cN (rkB (M.1 0) r) n) = q2)) (fun o : Option Nat => match o with | none => ((0 : Int32), sI M 0 2) | some r => (if q3 = 0 then mK (M.1 0) r 2 else mK (M.1 0) r 1, sI M 0 0)) n (fun i hi => ?_) ?_ 0 n (by omega)
      · show Sst_X7_record_17 q1 q2 q3 (nI i) M ∧ st_X7_record_17 q1 q2 q3 (nI i) M = _
        unfold Sst_X7_record_17 st_X7_record_17
        simp only [h.m4, if_neg (pz_ge hi (show n ≤ 2000 by omega)), pz_rc3 (show i ≤ 100 by omega), pz_rc2 (show i ≤ 100 by omega), pz_rc1 (show i ≤ 100 by omega), pz_s1, pz_bnd, (h.rnk hi).2]
        refine ⟨⟨pz_rv3 (by omega), ?_⟩, ?_⟩
        · split
          · refine ⟨(h.rnk hi).1, ?_⟩
            split
            · split
              · exact ⟨pz_rv2 (by omega), trivial⟩
              · exact ⟨pz_rv1 (by omega), trivial⟩
            · exact trivial
          · exact trivial
        · by_cases c1 : mK (M.1 0) i 3 = q1
          · by_cases c2 : nI (cN (rkB (M.1 0) i) n) = q2
            · rw [if_pos c1, if_pos c2, if_pos (decide_eq_true ⟨c1, c2⟩)]
              by_cases c3 : q3 = 0
              · rw [if_pos c3, if_pos c3]; rfl
              · rw [if_neg c3, if_neg c3]; rfl
            · rw [if_pos c1, if_neg c2, if_neg (fun hh => c2 (of_decide_eq_true hh).2)]
          · rw [if_neg c1, if_neg (fun hh => c1 (of_decide_eq_true hh).1)]
      · show Sst_X7_record_17 q1 q2 q3 (nI n) M ∧ st_X7_record_17 q1 q2 q3 (nI n) M = _
        unfold Sst_X7_record_17 st_X7_record_17
        rw [h.m4, if_pos (pz_leR n (by omega)), if_pos (pz_leR n (by omega))]
        exact ⟨trivial, rfl⟩
    rw [h.m4, pz_fu (by omega), e2.2, e1]
    refine ⟨⟨h.bS _, e2.1⟩, ?_⟩
    -- both find the same one
    have key : ∀ i, i < n → (mK (M.1 0) (L.getD i 0) 3 = q1 ∧ nI (cN (rkB (M.1 0) (L.getD i 0)) n) = q2 ↔ mK (M.1 0) (L.getD i 0) 3 = q1 ∧ nI (cN (fun j => ownB (M.1 0) q1 (L.getD j 0)) i) = q2) := fun i hi => by
      rw [pz_rank h3 h4 hi]
      constructor
      · rintro ⟨a, b⟩
        rw [a] at b
        exact ⟨a, b⟩
      · rintro ⟨a, b⟩
        rw [a]
        exact ⟨rfl, b⟩
    cases e : fN (fun i => decide (mK (M.1 0) (L.getD i 0) 3 = q1 ∧ nI (cN (fun j => ownB (M.1 0) q1 (L.getD j 0)) i) = q2)) 0 n with
    | none =>
      have e3 : fN (fun r => decide (mK (M.1 0) r 3 = q1 ∧ nI (cN (rkB (M.1 0) r) n) = q2)) 0 n = none := by
        refine pz_fN_ofn (fun m _ hm => ?_)
        obtain ⟨i, hi, ei⟩ := pz_mem_L h3 (show m < n by omega)
        have h9 := pz_fN_none e i (by omega) (by omega)
        rw [decide_eq_false_iff_not] at h9 ⊢
        rw [← ei]
        exact fun hh => h9 ((key i hi).mp hh)
      rw [pz_nf0, e3]
      exact ⟨simI_l rfl pz_i20, rel_thr hR 2⟩
    | some i =>
      obtain ⟨_, i2, i3, i4⟩ := pz_fN_some e
      have hi : i < n := by omega
      have i3 := of_decide_eq_true i3
      have e3 : fN (fun r => decide (mK (M.1 0) r 3 = q1 ∧ nI (cN (rkB (M.1 0) r) n) = q2)) 0 n = some (L.getD i 0) := by
        have hlt := pz_getD h3 hi
        refine pz_fN_of (by omega) (by omega) (decide_eq_true ((key i hi).mpr i3)) (fun m _ hm => ?_)
        rw [decide_eq_false_iff_not]
        intro hh
        obtain ⟨i', hi', ei⟩ := pz_mem_L h3 (show m < n by omega)
        rw [← ei] at hh
        have hh2 := (key i' hi').mp hh
        have l1 := pz_cN_le (fun j => ownB (M.1 0) q1 (L.getD j 0)) i
        have l2 := pz_cN_le (fun j => ownB (M.1 0) q1 (L.getD j 0)) i'
        have e7 : cN (fun j => ownB (M.1 0) q1 (L.getD j 0)) i = cN (fun j => ownB (M.1 0) q1 (L.getD j 0)) i' := (nI_eq (by omega) (by omega)).mp (i3.2.trans hh2.2.symm)
        have c1 : cN (fun j => ownB (M.1 0) q1 (L.getD j 0)) (i + 1) = cN (fun j => ownB (M.1 0) q1 (L.getD j 0)) i + if ownB (M.1 0) q1 (L.getD i 0) then 1 else 0 := rfl
        have c2 : cN (fun j => ownB (M.1 0) q1 (L.getD j 0)) (i' + 1) = cN (fun j => ownB (M.1 0) q1 (L.getD j 0)) i' + if ownB (M.1 0) q1 (L.getD i' 0) then 1 else 0 := rfl
        rw [show ownB (M.1 0) q1 (L.getD i 0) = true from decide_eq_true i3.1, if_pos rfl] at c1
        rw [show ownB (M.1 0) q1 (L.getD i' 0) = true from decide_eq_true hh2.1, if_pos rfl] at c2
        rcases Nat.lt_trichotomy i i' with h6 | h6 | h6
        · have := pz_cN_mono (fun j => ownB (M.1 0) q1 (L.getD j 0)) (show i + 1 ≤ i' by omega)
          omega
        · subst h6
          omega
        · have := pz_cN_mono (fun j => ownB (M.1 0) q1 (L.getD j 0)) (show i' + 1 ≤ i by omega)
          omega
      rw [pz_nf1 (by omega), e3]
      simp only [pz_xr]
      rw [pz_rAt _ (by omega) (by omega), pz_rAt _ (by omega) (by omega), (h5 i hi).1, (h5 i hi).2.1]
      by_cases c3 : q3 = 0
      · rw [if_pos c3]
        simp only [if_pos c3]
        exact ⟨simI_r rfl, rel_thr hR 0⟩
      · rw [if_neg c3]
        simp only [if_neg c3]
        exact ⟨simI_r rfl, rel_thr hR 0⟩
