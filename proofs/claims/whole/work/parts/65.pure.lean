/-! pure: what the bursts of a key tell; bounds -/
theorem pz_nlt {x y : Int32} : (¬ x < y) ↔ y ≤ x := Int32.not_lt
theorem RN.lbC {n : Nat} {C M : CS} (h : RN n C M) {q b : Nat} (hq : q < n) (hb : b < n) : F_X0_liesBefore C (nI q) (nI b) = if mB (M.1 0) q 2 < mB (M.1 0) b 2 ∨ (mB (M.1 0) q 2 = mB (M.1 0) b 2 ∧ q < b) then 1 else 0 := by
  have hn := h.n
  unfold F_X0_liesBefore
  rw [pz_bnd, pz_bnd, pz_rAt _ (by omega) (by omega), pz_rAt _ (by omega) (by omega), h.fi hq, h.fi hb]
  have e3 : nI b ≤ nI q ↔ b ≤ q := nI_leI (by omega) (by omega)
  simp only [e3]
  by_cases c1 : mB (M.1 0) q 2 < mB (M.1 0) b 2
  · simp [c1]
  · by_cases c2 : mB (M.1 0) q 2 = mB (M.1 0) b 2
    · by_cases c3 : b ≤ q
      · simp [c1, c2, c3, Nat.not_lt.mpr c3]
      · simp [c1, c2, c3, Nat.lt_of_not_le c3]
    · simp [c1, c2]
def plB (g : Nat → Int32) (b : Nat) (q : Nat) : Bool := decide (stB g q = true ∧ mB g q 1 = mB g b 1 ∧ (mB g q 2 < mB g b 2 ∨ (mB g q 2 = mB g b 2 ∧ q < b)))
theorem RN.cbC {n : Nat} {C M : CS} (h : RN n C M) {b : Nat} (hb : b < n) : F_X0_countBefore C (nI b) = nI (cN (plB (M.1 0) b) n) := by
  have hn := h.n
  unfold F_X0_countBefore
  rw [h.c6, pz_fu (by omega)]
  refine pz_cnt (plB (M.1 0) b) id n (fun i a hi => ?_) (fun a => ?_)
  · show st_X0_countBefore_4 (nI b) C (nI i) a = _
    unfold st_X0_countBefore_4 plB
    rw [h.c6, if_neg (pz_ge hi (by omega)), pz_bnd, pz_rAt _ (by omega) (by omega), pz_bnd, h.key hb, h.sok hi, h.lbC hi hb, pz_s1]
    by_cases c1 : stB (M.1 0) i = true ∧ mB (M.1 0) i 1 = mB (M.1 0) b 1
    · by_cases c2 : mB (M.1 0) i 2 < mB (M.1 0) b 2 ∨ (mB (M.1 0) i 2 = mB (M.1 0) b 2 ∧ i < b)
      · simp [c1, c2, pz_bnd]
      · simp [c1, c2, pz_bnd]
    · by_cases c3 : stB (M.1 0) i = true
      · have c4 : ¬ mB (M.1 0) i 1 = mB (M.1 0) b 1 := fun e => c1 ⟨c3, e⟩
        simp [c3, c4]
      · simp [c3]
  · show st_X0_countBefore_4 (nI b) C (nI n) a = _
    unfold st_X0_countBefore_4
    rw [h.c6, if_pos (pz_leR n (by omega))]
    rfl
theorem RN.plM {n : Nat} {C M : CS} (h : RN n C M) {b : Nat} (hb : b < n) : S_X7_placeOf M (nI b) ∧ F_X7_placeOf M (nI b) = nI (cN (plB (M.1 0) b) n) := by
  have hn := h.n
  unfold S_X7_placeOf F_X7_placeOf
  rw [h.m14, pz_fu (by omega)]
  refine pz_bcnt (plB (M.1 0) b) id n (fun i a hi => ?_) (fun a => ?_)
  · show Sst_X7_placeOf_4 (nI b) M (nI i) a ∧ st_X7_placeOf_4 (nI b) M (nI i) a = _
    unfold Sst_X7_placeOf_4 st_X7_placeOf_4 plB
    rw [h.m14, if_neg (pz_ge hi (by omega)), if_neg (pz_ge hi (by omega)), pz_isB h.m14 hn hi]
    simp only [pz_bnd, pz_of1 (show i < 100 by omega), pz_of1 (show b < 100 by omega), pz_of2 (show i < 100 by omega), pz_of2 (show b < 100 by omega), pz_s1]
    refine ⟨⟨h.bS _, ?_⟩, ?_⟩
    · by_cases c0 : stB (M.1 0) i = true
      · rw [if_pos c0, if_neg pz_i10]
        refine ⟨pz_oS1 (by omega), pz_oS1 (by omega), ?_⟩
        split
        · refine ⟨pz_oS2 (by omega), pz_oS2 (by omega), ?_⟩
          split
          · exact trivial
          · exact ⟨pz_oS2 (by omega), pz_oS2 (by omega), trivial⟩
        · exact trivial
      · rw [if_neg c0, if_pos rfl]
        exact trivial
    · have e3 : nI b ≤ nI i ↔ b ≤ i := nI_leI (by omega) (by omega)
      simp only [e3]
      cases c0 : stB (M.1 0) i
      · simp
      · by_cases c1 : mB (M.1 0) i 1 = mB (M.1 0) b 1
        · by_cases c2 : mB (M.1 0) i 2 < mB (M.1 0) b 2
          · simp [c1, c2, pz_i10]
          · by_cases c3 : mB (M.1 0) i 2 = mB (M.1 0) b 2
            · by_cases c4 : b ≤ i
              · simp [c1, c2, c3, c4, Nat.not_lt.mpr c4, pz_i10]
              · simp [c1, c2, c3, c4, Nat.lt_of_not_le c4, pz_i10]
            · simp [c1, c2, c3, pz_i10]
        · simp [c1, pz_i10]
  · show Sst_X7_placeOf_4 (nI b) M (nI n) a ∧ st_X7_placeOf_4 (nI b) M (nI n) a = _
    unfold Sst_X7_placeOf_4 st_X7_placeOf_4
    rw [h.m14, if_pos (pz_leR n (by omega)), if_pos (pz_leR n (by omega))]
    exact ⟨trivial, rfl⟩
/-- a search over the bursts -/
theorem pz_bfnd {S R : Type} {step : S → S ⊕ R} {safe : S → Prop} {d : R} (mk : Int32 → S) (p : Nat → Bool) (out : Option Nat → R) (n : Nat)
    (hs : ∀ i, i < n → safe (mk (nI i)) ∧ step (mk (nI i)) = if p i then .inr (out (some i)) else .inl (mk (nI (i + 1)))) (hl : safe (mk (nI n)) ∧ step (mk (nI n)) = .inr (out none)) (i k : Nat) (e : i + k = n) : lpS step safe (k + 1) (mk (nI i)) ∧ lp step d (k + 1) (mk (nI i)) = out (fN p i k) := by
  refine pz_bo (fun m s => s = mk (nI m) ∧ fN p i k = fN p m (n - m)) (fun r => r = out (fN p i k)) n (fun m s hi h => ?_) (fun s h => ?_) k i (mk (nI i)) e ⟨rfl, by rw [show n - i = k by omega]⟩
  · obtain ⟨h, h2⟩ := h
    subst h
    rw [(hs m hi).2]
    have e3 : n - m = (n - (m + 1)) + 1 := by omega
    rw [e3] at h2
    have h2 : fN p i k = if p m then some m else fN p (m + 1) (n - (m + 1)) := h2
    refine ⟨(hs m hi).1, ?_⟩
    by_cases c : p m = true
    · rw [if_pos c]
      rw [if_pos c] at h2
      exact .inr ⟨_, rfl, by rw [h2]⟩
    · rw [if_neg c]
      rw [if_neg c] at h2
      exact .inl ⟨_, rfl, rfl, h2⟩
  · obtain ⟨h, h2⟩ := h
    subst h
    rw [Nat.sub_self] at h2
    have h2 : fN p i k = none := h2
    exact ⟨hl.1, _, hl.2, by rw [h2]⟩
theorem oI_n (o : Option Nat) (h : ∀ k, o = some k → k < 2000) : (oI o = -1) ↔ o = none := by
  cases o with
  | none => exact ⟨fun _ => rfl, fun _ => rfl⟩
  | some k =>
    refine ⟨fun e => ?_, fun e => by cases e⟩
    have e : nI k = -1 := e
    have h2 := h k rfl
    have e2 := congrArg Int32.toInt e
    rw [nI_toInt (by omega)] at e2
    have e2 : (k : Int) = -1 := e2
    omega
theorem pz_ne1 {k : Nat} (h : k < 2000) : ¬ nI k = -1 := fun e => by
  have := (oI_n (some k) (fun j hj => by cases hj; exact h)).mp e
  cases this
theorem pz_xr {α β : Type} (r : α) (f : α → String ⊕ β) : xbo (.inr r) f = f r := rfl
theorem pz_xl {α β : Type} (E : String) (f : α → String ⊕ β) : xbo (.inl E) f = .inl E := rfl
theorem pz_wr {α β : Type} (C : CS) (r : α) (f : α → (String ⊕ β) × CS) : xbw C (.inr r) f = f r := rfl
theorem pz_wl {α β : Type} (C : CS) (E : String) (f : α → (String ⊕ β) × CS) : xbw C (.inl E) f = (.inl E, C) := rfl
theorem pz_nf0 : F_X6_needFound (oI none) = .inl "java/util/NoSuchElementException" := if_pos rfl
theorem pz_nf1 {k : Nat} (h : k < 2000) : F_X6_needFound (oI (some k)) = .inr (nI k) := if_neg (pz_ne1 h)
theorem sim_burstAt {C M : CS} (hR : Rel C M) (q1 : Int32) (q2 : Int32) : S_X7_burstAt M q1 q2 ∧ SimI ["java/lang/IndexOutOfBoundsException", "java/util/NoSuchElementException"] (F_X6_burstAt C q1 q2) (F_X7_burstAt M q1 q2).1 ((F_X7_burstAt M q1 q2).2.2.1 0) ∧ Rel C (F_X7_burstAt M q1 q2).2 := by
  obtain ⟨n, h⟩ := hR.rn
  have hn := h.n
  unfold S_X7_burstAt F_X6_burstAt F_X7_burstAt
  rw [pz_needKey]
  by_cases hk : F_X7_isKey q1 = 0
  · simp only [hk, pz_bnd, if_true, pz_xl]
    exact ⟨trivial, simI_l rfl pz_i10, rel_thr hR 1⟩
  · simp only [hk, pz_bnd, if_false, pz_xr]
    have e1 : F_X0_atPlace C q1 q2 = oI (fN (fun i => decide (stB (M.1 0) i = true ∧ mB (M.1 0) i 1 = q1 ∧ nI (cN (plB (M.1 0) i) n) = q2)) 0 n) := by
      unfold F_X0_atPlace
      rw [h.c6, pz_fu (by omega)]
      refine pz_fnd (fun i => decide (stB (M.1 0) i = true ∧ mB (M.1 0) i 1 = q1 ∧ nI (cN (plB (M.1 0) i) n) = q2)) oI n (fun i hi => ?_) ?_ 0 n (by omega)
      · show st_X0_atPlace_2 q1 q2 C (nI i) = _
        unfold st_X0_atPlace_2
        rw [h.c6, if_neg (pz_ge hi (by omega)), pz_bnd, h.sok hi, pz_bnd, h.cbC hi, pz_s1]
        by_cases c1 : stB (M.1 0) i = true
        · by_cases c2 : mB (M.1 0) i 1 = q1
          · by_cases c3 : nI (cN (plB (M.1 0) i) n) = q2
            · simp [c1, c2, c3, pz_i10]; rfl
            · simp [c1, c2, c3, pz_i10]
          · simp [c1, c2]
        · simp [c1]
      · show st_X0_atPlace_2 q1 q2 C (nI n) = _
        unfold st_X0_atPlace_2
        rw [h.c6, if_pos (pz_leR n (by omega))]
        rfl
    have e2 : lpS (fun (z : Int32 × CS) => st_X7_burstAt_15 q1 q2 z.1 z.2) (fun (z : Int32 × CS) => Sst_X7_burstAt_15 q1 q2 z.1 z.2) (n + 1) (0, M) ∧ lp (fun (z : Int32 × CS) => st_X7_burstAt_15 q1 q2 z.1 z.2) (0, M) (n + 1) (0, M) = (fun o : Option Nat => match o with | none => ((0 : Int32), sI M 0 2) | some k => (nI k, sI M 0 0)) (fN (fun i => decide (stB (M.1 0) i = true ∧ mB (M.1 0) i 1 = q1 ∧ nI (cN (plB (M.1 0) i) n) = q2)) 0 n) := by
      refine pz_bfnd (fun x => (x, M)) (fun i => decide (stB (M.1 0) i = true ∧ mB (M.1 0) i 1 = q1 ∧ nI (cN (plB (M.1 0) i) n) = q2)) (fun o : Option Nat => match o with | none => ((0 : Int32), sI M 0 2) | some k => (nI k, sI M 0 0)) n (fun i hi => ?_) ?_ 0 n (by omega)
      · show Sst_X7_burstAt_15 q1 q2 (nI i) M ∧ st_X7_burstAt_15 q1 q2 (nI i) M = _
        unfold Sst_X7_burstAt_15 st_X7_burstAt_15
        rw [h.m14, if_neg (pz_ge hi (by omega)), if_neg (pz_ge hi (by omega)), pz_isB h.m14 hn hi]
        simp only [pz_bnd, pz_of1 (show i < 100 by omega), (h.plM hi).2, pz_s1]
        refine ⟨⟨h.bS _, ?_⟩, ?_⟩
        · by_cases c0 : stB (M.1 0) i = true
          · rw [if_pos c0, if_neg pz_i10]
            refine ⟨pz_oS1 (by omega), ?_⟩
            split
            · exact ⟨(h.plM hi).1, trivial⟩
            · exact trivial
          · rw [if_neg c0, if_pos rfl]
            exact trivial
        · by_cases c1 : stB (M.1 0) i = true
          · by_cases c2 : mB (M.1 0) i 1 = q1
            · by_cases c3 : nI (cN (plB (M.1 0) i) n) = q2
              · simp [c1, c2, c3, pz_i10]; exact ⟨rfl, rfl⟩
              · simp [c1, c2, c3, pz_i10]
            · simp [c1, c2, pz_i10]
          · simp [c1]
      · show Sst_X7_burstAt_15 q1 q2 (nI n) M ∧ st_X7_burstAt_15 q1 q2 (nI n) M = _
        unfold Sst_X7_burstAt_15 st_X7_burstAt_15
        rw [h.m14, if_pos (pz_leR n (by omega)), if_pos (pz_leR n (by omega))]
        exact ⟨trivial, rfl⟩
    rw [h.m14, pz_fu (by omega), e2.2, e1]
    refine ⟨e2.1, ?_⟩
    cases e : fN (fun i => decide (stB (M.1 0) i = true ∧ mB (M.1 0) i 1 = q1 ∧ nI (cN (plB (M.1 0) i) n) = q2)) 0 n with
    | none =>
      rw [pz_nf0]
      exact ⟨simI_l rfl pz_i20, rel_thr hR 2⟩
    | some k =>
      have hk2 := (pz_fN_some e).2.1
      rw [pz_nf1 (by omega)]
      exact ⟨simI_r rfl, rel_thr hR 0⟩
