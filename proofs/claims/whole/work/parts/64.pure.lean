/-! pure: what the bursts tell -/
theorem RN.pc {n : Nat} {C M : CS} (h : RN n C M) (q : Int32) : F_X0_countPhase C q = nI (cN (fun i => decide (C.1 8 i = q)) n) := by
  have hn := h.n
  unfold F_X0_countPhase
  rw [h.c6, pz_fu (by omega)]
  refine pz_cnt (fun i => decide (C.1 8 i = q)) id n (fun i a hi => ?_) (fun a => ?_)
  · show st_X0_countPhase_4 q C (nI i) a = _
    unfold st_X0_countPhase_4
    rw [h.c6, if_neg (pz_ge hi (by omega)), pz_bnd, pz_rAt _ (by omega) (by omega), pz_s1]
    by_cases c : C.1 8 i = q
    · simp [c]
    · simp [c]
  · show st_X0_countPhase_4 q C (nI n) a = _
    unfold st_X0_countPhase_4
    rw [h.c6, if_pos (pz_leR n (by omega))]
    rfl
/-- a loop over the bursts, with its cells in reach -/
theorem pz_bof {A R : Type} {step : Int32 × A → (Int32 × A) ⊕ R} {safe : Int32 × A → Prop} {d : R} (F : Nat → A → A) (out : A → R) (n : Nat)
    (hs : ∀ i a, i < n → safe (nI i, a) ∧ step (nI i, a) = .inl (nI (i + 1), F i a)) (hl : ∀ a, safe (nI n, a) ∧ step (nI n, a) = .inr (out a)) (a0 : A) : lpS step safe (n + 1) (0, a0) ∧ lp step d (n + 1) (0, a0) = out (fo F n a0) := by
  refine pz_bo (fun i s => s = (nI i, fo F i a0)) (fun r => r = out (fo F n a0)) n (fun i s hi h => ?_) (fun s h => ?_) n 0 (0, a0) (by omega) rfl
  · subst h
    exact ⟨(hs i _ hi).1, .inl ⟨_, (hs i _ hi).2, rfl⟩⟩
  · subst h
    exact ⟨(hl _).1, _, (hl _).2, rfl⟩
theorem pz_focn (p : Nat → Bool) (n : Nat) : fo (fun i (a : Int32) => a + if p i then 1 else 0) n 0 = nI (cN p n) := by
  induction n with
  | zero => rfl
  | succ n ih =>
    show fo (fun i (a : Int32) => a + if p i then 1 else 0) n 0 + (if p n then 1 else 0) = nI (cN p n + if p n then 1 else 0)
    rw [ih]
    split
    · exact pz_s1 _
    · exact Int32.add_zero _
theorem pz_bcnt {R : Type} {step : Int32 × Int32 → (Int32 × Int32) ⊕ R} {safe : Int32 × Int32 → Prop} {d : R} (p : Nat → Bool) (out : Int32 → R) (n : Nat)
    (hs : ∀ i a, i < n → safe (nI i, a) ∧ step (nI i, a) = .inl (nI (i + 1), a + if p i then 1 else 0)) (hl : ∀ a, safe (nI n, a) ∧ step (nI n, a) = .inr (out a)) : lpS step safe (n + 1) (0, 0) ∧ lp step d (n + 1) (0, 0) = out (nI (cN p n)) := by
  have h := pz_bof (d := d) (fun i a => a + if p i then 1 else 0) out n hs hl 0
  rw [pz_focn] at h
  exact h
theorem pz_cN_split (p q r : Nat → Bool) (n : Nat) (h : ∀ i, i < n → (if r i then 1 else 0) = (if p i then 1 else 0) + (if q i then 1 else 0 : Nat)) : cN r n = cN p n + cN q n := by
  induction n with
  | zero => rfl
  | succ n ih =>
    have h1 := ih (fun i hi => h i (by omega))
    have h2 := h n (by omega)
    show cN r n + (if r n then 1 else 0) = cN p n + (if p n then 1 else 0) + (cN q n + (if q n then 1 else 0))
    omega
theorem RN.mbc {n : Nat} {C M : CS} (h : RN n C M) : S_X7_burstCount M ∧ F_X7_burstCount M = (nI (cN (stB (M.1 0)) n), sI M 0 0) := by
  have hn := h.n
  unfold S_X7_burstCount F_X7_burstCount
  rw [h.m14, pz_fu (by omega)]
  refine pz_bcnt (stB (M.1 0)) (fun v => (v, sI M 0 0)) n (fun i a hi => ?_) (fun a => ?_)
  · show Sst_X7_burstCount_4 M (nI i) a ∧ st_X7_burstCount_4 M (nI i) a = _
    unfold Sst_X7_burstCount_4 st_X7_burstCount_4 stB
    rw [h.m14, if_neg (pz_ge hi (by omega)), if_neg (pz_ge hi (by omega)), pz_bnd, pz_of0 (by omega), pz_s1]
    refine ⟨⟨pz_oS0 (by omega), trivial⟩, ?_⟩
    rcases h.ph hi with ⟨h1, h2, h3⟩ | ⟨h1, h2, h3⟩ | ⟨h1, h2, h3, _⟩ <;> simp [h2]
  · show Sst_X7_burstCount_4 M (nI n) a ∧ st_X7_burstCount_4 M (nI n) a = _
    unfold Sst_X7_burstCount_4 st_X7_burstCount_4
    rw [h.m14, if_pos (pz_leR n (by omega)), if_pos (pz_leR n (by omega))]
    exact ⟨trivial, rfl⟩
theorem sim_burstCount {C M : CS} (hR : Rel C M) : S_X7_burstCount M ∧ (F_X6_burstCount C) = (F_X7_burstCount M).1 ∧ Rel C (F_X7_burstCount M).2 := by
  obtain ⟨n, h⟩ := hR.rn
  refine ⟨h.mbc.1, ?_, ?_⟩
  · rw [h.mbc.2]
    show bnd _ (fun r1 => bnd _ (fun r3 => r1 + r3)) = nI (cN (stB (M.1 0)) n)
    rw [pz_bnd, pz_bnd, h.pc, h.pc, nI_add]
    rw [pz_cN_split (fun i => decide (C.1 8 i = 0)) (fun i => decide (C.1 8 i = 1)) (stB (M.1 0)) n (fun i hi => ?_)]
    unfold stB
    rcases h.ph hi with ⟨h1, h2, h3⟩ | ⟨h1, h2, h3⟩ | ⟨h1, h2, h3, _⟩ <;> simp [h1, h2]
  · rw [h.mbc.2]
    exact rel_thr hR 0
theorem RN.moc {n : Nat} {C M : CS} (h : RN n C M) : S_X7_openCount M ∧ F_X7_openCount M = (nI (cN (opB (M.1 0)) n), sI M 0 0) := by
  have hn := h.n
  unfold S_X7_openCount F_X7_openCount
  rw [h.m14, pz_fu (by omega)]
  refine pz_bcnt (opB (M.1 0)) (fun v => (v, sI M 0 0)) n (fun i a hi => ?_) (fun a => ?_)
  · show Sst_X7_openCount_4 M (nI i) a ∧ st_X7_openCount_4 M (nI i) a = _
    unfold Sst_X7_openCount_4 st_X7_openCount_4
    rw [h.m14, if_neg (pz_ge hi (by omega)), if_neg (pz_ge hi (by omega)), pz_bnd, pz_isO h.m14 hn hi, pz_s1]
    refine ⟨⟨h.oS _, trivial⟩, ?_⟩
    cases c : opB (M.1 0) i <;> simp
  · show Sst_X7_openCount_4 M (nI n) a ∧ st_X7_openCount_4 M (nI n) a = _
    unfold Sst_X7_openCount_4 st_X7_openCount_4
    rw [h.m14, if_pos (pz_leR n (by omega)), if_pos (pz_leR n (by omega))]
    exact ⟨trivial, rfl⟩
theorem sim_openCount {C M : CS} (hR : Rel C M) : S_X7_openCount M ∧ (F_X6_openCount C) = (F_X7_openCount M).1 ∧ Rel C (F_X7_openCount M).2 := by
  obtain ⟨n, h⟩ := hR.rn
  refine ⟨h.moc.1, ?_, ?_⟩
  · rw [h.moc.2]
    show bnd _ (fun r1 => r1) = nI (cN (opB (M.1 0)) n)
    rw [pz_bnd, h.pc]
    congr 1
    refine pz_cN_congr (fun i hi => ?_)
    unfold opB
    rcases h.ph hi with ⟨h1, h2, h3⟩ | ⟨h1, h2, h3⟩ | ⟨h1, h2, h3, _⟩ <;> simp [h1, h2, h3]
  · rw [h.moc.2]
    exact rel_thr hR 0
theorem RN.hf {n : Nat} {C M : CS} (h : RN n C M) {b : Nat} (hb : b < n) : F_X0_hasFired C (nI b) = if mB (M.1 0) b 5 = 1 then 1 else 0 := by
  have hn := h.n
  unfold F_X0_hasFired
  rw [pz_bnd, pz_rAt _ (by omega) (by omega), h.fd hb]
theorem sim_standing {C M : CS} (hR : Rel C M) : S_X7_standing M ∧ (F_X6_standing C) = (F_X7_standing M).1 ∧ Rel C (F_X7_standing M).2 := by
  obtain ⟨n, h⟩ := hR.rn
  have hn := h.n
  have e1 : F_X6_standing C = fo (fun i (a : Int64) => if mB (M.1 0) i 5 = 1 then a + (mB (M.1 0) i 6).toInt64 else a) n 0 := by
    show F_X0_sumOfFired C = _
    unfold F_X0_sumOfFired
    rw [h.c6, pz_fu (by omega)]
    refine pz_fo (fun i (a : Int64) => if mB (M.1 0) i 5 = 1 then a + (mB (M.1 0) i 6).toInt64 else a) id n (fun i a hi => ?_) (fun a => ?_) 0
    · show st_X0_sumOfFired_4 C (nI i) a = _
      unfold st_X0_sumOfFired_4
      rw [h.c6, if_neg (pz_ge hi (by omega)), pz_bnd, h.hf hi, pz_bnd, pz_rAt _ (by omega) (by omega), pz_s1]
      by_cases c : mB (M.1 0) i 5 = 1
      · have c2 := (h.old hi ((h.fd hi).trans c)).1
        simp [c, pz_i10, c2]
      · simp [c]
    · show st_X0_sumOfFired_4 C (nI n) a = _
      unfold st_X0_sumOfFired_4
      rw [h.c6, if_pos (pz_leR n (by omega))]
      rfl
  have e2 : S_X7_standing M ∧ F_X7_standing M = (fo (fun i (a : Int64) => if mB (M.1 0) i 5 = 1 then a + (mB (M.1 0) i 6).toInt64 else a) n 0, sI M 0 0) := by
    unfold S_X7_standing F_X7_standing
    rw [pz_bnd, pz_bnd, pz_IR, h.m14, pz_fu (by omega)]
    refine pz_bof (fun i (a : Int64) => if mB (M.1 0) i 5 = 1 then a + (mB (M.1 0) i 6).toInt64 else a) (fun v => (v, sI M 0 0)) n (fun i a hi => ?_) (fun a => ?_) 0
    · show Sst_X7_standing_9 (sI M 0 0) (nI i) a ∧ st_X7_standing_9 (sI M 0 0) (nI i) a = _
      have hI : F_X7_isBurst (sI M 0 0) (nI i) = if stB (M.1 0) i then 1 else 0 := pz_isB (M := sI M 0 0) h.m14 hn hi
      have hS : S_X7_isBurst (sI M 0 0) (nI i) := pz_isBS (M := sI M 0 0) h.m14 hn
      unfold Sst_X7_standing_9 st_X7_standing_9
      rw [pz_IR, h.m14, if_neg (pz_ge hi (by omega)), if_neg (pz_ge hi (by omega)), pz_bnd, pz_bnd, hI, pz_of5 (by omega), pz_of6 (by omega), pz_s1, pz_IR]
      have hf := h.fd hi
      unfold stB
      rcases h.ph hi with ⟨h1, h2, h3⟩ | ⟨h1, h2, h3⟩ | ⟨h1, h2, h3, h4⟩
      · refine ⟨⟨hS, ?_⟩, ?_⟩
        · simp only [h2, decide_true, if_true, if_neg pz_i10, pz_bnd]
          refine ⟨pz_oS5 (by omega), ?_⟩
          split
          · exact ⟨pz_oS6 (by omega), trivial⟩
          · exact trivial
        · by_cases c : mB (M.1 0) i 5 = 1 <;> simp [h2, c, pz_i10, pz_bnd]
      · refine ⟨⟨hS, ?_⟩, ?_⟩
        · simp only [h2, decide_true, if_true, if_neg pz_i10, pz_bnd]
          refine ⟨pz_oS5 (by omega), ?_⟩
          split
          · exact ⟨pz_oS6 (by omega), trivial⟩
          · exact trivial
        · by_cases c : mB (M.1 0) i 5 = 1 <;> simp [h2, c, pz_i10, pz_bnd]
      · rw [h4] at hf
        refine ⟨⟨hS, ?_⟩, ?_⟩
        · simp [h2]
        · simp [h2, ← hf, pz_bnd]
    · show Sst_X7_standing_9 (sI M 0 0) (nI n) a ∧ st_X7_standing_9 (sI M 0 0) (nI n) a = _
      unfold Sst_X7_standing_9 st_X7_standing_9
      rw [pz_IR, h.m14, if_pos (pz_leR n (by omega)), if_pos (pz_leR n (by omega))]
      exact ⟨trivial, rfl⟩
  refine ⟨e2.1, by rw [e1, e2.2], ?_⟩
  rw [e2.2]
  exact rel_thr hR 0
theorem sim_isClosed {C M : CS} (hR : Rel C M) (q1 : Int32) : S_X7_isClosed M q1 ∧ SimI ["java/lang/IndexOutOfBoundsException"] (F_X6_isClosed C q1) (F_X7_isClosed M q1).1 ((F_X7_isClosed M q1).2.2.1 0) ∧ Rel C (F_X7_isClosed M q1).2 := by
  obtain ⟨n, h⟩ := hR.rn
  have hn := h.n
  unfold S_X7_isClosed F_X6_isClosed F_X7_isClosed F_X6_needBurst
  rw [h.st, h.op]
  by_cases hk : F_X7_isBurst M q1 = 0
  · have e0 : ¬ (sI M 0 1).2.1 0 = 0 := pz_i10
    simp only [hk, pz_bnd, if_true, if_neg e0, xbo]
    exact ⟨⟨h.bS _, trivial⟩, simI_l rfl pz_i10, rel_thr hR 1⟩
  · obtain ⟨b, hb, e, hs⟩ := h.bN hk
    subst e
    have e0 : (sI M 0 0).2.1 0 = 0 := rfl
    simp only [hk, pz_bnd, if_false, if_pos e0, xbo, pz_of4 (show b < 100 by omega), pz_isO h.m14 hn hb]
    refine ⟨⟨h.bS _, pz_oS4 (by omega), trivial⟩, ?_⟩
    have hs2 : mB (M.1 0) b 0 = 1 := by unfold stB at hs; rw [decide_eq_true_eq] at hs; exact hs
    unfold opB
    rcases h.ph hb with ⟨h1, h2, h3⟩ | ⟨h1, h2, h3⟩ | ⟨h1, h2, h3, h4⟩
    · simp only [h2, h3, pz_IR, and_self, decide_true, if_true, if_neg pz_i10, if_neg pz_i01]
      exact ⟨simI_r rfl, rel_thr hR 0⟩
    · simp only [h2, h3, pz_IR, and_false, if_true, if_neg pz_i10, pz_i10, decide_false]
      exact ⟨simI_r rfl, rel_thr hR 0⟩
    · rw [h2] at hs2
      exact absurd hs2 pz_i01
