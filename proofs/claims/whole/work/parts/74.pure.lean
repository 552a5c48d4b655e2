/-! pure: firings -/
theorem pz_R0 (M : CS) (f : Nat → Int32) : (sR M 0 f).1 0 = f := rfl
theorem pz_RR (C : CS) (k : Nat) (f g : Nat → Int32) : sR (sR C k f) k g = sR C k g := by
  have h : (fun j => if j = k then g else (fun j => if j = k then f else C.1 j) j) = fun j => if j = k then g else C.1 j := by
    funext j
    by_cases q : j = k
    · rw [if_pos q, if_pos q]
    · rw [if_neg q, if_neg q]
      exact if_neg q
  unfold sR
  rw [h]
theorem RN.bset {n b : Nat} {C M D N : CS} (h : RN n C M) (hb : b < n) (hs : stB (M.1 0) b = true) (hC : ∀ k, k < 9 ∨ (14 ≤ k ∧ k < 21) → D.1 k = C.1 k) (hCb : ∀ k, 9 ≤ k → k < 14 → ∀ j, j ≠ b → D.1 k j = C.1 k j) (hI : ∀ k, k < 9 → D.2.1 k = C.2.1 k) (hS : D.2.2 0 = C.2.2 0) (hM : ∀ x, ¬ (401 + 10 * b + 5 ≤ x ∧ x < 401 + 10 * b + 10) → N.1 0 x = M.1 0 x) (hB : N.2.2 0 = M.2.2 0)
    (h9 : D.1 9 b = mB (N.1 0) b 9) (h10 : D.1 10 b = mB (N.1 0) b 5) (hf : D.1 10 b = 0 ∨ D.1 10 b = 1) (ho : D.1 10 b = 1 → D.1 11 b = mB (N.1 0) b 6 ∧ D.1 12 b = mB (N.1 0) b 7 ∧ D.1 13 b = mB (N.1 0) b 8) : RN n D N := by
  have hn := h.n
  refine ⟨hn, h.2.1.cg (hC 0 (by omega)) (hC 1 (by omega)) (fun k hk => hI k (by omega)) (fun x hx => hM x (by omega)) (by rw [hS, hB]; exact h.bal), fun j hj => ?_, h.2.2.2.1.cg (fun k _ hk => hC k (by omega)) (fun x hx => hM x (by omega)) (fun j hj => ⟨hM _ (by omega), hM _ (by omega)⟩), h.2.2.2.2.cg (fun k _ hk => hC k (by omega)) (hI 7 (by omega)) (hI 8 (by omega)) (fun x hx _ => hM x (by omega))⟩
  by_cases e : j = b
  · subst e
    have h0 := h.bu hb
    obtain ⟨a1, a2, a3, a4, a5, a6, a7, a8, a9, a10, a11⟩ := h0
    have m0 : mB (N.1 0) j 0 = mB (M.1 0) j 0 := hM _ (by omega)
    have m1 : mB (N.1 0) j 1 = mB (M.1 0) j 1 := hM _ (by omega)
    have m2 : mB (N.1 0) j 2 = mB (M.1 0) j 2 := hM _ (by omega)
    have m3 : mB (N.1 0) j 3 = mB (M.1 0) j 3 := hM _ (by omega)
    have m4 : mB (N.1 0) j 4 = mB (M.1 0) j 4 := hM _ (by omega)
    refine ⟨by rw [hC 5 (by omega), m1]; exact a1, by rw [m1]; exact a2, by rw [hC 6 (by omega), m2]; exact a3, by rw [m2]; exact a4, by rw [hC 7 (by omega), m3]; exact a5, by rw [m3]; exact a6, h9, h10, hf, ho, ?_⟩
    rw [hC 8 (by omega), m0, m4]
    rcases a11 with a | a | a
    · exact .inl a
    · exact .inr (.inl a)
    · have := h.st1 hs
      rw [a.2.1] at this
      exact absurd this pz_i01
  · refine (h.bu hj).cg (fun k h1 h2 => ?_) (fun w hw => hM _ (by omega))
    by_cases c : k < 9
    · rw [hC k (.inl c)]
    · exact hCb k (by omega) h2 j e
/-- a step that touches the firing cells of the burst b alone -/
def Fst (n b : Nat) (C M D N : CS) : Prop := FrC C D ∧ FrM M N ∧ RN n D N ∧ (∀ k, k < 9 → D.1 k = C.1 k) ∧ (∀ k, k < 7 → D.2.1 k = C.2.1 k) ∧ (∀ x, x < 1423 → ¬ (401 + 10 * b + 5 ≤ x ∧ x < 401 + 10 * b + 10) → N.1 0 x = M.1 0 x)
theorem Fst.tr {n b : Nat} {A B C P Q R : CS} (h : Fst n b A P B Q) (h2 : Fst n b B Q C R) : Fst n b A P C R :=
  ⟨h.1.tr h2.1, h.2.1.tr h2.2.1, h2.2.2.1, fun k hk => (h2.2.2.2.1 k hk).trans (h.2.2.2.1 k hk), fun k hk => (h2.2.2.2.2.1 k hk).trans (h.2.2.2.2.1 k hk), fun x hx hn => (h2.2.2.2.2.2 x hx hn).trans (h.2.2.2.2.2 x hx hn)⟩
theorem Fst.cell {n b : Nat} {C M D N : CS} (h : Fst n b C M D N) {j w : Nat} (hj : j < 100) (hw : w < 5) : mB (N.1 0) j w = mB (M.1 0) j w := h.2.2.2.2.2 _ (by omega) (by omega)
theorem Fst.st {n b : Nat} {C M D N : CS} (h : Fst n b C M D N) {j : Nat} (hj : j < 100) : stB (N.1 0) j = stB (M.1 0) j := by
  unfold stB
  rw [h.cell hj (by omega)]
theorem Fst.op {n b : Nat} {C M D N : CS} (h : Fst n b C M D N) {j : Nat} (hj : j < 100) : opB (N.1 0) j = opB (M.1 0) j := by
  unfold opB
  rw [h.cell hj (by omega), h.cell hj (by omega)]
/-- a firing is taken back -/
theorem RN.back {n : Nat} {C M : CS} (h : RN n C M) {b : Nat} (hb : b < n) (hs : stB (M.1 0) b = true) (hf : C.1 10 b = 1) : S_X7_takesBack M (nI b) ∧ Fst n b C M (F_X1_retract C (nI b)) (F_X7_takesBack M (nI b)) ∧ (F_X1_retract C (nI b)).1 10 b = 0 := by
  have hn := h.n
  obtain ⟨o1, o2, o3⟩ := h.old hb hf
  have hl := h.log (kd := 2) (by omega) hb (mB (M.1 0) b 6) (mB (M.1 0) b 7) (mB (M.1 0) b 8)
  have eC : F_X1_retract C (nI b) = sR (F_X2_enter C (nI 2) (nI b) (mB (M.1 0) b 6) (mB (M.1 0) b 7) (mB (M.1 0) b 8) (mB (M.1 0) b 1)) 10 (upd ((F_X2_enter C (nI 2) (nI b) (mB (M.1 0) b 6) (mB (M.1 0) b 7) (mB (M.1 0) b 8) (mB (M.1 0) b 1)).1 10) b 0) := by
    unfold F_X1_retract
    simp only [pz_bnd, pz_rAt _ (show b < 100 by omega) (show 100 ≤ 2000 by omega), pz_rPut _ _ (show b < 100 by omega) (show 100 ≤ 2000 by omega), o1, o2, o3, h.key hb]
    rfl
  have eM : F_X7_takesBack M (nI b) = sR (F_X7_logs M (nI 2) (nI b) (mB (M.1 0) b 6) (mB (M.1 0) b 7) (mB (M.1 0) b 8)) 0 (upd ((F_X7_logs M (nI 2) (nI b) (mB (M.1 0) b 6) (mB (M.1 0) b 7) (mB (M.1 0) b 8)).1 0) (401 + 10 * b + 5) 0) := by
    unfold F_X7_takesBack
    simp only [pz_bnd, pz_of6 (show b < 100 by omega), pz_of7 (show b < 100 by omega), pz_of8 (show b < 100 by omega), pz_set5 (show b < 100 by omega)]
    rfl
  have eS : S_X7_takesBack M (nI b) := by
    unfold S_X7_takesBack
    simp only [pz_bnd, pz_of6 (show b < 100 by omega), pz_of7 (show b < 100 by omega), pz_of8 (show b < 100 by omega)]
    exact ⟨pz_oS6 (by omega), pz_oS7 (by omega), pz_oS8 (by omega), hl.1, pz_setS 5 rfl (by omega) (by omega), trivial⟩
  rw [eC, eM]
  have hl2 := hl.2
  generalize F_X2_enter C (nI 2) (nI b) (mB (M.1 0) b 6) (mB (M.1 0) b 7) (mB (M.1 0) b 8) (mB (M.1 0) b 1) = D at hl2 ⊢
  generalize F_X7_logs M (nI 2) (nI b) (mB (M.1 0) b 6) (mB (M.1 0) b 7) (mB (M.1 0) b 8) = N at hl2 ⊢
  obtain ⟨l1, l2, l3, l4, l5, l6⟩ := hl2
  have hs2 : stB (N.1 0) b = true := by
    unfold stB
    rw [show mB (N.1 0) b 0 = mB (M.1 0) b 0 from l6 _ (by omega)]
    exact hs
  refine ⟨eS, ⟨l1.tr (FrC.r (by omega)), l2.tr FrM.r, ?_, fun k hk => ?_, l5, fun x hx hnx => ?_⟩, ?_⟩
  · refine l3.bset hb hs2 (fun k hk => if_neg (by omega)) (fun k h1 h2 j hj => ?_) (fun k hk => rfl) rfl (fun x hx => ?_) rfl ?_ ?_ ?_ ?_
    · rw [pz_R]
      by_cases c : k = 10
      · subst c
        rw [if_pos rfl, pz_updN hj]
      · rw [if_neg c]
    · exact pz_updN (by omega)
    · rw [pz_R, if_neg (by omega), pz_R0]
      unfold mB
      rw [pz_updN (by omega)]
      exact l3.fg hb
    · rw [pz_R, if_pos rfl, pz_R0, pz_updE]
      unfold mB
      rw [pz_updE]
    · rw [pz_R, if_pos rfl, pz_updE]
      exact .inl rfl
    · rw [pz_R, if_pos rfl, pz_updE]
      exact fun hh => absurd hh pz_i01
  · rw [pz_R, if_neg (by omega)]
    exact l4 k (by omega)
  · rw [pz_R0, pz_updN (by omega)]
    exact l6 x hx
  · rw [pz_R, if_pos rfl, pz_updE]
/-- a firing proper -/
def fpM (C : CS) (q1 q2 : Int32) : CS := (bnd (F_X7_resultOf C q2) (fun r84 => (bnd (F_X7_of C q2 2) (fun r86 => (bnd (F_X7_of C q2 3) (fun r88 => (bnd (F_X7_logs C q1 q2 r84 r86 r88) (fun u91 => (bnd (F_X7_sets u91 q2 5 1) (fun u93 => (bnd (F_X7_sets u93 q2 6 r84) (fun u95 => (bnd (F_X7_of u95 q2 2) (fun r96 => (bnd (F_X7_sets u95 q2 7 r96) (fun u99 => (bnd (F_X7_of u99 q2 3) (fun r100 => (bnd (F_X7_sets u99 q2 8 r100) (fun u103 => (bnd (F_X7_of u103 q2 9) (fun r104 => (bnd (F_X7_sets u103 q2 9 (r104 + 1)) (fun u107 => u107))))))))))))))))))))))))
def fpS (C : CS) (q1 q2 : Int32) : Prop := (S_X7_resultOf C q2 ∧ (bnd (F_X7_resultOf C q2) (fun r84 => (S_X7_of C q2 2 ∧ (bnd (F_X7_of C q2 2) (fun r86 => (S_X7_of C q2 3 ∧ (bnd (F_X7_of C q2 3) (fun r88 => (S_X7_logs C q1 q2 r84 r86 r88 ∧ (bnd (F_X7_logs C q1 q2 r84 r86 r88) (fun u91 => (S_X7_sets u91 q2 5 1 ∧ (bnd (F_X7_sets u91 q2 5 1) (fun u93 => (S_X7_sets u93 q2 6 r84 ∧ (bnd (F_X7_sets u93 q2 6 r84) (fun u95 => (S_X7_of u95 q2 2 ∧ (bnd (F_X7_of u95 q2 2) (fun r96 => (S_X7_sets u95 q2 7 r96 ∧ (bnd (F_X7_sets u95 q2 7 r96) (fun u99 => (S_X7_of u99 q2 3 ∧ (bnd (F_X7_of u99 q2 3) (fun r100 => (S_X7_sets u99 q2 8 r100 ∧ (bnd (F_X7_sets u99 q2 8 r100) (fun u103 => (S_X7_of u103 q2 9 ∧ (bnd (F_X7_of u103 q2 9) (fun r104 => (S_X7_sets u103 q2 9 (r104 + 1) ∧ True))))))))))))))))))))))))))))))))))
def fpC (C : CS) (q1 q2 : Int32) (r : Int32) : CS := (bnd (rAt 100 (C.1 6) q1) (fun r6 => (bnd (rAt 100 (C.1 7) q1) (fun r8 => (bnd (rAt 100 (C.1 5) q1) (fun r10 => (bnd (F_X2_enter C q2 q1 r r6 r8 r10) (fun u13 => (bnd (F_X0_noteFired u13 q1 r) (fun u15 => u15))))))))))
theorem RN.fp {n : Nat} {C M : CS} (h : RN n C M) {kd b : Nat} (hk : kd < 3) (hb : b < n) (hs : stB (M.1 0) b = true) : fpS M (nI kd) (nI b) ∧ Fst n b C M (fpC C (nI b) (nI kd) (F_X7_resultOf M (nI b))) (fpM M (nI kd) (nI b)) := by
  have hn := h.n
  have hb' : b < 100 := by omega
  have hl := h.log hk hb (F_X7_resultOf M (nI b)) (mB (M.1 0) b 2) (mB (M.1 0) b 3)
  have hres := (h.res hb hs).2
  unfold fpS fpC fpM
  simp only [pz_bnd, pz_rAt _ hb' (show 100 ≤ 2000 by omega), h.fi hb, h.la hb, h.key hb, pz_of2 (M := M) hb', pz_of3 (M := M) hb']
  generalize F_X7_resultOf M (nI b) = r at hl ⊢
  have hl1 := hl.1
  have hl2 := hl.2
  generalize F_X2_enter C (nI kd) (nI b) r (mB (M.1 0) b 2) (mB (M.1 0) b 3) (mB (M.1 0) b 1) = D at hl2 ⊢
  generalize F_X7_logs M (nI kd) (nI b) r (mB (M.1 0) b 2) (mB (M.1 0) b 3) = N at hl2 ⊢
  refine ⟨⟨hres, pz_oS2 hb', pz_oS3 hb', hl1, pz_setS 5 rfl hb' (by omega), pz_setS 6 rfl hb' (by omega), pz_oS2 hb', pz_setS 7 rfl hb' (by omega), pz_oS3 hb', pz_setS 8 rfl hb' (by omega), pz_oS9 hb', pz_setS 9 rfl hb' (by omega), trivial⟩, ?_⟩
  obtain ⟨l1, l2, l3, l4, l5, l6⟩ := hl2
  have hs2 : stB (N.1 0) b = true := by
    unfold stB
    rw [show mB (N.1 0) b 0 = mB (M.1 0) b 0 from l6 _ (by omega)]
    exact hs
  simp only [pz_set5 hb', pz_set6 hb', pz_set7 hb', pz_set8 hb', pz_set9 hb', pz_of2 hb', pz_of3 hb', pz_of9 hb', pz_R0, pz_RR]
  have eC : F_X0_noteFired D (nI b) r = sR (sR (sR (sR (sR D 10 (upd (D.1 10) b 1)) 11 (upd (D.1 11) b r)) 12 (upd (D.1 12) b (D.1 6 b))) 13 (upd (D.1 13) b (D.1 7 b))) 9 (upd (D.1 9) b (D.1 9 b + 1)) := by
    unfold F_X0_noteFired
    simp only [pz_bnd, pz_rAt _ hb' (show 100 ≤ 2000 by omega), pz_rPut _ _ hb' (show 100 ≤ 2000 by omega)]
    rfl
  rw [eC]
  have m2 : mB (upd (upd (N.1 0) (401 + 10 * b + 5) 1) (401 + 10 * b + 6) r) b 2 = mB (N.1 0) b 2 := by
    unfold mB
    rw [pz_updN (by omega), pz_updN (by omega)]
  rw [m2]
  have m3 : mB (upd (upd (upd (N.1 0) (401 + 10 * b + 5) 1) (401 + 10 * b + 6) r) (401 + 10 * b + 7) (mB (N.1 0) b 2)) b 3 = mB (N.1 0) b 3 := by
    unfold mB
    rw [pz_updN (by omega), pz_updN (by omega), pz_updN (by omega)]
  rw [m3]
  have m9 : mB (upd (upd (upd (upd (N.1 0) (401 + 10 * b + 5) 1) (401 + 10 * b + 6) r) (401 + 10 * b + 7) (mB (N.1 0) b 2)) (401 + 10 * b + 8) (mB (N.1 0) b 3)) b 9 = mB (N.1 0) b 9 := by
    unfold mB
    rw [pz_updN (by omega), pz_updN (by omega), pz_updN (by omega), pz_updN (by omega)]
  rw [m9]
  refine ⟨l1.tr ((FrC.r (by omega)).tr ((FrC.r (by omega)).tr ((FrC.r (by omega)).tr ((FrC.r (by omega)).tr (FrC.r (by omega)))))), l2.tr FrM.r, ?_, fun k hk => ?_, l5, fun x hx hnx => ?_⟩
  · refine l3.bset hb hs2 (fun k hk => ?_) (fun k h1 h2 j hj => ?_) (fun k hk => rfl) rfl (fun x hx => ?_) rfl ?_ ?_ ?_ (fun _ => ⟨?_, ?_, ?_⟩)
    · simp only [pz_R]
      rw [if_neg (by omega), if_neg (by omega), if_neg (by omega), if_neg (by omega), if_neg (by omega)]
    · simp only [pz_R]
      have hk5 : k = 9 ∨ k = 10 ∨ k = 11 ∨ k = 12 ∨ k = 13 := by omega
      rcases hk5 with e | e | e | e | e <;> subst e <;> simp [pz_upd, hj]
    · rw [pz_R0, pz_updN (by omega), pz_updN (by omega), pz_updN (by omega), pz_updN (by omega), pz_updN (by omega)]
    · rw [pz_R0]
      unfold mB
      rw [pz_updE]
      simp only [pz_R, if_true]
      rw [pz_updE, l3.fg hb]
    · rw [pz_R0]
      unfold mB
      rw [pz_updN (by omega), pz_updN (by omega), pz_updN (by omega), pz_updN (by omega), pz_updE]
      simp [pz_R, pz_upd]
    · right
      simp [pz_R, pz_upd]
    · rw [pz_R0]
      unfold mB
      rw [pz_updN (by omega), pz_updN (by omega), pz_updN (by omega), pz_updE]
      simp [pz_R, pz_upd]
    · rw [pz_R0]
      unfold mB
      rw [pz_updN (by omega), pz_updN (by omega), pz_updE]
      have := l3.fi hb
      simp [pz_R, pz_upd, this]
    · rw [pz_R0]
      unfold mB
      rw [pz_updN (by omega), pz_updE]
      have := l3.la hb
      simp [pz_R, pz_upd, this]
  · simp only [pz_R]
    rw [if_neg (by omega), if_neg (by omega), if_neg (by omega), if_neg (by omega), if_neg (by omega)]
    exact l4 k (by omega)
  · rw [pz_R0, pz_updN (by omega), pz_updN (by omega), pz_updN (by omega), pz_updN (by omega), pz_updN (by omega)]
    exact l6 x hx
