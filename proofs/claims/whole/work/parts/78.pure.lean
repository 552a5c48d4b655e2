/-! pure: merging on both sides -/
def mvF (f : Nat → Int32) (n l h : Nat) : Nat → Int32 := fun i => if i < n ∧ f i = nI h then nI l else f i
theorem pz_moveAll {C : CS} {n l h : Nat} (h5 : C.2.1 5 = nI n) (hn : n ≤ 100) : F_X3_moveAll C (nI h) (nI l) = sR C 4 (mvF (C.1 4) n l h) := by
  unfold F_X3_moveAll
  rw [h5, pz_fu (by omega)]
  refine pz_ho (fun i s => s = (nI i, sR C 4 (mvF (C.1 4) i l h))) (fun r => r = sR C 4 (mvF (C.1 4) n l h)) n (fun i s hi hs => .inl ?_) (fun s hs => ?_) n 0 (0, C) (by omega) ?_
  · subst hs
    refine ⟨(nI (i + 1), sR C 4 (mvF (C.1 4) (i + 1) l h)), ?_, rfl⟩
    show st_X3_moveAll_2 (nI h) (nI l) (nI i) (sR C 4 (mvF (C.1 4) i l h)) = _
    unfold st_X3_moveAll_2
    have e : mvF (C.1 4) i l h i = C.1 4 i := if_neg (by omega)
    have e2 : (sR C 4 (mvF (C.1 4) i l h)).1 4 = mvF (C.1 4) i l h := rfl
    rw [pz_RI, h5, if_neg (pz_ge hi (by omega)), pz_bnd, e2, pz_rAt _ (by omega) (by omega), e, pz_s1, pz_rPut _ _ (by omega) (by omega), pz_RR]
    by_cases c : C.1 4 i = nI h
    · have e3 : upd (mvF (C.1 4) i l h) i (nI l) = mvF (C.1 4) (i + 1) l h := by
        funext x
        unfold upd mvF
        by_cases d : x = i
        · subst d
          rw [if_pos rfl, if_pos ⟨by omega, c⟩]
        · rw [if_neg d]
          by_cases d2 : x < i ∧ C.1 4 x = nI h
          · rw [if_pos d2, if_pos ⟨by omega, d2.2⟩]
          · rw [if_neg d2, if_neg (fun hh => d2 ⟨by omega, hh.2⟩)]
      rw [if_pos c, pz_bnd, e3]
    · have e3 : mvF (C.1 4) i l h = mvF (C.1 4) (i + 1) l h := by
        funext x
        unfold mvF
        by_cases d2 : x < i ∧ C.1 4 x = nI h
        · rw [if_pos d2, if_pos ⟨by omega, d2.2⟩]
        · rw [if_neg d2, if_neg (fun hh => by
            rcases Nat.lt_or_ge x i with h1 | h1
            · exact d2 ⟨h1, hh.2⟩
            · have e : x = i := by omega
              subst e
              exact c hh.2)]
      rw [if_neg c, e3]
  · subst hs
    refine ⟨_, ?_, rfl⟩
    show st_X3_moveAll_2 (nI h) (nI l) (nI n) (sR C 4 (mvF (C.1 4) n l h)) = _
    unfold st_X3_moveAll_2
    rw [pz_RI, h5, if_pos (pz_leR n (by omega))]
  · have e : mvF (C.1 4) 0 l h = C.1 4 := by
      funext x
      exact if_neg (by omega)
    have e2 : sR C 4 (C.1 4) = C := by
      have e3 : (fun j => if j = 4 then C.1 4 else C.1 j) = C.1 := by
        funext j
        by_cases q : j = 4
        · rw [if_pos q, q]
        · rw [if_neg q]
      unfold sR
      rw [e3]
    rw [e, e2]
    rfl
def mgC (C : CS) (n l h : Nat) : CS := sI (sR (sR (sR (sR C 4 (mvF (C.1 4) n l h)) 6 (upd (C.1 6) l (if C.1 6 h < C.1 6 l then C.1 6 h else C.1 6 l))) 7 (upd (C.1 7) l (if C.1 7 l < C.1 7 h then C.1 7 h else C.1 7 l))) 8 (upd (C.1 8) h 2)) 4 (C.2.1 4 + 1)
theorem pz_mgC {C : CS} {n l h : Nat} (h5 : C.2.1 5 = nI n) (hn : n ≤ 100) (hl : l < 100) (hh : h < 100) : (bnd (F_X3_moveAll C (nI h) (nI l)) (fun u5 => (bnd (F_X0_swallow u5 (nI l) (nI h)) (fun u7 => (bnd (sI u7 4 (u7.2.1 4 + 1)) (fun u8 => u8)))))) = mgC C n l h := by
  rw [pz_moveAll h5 hn]
  unfold F_X0_swallow mgC
  simp only [pz_bnd, pz_rAt _ hl (show 100 ≤ 2000 by omega), pz_rAt _ hh (show 100 ≤ 2000 by omega), pz_rPut _ _ hl (show 100 ≤ 2000 by omega), pz_rPut _ _ hh (show 100 ≤ 2000 by omega), pz_RI]
  rfl
theorem modG_lo {g : Nat → Int32} {n l h x : Nat} (h1 : x ≠ 1422) (h2 : x ≠ 401 + 10 * h + 0) (h3 : x ≠ 401 + 10 * l + 3) (h4 : x ≠ 401 + 10 * l + 2) : modG g n l h x = owG g n l h x := by
  unfold modG
  rw [if_neg h1, if_neg h2, if_neg h3, if_neg h4]
theorem modG_hi {g : Nat → Int32} {n l h x : Nat} (h1 : x ≠ 1422) (h2 : x ≠ 401 + 10 * h + 0) (h3 : x ≠ 401 + 10 * l + 3) (h4 : x ≠ 401 + 10 * l + 2) (h5 : 4 * n ≤ x) : modG g n l h x = g x := by
  rw [modG_lo h1 h2 h3 h4, owG_hi h5]
theorem modG_k {g : Nat → Int32} {n l h r w : Nat} (hr : r < n) (hn : n ≤ 100) (hw : w < 3) : mK (modG g n l h) r w = mK g r w := by
  unfold mK
  rw [modG_lo (by omega) (by omega) (by omega) (by omega)]
  exact if_neg (by omega)
theorem modG_o {g : Nat → Int32} {n l h r : Nat} (hr : r < n) (hn : n ≤ 100) : mK (modG g n l h) r 3 = if mK g r 3 = nI h then nI l else mK g r 3 := by
  unfold mK
  rw [modG_lo (by omega) (by omega) (by omega) (by omega)]
  unfold owG
  by_cases c : g (4 * r + 3) = nI h
  · rw [if_pos ⟨by omega, by omega, c⟩, if_pos c]
  · rw [if_neg (fun hh => c hh.2.2), if_neg c]
theorem pz_min {a b : Int32} : (if b < a then b else a) = (if b ≤ a then b else a) := by
  by_cases c : b < a
  · rw [if_pos c, if_pos (Int32.le_of_lt c)]
  · rw [if_neg c]
    split
    · rename_i d
      exact Int32.le_antisymm (Int32.not_lt.mp c) d
    · rfl
theorem pz_max {a b : Int32} : (if a < b then b else a) = (if a ≤ b then b else a) := by
  by_cases c : a < b
  · rw [if_pos c, if_pos (Int32.le_of_lt c)]
  · rw [if_neg c]
    split
    · rename_i d
      exact Int32.le_antisymm d (Int32.not_lt.mp c)
    · rfl
theorem RN.mg {n : Nat} {C M : CS} (r0 : RN n C M) {l h : Nat} (hlh : l < h) (hh : h < n) (hol : opB (M.1 0) l = true) (hoh : opB (M.1 0) h = true) (hk : mB (M.1 0) l 1 = mB (M.1 0) h 1) (hf : C.1 10 h = 0) : RN n (mgC C n l h) (mG M (modG (M.1 0) n l h) (M.2.2 0)) := by
  have hn := r0.n
  have hl : l < n := by omega
  have dR : ∀ k, k ≠ 4 → k ≠ 6 → k ≠ 7 → k ≠ 8 → (mgC C n l h).1 k = C.1 k := fun k h1 h2 h3 h4 => by
    unfold mgC
    simp only [pz_IR, pz_R]
    rw [if_neg h4, if_neg h3, if_neg h2, if_neg h1]
  have d4 : (mgC C n l h).1 4 = mvF (C.1 4) n l h := by unfold mgC; simp [pz_IR, pz_R]
  have d6 : (mgC C n l h).1 6 = upd (C.1 6) l (if C.1 6 h < C.1 6 l then C.1 6 h else C.1 6 l) := by unfold mgC; simp [pz_IR, pz_R]
  have d7 : (mgC C n l h).1 7 = upd (C.1 7) l (if C.1 7 l < C.1 7 h then C.1 7 h else C.1 7 l) := by unfold mgC; simp [pz_IR, pz_R]
  have d8 : (mgC C n l h).1 8 = upd (C.1 8) h 2 := by unfold mgC; simp [pz_IR, pz_R]
  have dI : ∀ k, k ≠ 4 → (mgC C n l h).2.1 k = C.2.1 k := fun k h1 => if_neg h1
  have dI4 : (mgC C n l h).2.1 4 = C.2.1 4 + 1 := rfl
  have dL : (mgC C n l h).2.2 = C.2.2 := rfl
  have gl := r0.opb hol
  have gh := r0.opb hoh
  have g0 : ∀ j, j < n → mB (modG (M.1 0) n l h) j 0 = if j = h then 0 else mB (M.1 0) j 0 := fun j hj => by
    by_cases c : j = h
    · subst c
      rw [if_pos rfl]
      unfold mB modG
      rw [if_neg (by omega), if_pos rfl]
    · rw [if_neg c]
      exact modG_hi (by omega) (by omega) (by omega) (by omega) (by omega)
  have g1 : ∀ j w, j < n → w < 10 → w ≠ 0 → w ≠ 2 → w ≠ 3 → mB (modG (M.1 0) n l h) j w = mB (M.1 0) j w := fun j w hj h1 h2 h3 h4 => modG_hi (by omega) (by omega) (by omega) (by omega) (by omega)
  have g23 : ∀ j w, j < n → w < 4 → w ≠ 0 → j ≠ l → mB (modG (M.1 0) n l h) j w = mB (M.1 0) j w := fun j w hj h1 h2 h3 => modG_hi (by omega) (by omega) (by omega) (by omega) (by omega)
  have gl2 : mB (modG (M.1 0) n l h) l 2 = if mB (M.1 0) h 2 ≤ mB (M.1 0) l 2 then mB (M.1 0) h 2 else mB (M.1 0) l 2 := by
    show modG (M.1 0) n l h (401 + 10 * l + 2) = _
    unfold modG
    rw [if_neg (by omega), if_neg (by omega), if_neg (by omega), if_pos rfl]
  have gl3 : mB (modG (M.1 0) n l h) l 3 = if mB (M.1 0) l 3 ≤ mB (M.1 0) h 3 then mB (M.1 0) h 3 else mB (M.1 0) l 3 := by
    show modG (M.1 0) n l h (401 + 10 * l + 3) = _
    unfold modG
    rw [if_neg (by omega), if_neg (by omega), if_pos rfl]
  have gs : ∀ x, (x = 400 ∨ (1401 ≤ x ∧ x < 1422) ∨ 1423 ≤ x) → modG (M.1 0) n l h x = M.1 0 x := fun x hx => modG_hi (by omega) (by omega) (by omega) (by omega) (by omega)
  refine ⟨hn, ?_, fun j hj => ?_, ?_, ?_⟩
  · obtain ⟨a1, a2, a3, a4, a5, a6, a7, a8, a9, a10, a11, a12, a13, a14, a15⟩ := r0.2.1
    rw [mG_g, mG_B]
    refine ⟨by rw [dI 5 (by omega)]; exact a1, by rw [dI 6 (by omega)]; exact a2, by rw [gs 400 (by omega)]; exact a3, by rw [gs 1401 (by omega)]; exact a4, fun k hk => ?_, fun k hk => ?_, ?_, ?_, ?_, ?_, ?_, ?_, ?_, ?_, ?_⟩
    · rw [dR 0 (by omega) (by omega) (by omega) (by omega), gs _ (by omega)]; exact a5 k hk
    · rw [dR 1 (by omega) (by omega) (by omega) (by omega), gs _ (by omega)]; exact a6 k hk
    · rw [dI 0 (by omega), gs _ (by omega)]; exact a7
    · rw [gs _ (by omega)]; exact a8
    · rw [dI 1 (by omega), gs _ (by omega)]; exact a9
    · rw [gs _ (by omega)]; exact a10
    · rw [dI 2 (by omega), gs _ (by omega)]; exact a11
    · rw [gs _ (by omega)]; exact a12
    · rw [dI 3 (by omega), gs _ (by omega)]; exact a13
    · rw [dI4, a14]
      exact (if_pos rfl).symm
    · exact a15
  · rw [mG_g]
    obtain ⟨a1, a2, a3, a4, a5, a6, a7, a8, a9, a10, a11⟩ := r0.bu hj
    unfold RB1
    rw [dR 5 (by omega) (by omega) (by omega) (by omega), dR 9 (by omega) (by omega) (by omega) (by omega), dR 10 (by omega) (by omega) (by omega) (by omega), dR 11 (by omega) (by omega) (by omega) (by omega), dR 12 (by omega) (by omega) (by omega) (by omega), dR 13 (by omega) (by omega) (by omega) (by omega), d6, d7, d8,
      g1 j 1 hj (by omega) (by omega) (by omega) (by omega), g1 j 9 hj (by omega) (by omega) (by omega) (by omega), g1 j 5 hj (by omega) (by omega) (by omega) (by omega), g1 j 6 hj (by omega) (by omega) (by omega) (by omega), g1 j 7 hj (by omega) (by omega) (by omega) (by omega), g1 j 8 hj (by omega) (by omega) (by omega) (by omega), g1 j 4 hj (by omega) (by omega) (by omega) (by omega), g0 j hj]
    by_cases c : j = l
    · subst c
      have b1 := r0.fir hh
      have b2 := r0.lar hh
      rw [gl2, gl3, pz_updE, pz_updE, pz_updN (show j ≠ h by omega), if_neg (show ¬ j = h by omega), r0.fi hh, r0.fi hj, r0.la hh, r0.la hj, pz_min, pz_max]
      refine ⟨a1, a2, rfl, ?_, rfl, ?_, a7, a8, a9, a10, a11⟩
      · split
        · exact b1
        · exact a4
      · split
        · exact b2
        · exact a6
    · rw [pz_updN c, pz_updN c, g23 j 2 hj (by omega) (by omega) c, g23 j 3 hj (by omega) (by omega) c]
      by_cases c2 : j = h
      · subst c2
        rw [pz_updE, if_pos rfl]
        exact ⟨a1, a2, a3, a4, a5, a6, a7, a8, a9, a10, .inr (.inr ⟨rfl, rfl, gh.2, hf⟩)⟩
      · rw [pz_updN c2, if_neg c2]
        exact ⟨a1, a2, a3, a4, a5, a6, a7, a8, a9, a10, a11⟩
  · rw [mG_g]
    obtain ⟨h1, h2, L, h3, h4, h5⟩ := r0.rec
    have k13 := g1 l 1 hl (by omega) (by omega) (by omega) (by omega)
    refine ⟨fun r hr => ?_, fun b hb h0 => ?_, L, h3, ?_, fun i hi => ?_⟩
    · rw [modG_k (w := 1) hr hn (by omega), modG_k (w := 0) hr hn (by omega), modG_o hr hn]
      obtain ⟨x1, b, x2, x3, x4, x5⟩ := h1 r hr
      refine ⟨x1, ?_⟩
      by_cases c : mK (M.1 0) r 3 = nI h
      · rw [if_pos c]
        have e : b = h := (nI_eq (by omega) (by omega)).mp (x3.symm.trans c)
        subst e
        refine ⟨l, hl, rfl, ?_, ?_⟩
        · rw [k13, hk, x4]
        · rw [g0 l hl, if_neg (by omega)]
          exact gl.1
      · rw [if_neg c]
        have e : b ≠ h := fun e => c (by rw [x3, e])
        refine ⟨b, x2, x3, ?_, ?_⟩
        · rw [g1 b 1 x2 (by omega) (by omega) (by omega) (by omega)]
          exact x4
        · rw [g0 b x2, if_neg e]
          exact x5
    · rw [g0 b hb] at h0
      by_cases c : b = h
      · rw [if_pos c] at h0
        exact absurd h0 pz_i01
      · rw [if_neg c] at h0
        obtain ⟨r, hr, e⟩ := h2 b hb h0
        refine ⟨r, hr, ?_⟩
        rw [modG_o hr hn, if_neg (fun hh2 => c ((nI_eq (by omega) (by omega)).mp (e.symm.trans hh2)))]
        exact e
    · refine List.Pairwise.imp_of_mem (fun {a b} ha hb2 hab => ?_) h4
      exact RBef.cg (modG_k (pz_perm_lt h3 ha) hn (by omega)) (modG_k (pz_perm_lt h3 hb2) hn (by omega)) hab
    · have e := pz_getD h3 hi
      rw [dR 2 (by omega) (by omega) (by omega) (by omega), dR 3 (by omega) (by omega) (by omega) (by omega), d4, modG_k (w := 1) e hn (by omega), modG_k (w := 2) e hn (by omega), modG_o e hn]
      obtain ⟨x1, x2, x3⟩ := h5 i hi
      refine ⟨x1, x2, ?_⟩
      unfold mvF
      rw [x3]
      by_cases c : mK (M.1 0) (L.getD i 0) 3 = nI h
      · rw [if_pos ⟨hi, c⟩, if_pos c]
      · rw [if_neg (fun hh2 => c hh2.2), if_neg c]
  · rw [mG_g]
    exact r0.2.2.2.2.cg (fun k h1 h2 => dR k (by omega) (by omega) (by omega) (by omega)) (dI 7 (by omega)) (dI 8 (by omega)) (fun x hx _ => gs x (by omega))
/-- what a merge does, seen from outside -/
def Mgd (n l h : Nat) (C M D N : CS) : Prop := FrC C D ∧ FrM M N ∧ RN n D N ∧ (∀ k, k < 4 → D.2.1 k = C.2.1 k) ∧ (∀ j, j < n → stB (N.1 0) j = (stB (M.1 0) j && !decide (j = h))) ∧ (∀ r, r < n → mK (N.1 0) r 3 = if mK (M.1 0) r 3 = nI h then nI l else mK (M.1 0) r 3) ∧ ∀ x, 1402 ≤ x → x < 1422 → N.1 0 x = M.1 0 x
theorem RN.merge {n : Nat} {C M : CS} (r0 : RN n C M) {l h : Nat} (hlh : l < h) (hh : h < n) (hol : opB (M.1 0) l = true) (hoh : opB (M.1 0) h = true) (hk : mB (M.1 0) l 1 = mB (M.1 0) h 1) : S_X7_merges M (nI l) (nI h) ∧ Mgd n l h C M (F_X1_merge C (nI l) (nI h)) (F_X7_merges M (nI l) (nI h)) := by
  have hn := r0.n
  obtain ⟨q, o, a1, a2, a3, a4, a5, a6, a7, a8⟩ := r0.2.2.2.2
  have hm := pz_merges M (M.1 0) (M.2.2 0) (n := n) (l := l) (h := h) r0.m4 hn a5 a1 (by omega) (by omega) hlh
  rw [mG_self] at hm
  refine ⟨hm.1, ?_⟩
  rw [hm.2]
  have hst : ∀ (g : Nat → Int32), (∀ j, j < n → mB g j 0 = mB (M.1 0) j 0) → ∀ j, j < n → stB (modG g n l h) j = (stB (M.1 0) j && !decide (j = h)) := fun g hg j hj => by
    unfold stB
    by_cases c : j = h
    · subst c
      have : mB (modG g n l j) j 0 = 0 := by
        unfold mB modG
        rw [if_neg (by omega), if_pos rfl]
      simp [this]
    · rw [show mB (modG g n l h) j 0 = mB g j 0 from modG_hi (by omega) (by omega) (by omega) (by omega) (by omega), hg j hj]
      simp [c]
  have e10 := r0.hf hh
  rcases r0.fdr hh with hf | hf
  · have f2 : mB (M.1 0) h 5 = 0 := (r0.fd hh).symm.trans hf
    have eC : F_X1_merge C (nI l) (nI h) = mgC C n l h := by
      unfold F_X1_merge
      rw [e10, f2, if_neg pz_i01, pz_bnd, if_pos rfl]
      exact pz_mgC r0.c5 hn (by omega) (by omega)
    rw [eC, if_neg (by rw [f2]; exact pz_i01)]
    refine ⟨?_, mG_fr _ _ _, r0.mg hlh hh hol hoh hk hf, fun k hk4 => if_neg (by omega), hst _ (fun _ _ => rfl), fun r hr => modG_o hr hn, fun x h1 h2 => modG_hi (by omega) (by omega) (by omega) (by omega) (by omega)⟩
    exact (FrC.r (by omega)).tr ((FrC.r (by omega)).tr ((FrC.r (by omega)).tr ((FrC.r (by omega)).tr (FrC.i (by omega)))))
  · have f2 : mB (M.1 0) h 5 = 1 := (r0.fd hh).symm.trans hf
    obtain ⟨k1, k2, k3⟩ := r0.back hh (pz_opst hoh) hf
    have kb := (pz_back M (M.1 0) (M.2.2 0) (b := h) a5 a1 (by omega)).2
    rw [mG_self] at kb
    have eC : F_X1_merge C (nI l) (nI h) = mgC (F_X1_retract C (nI h)) n l h := by
      unfold F_X1_merge
      rw [e10, f2, if_pos rfl, pz_bnd, if_neg pz_i10, pz_bnd]
      exact pz_mgC k2.2.2.1.c5 hn (by omega) (by omega)
    have r1 := k2.2.2.1
    have r2 := r1.mg hlh hh (by rw [k2.op (by omega)]; exact hol) (by rw [k2.op (by omega)]; exact hoh) (by rw [k2.cell (by omega) (by omega), k2.cell (by omega) (by omega)]; exact hk) k3
    have hcell : ∀ j, j < n → mB (bkG (M.1 0) q h) j 0 = mB (M.1 0) j 0 := fun j hj => bkG_lo (by omega) (by omega)
    rw [eC, if_pos f2]
    rw [kb, mG_mG, mG_g] at r2
    refine ⟨k2.1.tr ((FrC.r (by omega)).tr ((FrC.r (by omega)).tr ((FrC.r (by omega)).tr ((FrC.r (by omega)).tr (FrC.i (by omega)))))), mG_fr _ _ _, r2, fun k hk4 => (if_neg (by omega)).trans (k2.2.2.2.2.1 k (by omega)), hst _ hcell, fun r hr => ?_, fun x h1 h2 => (modG_hi (by omega) (by omega) (by omega) (by omega) (by omega)).trans (bkG_lo (by omega) (by omega))⟩
    rw [mG_g, modG_o hr hn]
    have : mK (bkG (M.1 0) q h) r 3 = mK (M.1 0) r 3 := bkG_lo (by omega) (by omega)
    rw [this]
