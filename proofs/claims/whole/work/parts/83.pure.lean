/-! pure: the relation with one more record -/
def foC (C : CS) (n : Nat) (k t : Int32) : CS := sI (sR (sR (sR (sR (sR (sR C 5 (upd (C.1 5) n k)) 6 (upd (C.1 6) n t)) 7 (upd (C.1 7) n t)) 8 (upd (C.1 8) n 0)) 9 (upd (C.1 9) n 0)) 10 (upd (C.1 10) n 0)) 6 (nI (n + 1))
theorem pz_foC {C : CS} {n : Nat} (h6 : C.2.1 6 = nI n) (hn : n ≤ 99) (k t : Int32) : F_X0_form C k t = (nI n, foC C n k t) := by
  unfold F_X0_form foC
  simp only [pz_bnd, h6, pz_rPut _ _ (show n < 100 by omega) (show 100 ≤ 2000 by omega), pz_RI, pz_s1]
  rfl
theorem nw_k {g : Nat → Int32} {n r w : Nat} {k t v : Int32} (hr : r < n) (hn : n ≤ 99) (hw : w < 4) : mK (nwG g n k t v) r w = mK g r w := by
  unfold mK nwG
  rw [if_neg (by omega), if_neg (by omega), if_neg (by omega), if_neg (by omega), if_neg (by omega), if_neg (by omega), if_neg (by omega), if_neg (by omega), if_neg (by omega), if_neg (by omega), if_neg (by omega)]
theorem nw_b {g : Nat → Int32} {n b w : Nat} {k t v : Int32} (hb : b < n) (hn : n ≤ 99) (hw : w < 10) : mB (nwG g n k t v) b w = mB g b w := by
  unfold mB nwG
  rw [if_neg (by omega), if_neg (by omega), if_neg (by omega), if_neg (by omega), if_neg (by omega), if_neg (by omega), if_neg (by omega), if_neg (by omega), if_neg (by omega), if_neg (by omega), if_neg (by omega)]
theorem nw_s {g : Nat → Int32} {n x : Nat} {k t v : Int32} (hn : n ≤ 99) (hx : 1402 ≤ x) : nwG g n k t v x = g x := by
  unfold nwG
  rw [if_neg (by omega), if_neg (by omega), if_neg (by omega), if_neg (by omega), if_neg (by omega), if_neg (by omega), if_neg (by omega), if_neg (by omega), if_neg (by omega), if_neg (by omega), if_neg (by omega)]
theorem nw_r {g : Nat → Int32} {n w : Nat} {k t v : Int32} (hw : w < 4) : mK (nwG g n k t v) n w = if w = 0 then k else if w = 1 then t else if w = 2 then v else nI n := by
  have hw4 : w = 0 ∨ w = 1 ∨ w = 2 ∨ w = 3 := by omega
  unfold mK nwG
  rcases hw4 with e | e | e | e <;> subst e
  · rw [if_pos rfl, if_pos rfl]
  · rw [if_neg (by omega), if_pos rfl, if_neg (by omega), if_pos rfl]
  · rw [if_neg (by omega), if_neg (by omega), if_pos rfl, if_neg (by omega), if_neg (by omega), if_pos rfl]
  · rw [if_neg (by omega), if_neg (by omega), if_neg (by omega), if_pos rfl, if_neg (by omega), if_neg (by omega), if_neg (by omega)]
theorem nw_n {g : Nat → Int32} {n w : Nat} {k t v : Int32} (hn : n ≤ 99) (hw : w < 10) : mB (nwG g n k t v) n w = if w = 0 then 1 else if w = 1 then k else if w = 2 then t else if w = 3 then t else 0 := by
  unfold mB nwG
  rw [if_neg (by omega), if_neg (by omega), if_neg (by omega), if_neg (by omega), if_neg (by omega), if_neg (by omega)]
  by_cases c0 : w = 0
  · rw [if_pos (by omega), if_pos c0]
  rw [if_neg (by omega), if_neg c0]
  by_cases c1 : w = 1
  · rw [if_pos (by omega), if_pos c1]
  rw [if_neg (by omega), if_neg c1]
  by_cases c2 : w = 2
  · rw [if_pos (by omega), if_pos c2]
  rw [if_neg (by omega), if_neg c2]
  by_cases c3 : w = 3
  · rw [if_pos (by omega), if_pos c3]
  rw [if_neg (by omega), if_neg c3, if_pos (by omega)]
theorem nw_4 {g : Nat → Int32} {n : Nat} {k t v : Int32} (hn : n ≤ 99) : nwG g n k t v 400 = nI (n + 1) := by
  unfold nwG
  rw [if_neg (by omega), if_neg (by omega), if_neg (by omega), if_neg (by omega), if_pos rfl]
theorem nw_14 {g : Nat → Int32} {n : Nat} {k t v : Int32} (hn : n ≤ 99) : nwG g n k t v 1401 = nI (n + 1) := by
  unfold nwG
  rw [if_neg (by omega), if_neg (by omega), if_neg (by omega), if_neg (by omega), if_neg (by omega), if_pos rfl]
theorem RN.new {n : Nat} {C M : CS} (r0 : RN n C M) (hn : n ≤ 99) {kk : Nat} (hk8 : kk < 8) {t : Int32} (ht : rng t 0 9999) (v : Int32) : RN (n + 1) (kpC (foC C n (nI kk) t) n t v (nI n)) (mG M (nwG (M.1 0) n (nI kk) t v) (M.2.2 0)) := by
  obtain ⟨pos, epos⟩ : ∃ p, p = poN (C.1 2) t n := ⟨_, rfl⟩
  have hpos : pos ≤ n := by rw [epos]; exact poN_le _ _ _
  have dR : ∀ j, (j < 2 ∨ 11 ≤ j) → (kpC (foC C n (nI kk) t) n t v (nI n)).1 j = C.1 j := fun j hj => by
    unfold kpC foC
    simp only [pz_IR, pz_R]
    rw [if_neg (by omega), if_neg (by omega), if_neg (by omega), if_neg (by omega), if_neg (by omega), if_neg (by omega), if_neg (by omega), if_neg (by omega), if_neg (by omega)]
  have d2 : (kpC (foC C n (nI kk) t) n t v (nI n)).1 2 = insF (C.1 2) pos t n := by rw [epos]; rfl
  have d3 : (kpC (foC C n (nI kk) t) n t v (nI n)).1 3 = insF (C.1 3) pos v n := by rw [epos]; rfl
  have d4 : (kpC (foC C n (nI kk) t) n t v (nI n)).1 4 = insF (C.1 4) pos (nI n) n := by rw [epos]; rfl
  have d5 : (kpC (foC C n (nI kk) t) n t v (nI n)).1 5 = upd (C.1 5) n (nI kk) := rfl
  have d6 : (kpC (foC C n (nI kk) t) n t v (nI n)).1 6 = upd (C.1 6) n t := rfl
  have d7 : (kpC (foC C n (nI kk) t) n t v (nI n)).1 7 = upd (C.1 7) n t := rfl
  have d8 : (kpC (foC C n (nI kk) t) n t v (nI n)).1 8 = upd (C.1 8) n 0 := rfl
  have d9 : (kpC (foC C n (nI kk) t) n t v (nI n)).1 9 = upd (C.1 9) n 0 := rfl
  have d10 : (kpC (foC C n (nI kk) t) n t v (nI n)).1 10 = upd (C.1 10) n 0 := rfl
  have dI : ∀ j, j ≠ 5 → j ≠ 6 → (kpC (foC C n (nI kk) t) n t v (nI n)).2.1 j = C.2.1 j := fun j h1 h2 => by
    unfold kpC foC
    simp only [pz_I, pz_RI]
    rw [if_neg h1, if_neg h2]
  have dI5 : (kpC (foC C n (nI kk) t) n t v (nI n)).2.1 5 = nI (n + 1) := rfl
  have dI6 : (kpC (foC C n (nI kk) t) n t v (nI n)).2.1 6 = nI (n + 1) := rfl
  have dL : (kpC (foC C n (nI kk) t) n t v (nI n)).2.2 0 = C.2.2 0 := rfl
  refine ⟨by omega, ?_, fun b hb => ?_, ?_, ?_⟩
  · obtain ⟨a1, a2, a3, a4, a5, a6, a7, a8, a9, a10, a11, a12, a13, a14, a15⟩ := r0.2.1
    rw [mG_g, mG_B]
    refine ⟨dI5, dI6, nw_4 hn, nw_14 hn, fun k hk => ?_, fun k hk => ?_, ?_, ?_, ?_, ?_, ?_, ?_, ?_, ?_, a15⟩
    · rw [dR 0 (by omega), nw_s hn (by omega)]; exact a5 k hk
    · rw [dR 1 (by omega), nw_s hn (by omega)]; exact a6 k hk
    · rw [dI 0 (by omega) (by omega), nw_s hn (by omega)]; exact a7
    · rw [nw_s hn (by omega)]; exact a8
    · rw [dI 1 (by omega) (by omega), nw_s hn (by omega)]; exact a9
    · rw [nw_s hn (by omega)]; exact a10
    · rw [dI 2 (by omega) (by omega), nw_s hn (by omega)]; exact a11
    · rw [nw_s hn (by omega)]; exact a12
    · rw [dI 3 (by omega) (by omega), nw_s hn (by omega)]; exact a13
    · rw [dI 4 (by omega) (by omega), nw_s hn (by omega)]; exact a14
  · rw [mG_g]
    rcases Nat.lt_or_ge b n with h1 | h1
    · refine (r0.bu h1).cg (fun k h2 h3 => ?_) (fun w hw => nw_b h1 hn hw)
      have hk9 : k = 5 ∨ k = 6 ∨ k = 7 ∨ k = 8 ∨ k = 9 ∨ k = 10 ∨ 11 ≤ k := by omega
      rcases hk9 with e | e | e | e | e | e | e
      · subst e; rw [d5, pz_updN (by omega)]
      · subst e; rw [d6, pz_updN (by omega)]
      · subst e; rw [d7, pz_updN (by omega)]
      · subst e; rw [d8, pz_updN (by omega)]
      · subst e; rw [d9, pz_updN (by omega)]
      · subst e; rw [d10, pz_updN (by omega)]
      · rw [dR k (by omega)]
    · have e : b = n := by omega
      subst e
      have z1 := nw_n (g := M.1 0) (w := 1) (k := nI kk) (t := t) (v := v) hn (by omega)
      have z2 := nw_n (g := M.1 0) (w := 2) (k := nI kk) (t := t) (v := v) hn (by omega)
      have z3 := nw_n (g := M.1 0) (w := 3) (k := nI kk) (t := t) (v := v) hn (by omega)
      have z9 := nw_n (g := M.1 0) (w := 9) (k := nI kk) (t := t) (v := v) hn (by omega)
      have z5 := nw_n (g := M.1 0) (w := 5) (k := nI kk) (t := t) (v := v) hn (by omega)
      have z0 := nw_n (g := M.1 0) (w := 0) (k := nI kk) (t := t) (v := v) hn (by omega)
      have z4 := nw_n (g := M.1 0) (w := 4) (k := nI kk) (t := t) (v := v) hn (by omega)
      unfold RB1
      rw [d5, d6, d7, d8, d9, d10, pz_updE, pz_updE, pz_updE, pz_updE, pz_updE, pz_updE, z1, z2, z3, z9, z5, z0, z4]
      exact ⟨rfl, ⟨kk, by omega, by omega, rfl⟩, rfl, ht, rfl, ht, rfl, rfl, .inl rfl, fun hh => absurd hh pz_i01, .inl ⟨rfl, rfl, rfl⟩⟩
  · rw [mG_g]
    obtain ⟨h1, h2, L, h3, h4, h5⟩ := r0.rec
    have hL : L.length = n := h3.length_eq.trans List.length_range
    refine ⟨fun r hr => ?_, fun b hb h0 => ?_, inL L pos n, inL_perm h3, ?_, fun i hi => ?_⟩
    · rcases Nat.lt_or_ge r n with c | c
      · obtain ⟨x1, b, x2, x3, x4, x5⟩ := h1 r c
        rw [nw_k c hn (by omega), nw_k c hn (by omega), nw_k c hn (by omega)]
        refine ⟨x1, b, by omega, x3, ?_⟩
        rw [nw_b x2 hn (by omega), nw_b x2 hn (by omega)]
        exact ⟨x4, x5⟩
      · have e : r = n := by omega
        subst e
        rw [nw_r (by omega), nw_r (by omega), nw_r (by omega)]
        refine ⟨ht, r, by omega, rfl, ?_, ?_⟩
        · rw [nw_n hn (by omega)]; rfl
        · rw [nw_n hn (by omega)]; rfl
    · rcases Nat.lt_or_ge b n with c | c
      · rw [nw_b c hn (by omega)] at h0
        obtain ⟨r, hr, e⟩ := h2 b c h0
        exact ⟨r, by omega, by rw [nw_k hr hn (by omega)]; exact e⟩
      · have e : b = n := by omega
        subst e
        exact ⟨b, by omega, by rw [nw_r (by omega)]; rfl⟩
    · rw [List.pairwise_iff_getElem]
      intro i j hi hj hij
      have hlen : (inL L pos n).length = n + 1 := (inL_perm h3).length_eq.trans List.length_range
      have ei : (inL L pos n)[i] = (inL L pos n).getD i 0 := by rw [List.getD_eq_getElem?_getD, List.getElem?_eq_getElem hi, Option.getD_some]
      have ej : (inL L pos n)[j] = (inL L pos n).getD j 0 := by rw [List.getD_eq_getElem?_getD, List.getElem?_eq_getElem hj, Option.getD_some]
      rw [ei, ej, inL_getD hL hpos (by omega), inL_getD hL hpos (by omega)]
      have old : ∀ a b, a < n → b < n → a < b → RBef (nwG (M.1 0) n (nI kk) t v) (L.getD a 0) (L.getD b 0) := fun a b ha hb hab =>
        RBef.cg (nw_k (pz_getD h3 ha) hn (by omega)) (nw_k (pz_getD h3 hb) hn (by omega)) ((pz_bef_i h3 h4 hb ha).mpr hab)
      have lo : ∀ a, a < pos → RBef (nwG (M.1 0) n (nI kk) t v) (L.getD a 0) n := fun a ha => by
        have hlt := pz_getD h3 (show a < n by omega)
        have h6 : ¬ t < C.1 2 a := poN_lo (by rw [← epos]; exact ha)
        rw [(h5 a (by omega)).1] at h6
        unfold RBef
        rw [nw_k hlt hn (by omega), nw_r (w := 1) (by omega)]
        show _ < t ∨ _ = t ∧ _
        by_cases c : mK (M.1 0) (L.getD a 0) 1 < t
        · exact .inl c
        · exact .inr ⟨Int32.le_antisymm (Int32.not_lt.mp h6) (Int32.not_lt.mp c), hlt⟩
      have hi2 : ∀ a, a < n → pos ≤ a → RBef (nwG (M.1 0) n (nI kk) t v) n (L.getD a 0) := fun a ha hpa => by
        have hlt := pz_getD h3 ha
        have h6 : t < C.1 2 pos := by rw [epos]; exact poN_at (by rw [← epos]; omega)
        rw [(h5 pos (by omega)).1] at h6
        unfold RBef
        rw [nw_k hlt hn (by omega), nw_r (w := 1) (by omega)]
        show t < _ ∨ _
        left
        rcases Nat.lt_or_ge pos a with c | c
        · have h7 := (pz_bef_i h3 h4 ha (show pos < n by omega)).mpr c
          unfold RBef at h7
          rw [Int32.lt_iff_toInt_lt] at h6 h7 ⊢
          rcases h7 with h7 | ⟨h7, _⟩
          · omega
          · rw [← h7]; exact h6
        · have e : a = pos := by omega
          subst e
          exact h6
      by_cases c1 : i = pos
      · rw [if_pos c1, if_neg (by omega), if_pos (by omega)]
        exact hi2 _ (by omega) (by omega)
      · rw [if_neg c1]
        by_cases c2 : pos < i
        · rw [if_pos c2, if_neg (by omega), if_pos (by omega)]
          exact old _ _ (by omega) (by omega) (by omega)
        · rw [if_neg c2]
          by_cases c3 : j = pos
          · rw [if_pos c3]
            exact lo _ (by omega)
          · rw [if_neg c3]
            by_cases c4 : pos < j
            · rw [if_pos c4]
              exact old _ _ (by omega) (by omega) (by omega)
            · rw [if_neg c4]
              exact old _ _ (by omega) (by omega) (by omega)
    · rw [d2, d3, d4, inL_getD hL hpos (by omega)]
      unfold insF
      by_cases c1 : i = pos
      · rw [if_pos c1, if_pos c1, if_pos c1, if_pos c1, nw_r (by omega), nw_r (by omega), nw_r (by omega)]
        exact ⟨rfl, rfl, rfl⟩
      · rw [if_neg c1, if_neg c1, if_neg c1, if_neg c1]
        by_cases c2 : pos < i
        · have e7 : pos < i ∧ i ≤ n := ⟨c2, by omega⟩
          simp only [if_pos e7, if_pos c2]
          have hlt := pz_getD h3 (show i - 1 < n by omega)
          rw [nw_k hlt hn (by omega), nw_k hlt hn (by omega), nw_k hlt hn (by omega)]
          exact h5 (i - 1) (by omega)
        · have e7 : ¬ (pos < i ∧ i ≤ n) := fun hh => c2 hh.1
          simp only [if_neg e7, if_neg c2]
          have hlt := pz_getD h3 (show i < n by omega)
          rw [nw_k hlt hn (by omega), nw_k hlt hn (by omega), nw_k hlt hn (by omega)]
          exact h5 i (by omega)
  · rw [mG_g]
    exact r0.2.2.2.2.cg (fun k h1 h2 => dR k (by omega)) (dI 7 (by omega) (by omega)) (dI 8 (by omega) (by omega)) (fun x hx _ => nw_s hn (by omega))
