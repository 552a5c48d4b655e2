/-! pure: copies -/
def wd (k : Nat) : Nat := if k < 2 then 8 else if k < 14 then 100 else if k < 20 then 60 else 3
theorem wd_a {k : Nat} (h : k < 2) : wd k = 8 := if_pos h
theorem wd_b {k : Nat} (h1 : 2 ≤ k) (h2 : k < 14) : wd k = 100 := (if_neg (by omega)).trans (if_pos h2)
theorem wd_c {k : Nat} (h1 : 14 ≤ k) (h2 : k < 20) : wd k = 60 := (if_neg (by omega)).trans ((if_neg (by omega)).trans (if_pos h2))
theorem wd_d : wd 20 = 3 := rfl
/-- the relation speaks of the cells within the rows alone -/
theorem RelN.cgp {n : Nat} {R R' : Nat → Nat → Int32} {I I' : Nat → Int32} {S S' : Int64} {g g' : Nat → Int32} {B B' : Int64} (h : RelN n R I S g B) (hR : ∀ k, k < 21 → ∀ i, i < wd k → R' k i = R k i) (hI : ∀ k, k < 9 → I' k = I k) (hS : S' = S) (hg : ∀ x, x < 1787 → g' x = g x) (hB : B' = B) : RelN n R' I' S' g' B' := by
  obtain ⟨hn, hs, hb, hr, hl⟩ := h
  have m0 : ∀ b w, b < n → w < 10 → mB g' b w = mB g b w := fun b w hb hw => hg _ (by omega)
  have k0 : ∀ r w, r < n → w < 4 → mK g' r w = mK g r w := fun r w hr hw => hg _ (by omega)
  refine ⟨hn, ?_, fun b hbn => ?_, ?_, ?_⟩
  · obtain ⟨a1, a2, a3, a4, a5, a6, a7, a8, a9, a10, a11, a12, a13, a14, a15⟩ := hs
    refine ⟨by rw [hI 5 (by omega), a1], by rw [hI 6 (by omega), a2], by rw [hg 400 (by omega), a3], by rw [hg 1401 (by omega), a4], fun k hk => ?_, fun k hk => ?_, ?_, ?_, ?_, ?_, ?_, ?_, ?_, ?_, by rw [hS, hB, a15]⟩
    · rw [hR 0 (by omega) k (by rw [wd_a (by omega)]; exact hk), hg (1402 + k) (by omega)]; exact a5 k hk
    · rw [hR 1 (by omega) k (by rw [wd_a (by omega)]; exact hk), hg (1410 + k) (by omega)]; exact a6 k hk
    · rw [hI 0 (by omega), hg 1419 (by omega), a7]
    · rw [hg 1419 (by omega)]; exact a8
    · rw [hI 1 (by omega), hg 1420 (by omega), a9]
    · rw [hg 1420 (by omega)]; exact a10
    · rw [hI 2 (by omega), hg 1418 (by omega), a11]
    · rw [hg 1418 (by omega)]; exact a12
    · rw [hI 3 (by omega), hg 1421 (by omega), a13]
    · rw [hI 4 (by omega), hg 1422 (by omega), a14]
  · exact (hb b hbn).cg (fun k h1 h2 => hR k (by omega) b (by rw [wd_b (by omega) h2]; omega)) (fun w hw => m0 b w hbn hw)
  · obtain ⟨h1, h2, L, h3, h4, h5⟩ := hr
    refine ⟨fun r hrn => ?_, fun b hbn h0 => ?_, L, h3, ?_, fun i hi => ?_⟩
    · obtain ⟨x1, b, x2, x3, x4, x5⟩ := h1 r hrn
      rw [k0 r 1 hrn (by omega), k0 r 3 hrn (by omega), k0 r 0 hrn (by omega)]
      exact ⟨x1, b, x2, x3, by rw [m0 b 1 x2 (by omega)]; exact x4, by rw [m0 b 0 x2 (by omega)]; exact x5⟩
    · rw [m0 b 0 hbn (by omega)] at h0
      obtain ⟨r, hrn, e⟩ := h2 b hbn h0
      exact ⟨r, hrn, by rw [k0 r 3 hrn (by omega)]; exact e⟩
    · refine List.Pairwise.imp_of_mem (fun {a b} ha hb2 hab => ?_) h4
      exact RBef.cg (k0 a 1 (pz_perm_lt h3 ha) (by omega)) (k0 b 1 (pz_perm_lt h3 hb2) (by omega)) hab
    · have e := pz_getD h3 hi
      rw [hR 2 (by omega) i (by rw [wd_b (by omega) (by omega)]; omega), hR 3 (by omega) i (by rw [wd_b (by omega) (by omega)]; omega), hR 4 (by omega) i (by rw [wd_b (by omega) (by omega)]; omega), k0 _ 1 e (by omega), k0 _ 2 e (by omega), k0 _ 3 e (by omega)]
      exact h5 i hi
  · obtain ⟨q, o, a1, a2, a3, a4, a5, a6, a7, a8⟩ := hl
    refine ⟨q, o, a1, a2, a3, by rw [hI 8 (by omega), a4], by rw [hg 1426 (by omega), a5], by rw [hI 7 (by omega), a6], fun j hj i hi => ?_, fun k hk => ?_⟩
    · rw [hR (14 + j) (by omega) _ (by rw [wd_c (by omega) (by omega)]; omega), hg _ (by omega)]
      exact a7 j hj i hi
    · rw [hR 20 (by omega) k (by rw [wd_d]; exact hk), hg _ (by omega)]
      exact a8 k hk
theorem pz_copy (f g : Nat → Int32) {n : Nat} (hn : n ≤ 2000) : rCopy n f n g = fun i => if i < n then g i else f i := by
  unfold rCopy
  rw [pz_fu hn]
  refine pz_ho (fun m s => s = (nI m, fun i => if i < m then g i else f i)) (fun r => r = fun i => if i < n then g i else f i) n (fun m s hm hs => .inl ?_) (fun s hs => ?_) n 0 (0, f) (by omega) ?_
  · subst hs
    refine ⟨(nI (m + 1), fun i => if i < m + 1 then g i else f i), ?_, rfl⟩
    show st_X4_copyFrom_2 n n g (nI m) (fun i => if i < m then g i else f i) = _
    unfold st_X4_copyFrom_2
    rw [if_neg (pz_ge hm hn), pz_bnd, pz_rAt _ hm hn, pz_bnd, nI_clamp (by omega), pz_s1]
    have e : upd (fun i => if i < m then g i else f i) m (g m) = fun i => if i < m + 1 then g i else f i := by
      funext i
      unfold upd
      by_cases c : i = m
      · rw [if_pos c, if_pos (by omega), c]
      · rw [if_neg c]
        show (if i < m then g i else f i) = _
        by_cases d : i < m
        · rw [if_pos d, if_pos (by omega)]
        · rw [if_neg d, if_neg (by omega)]
    rw [e]
  · subst hs
    refine ⟨_, ?_, rfl⟩
    show st_X4_copyFrom_2 n n g (nI n) _ = _
    unfold st_X4_copyFrom_2
    rw [if_pos (pz_leR n hn)]
  · have e : (fun i => if i < 0 then g i else f i) = f := by
      funext i
      exact if_neg (by omega)
    rw [e]
    rfl
