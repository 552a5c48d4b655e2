/-! pure: a new burst with its record -/
def nwG (g : Nat → Int32) (n : Nat) (k t v : Int32) : Nat → Int32 := fun x => if x = 4 * n + 0 then k else if x = 4 * n + 1 then t else if x = 4 * n + 2 then v else if x = 4 * n + 3 then nI n else if x = 400 then nI (n + 1) else if x = 1401 then nI (n + 1) else if x = 401 + 10 * n + 0 then 1 else if x = 401 + 10 * n + 1 then k else if x = 401 + 10 * n + 2 then t else if x = 401 + 10 * n + 3 then t else if 401 + 10 * n ≤ x ∧ x < 401 + 10 * n + 10 then 0 else g x
def nwR (g : Nat → Int32) (n : Nat) (k t v : Int32) : Nat → Int32 := upd (upd (upd (upd (upd (upd g (4 * n + 0) k) (4 * n + 1) t) (4 * n + 2) v) (4 * n + 3) (nI n)) 400 (nI (n + 1))) 1401 (nI (n + 1))
def zeG (g : Nat → Int32) (n i : Nat) : Nat → Int32 := fun x => if 401 + 10 * n ≤ x ∧ x < 401 + 10 * n + i then 0 else g x
theorem zeG_s (g : Nat → Int32) {n i : Nat} : upd (zeG g n i) (401 + 10 * n + i) 0 = zeG g n (i + 1) := by
  funext x
  unfold upd zeG
  by_cases c : x = 401 + 10 * n + i
  · rw [if_pos c, if_pos (by omega)]
  · rw [if_neg c]
    by_cases d : 401 + 10 * n ≤ x ∧ x < 401 + 10 * n + i
    · rw [if_pos d, if_pos (by omega)]
    · rw [if_neg d, if_neg (by omega)]
theorem zeG_0 (g : Nat → Int32) (n : Nat) : zeG g n 0 = g := by
  funext x
  exact if_neg (by omega)
theorem nwG_e (g : Nat → Int32) {n : Nat} (k t v : Int32) (hn : n ≤ 99) : upd (upd (upd (upd (zeG (nwR g n k t v) n 10) (401 + 10 * n + 0) 1) (401 + 10 * n + 1) k) (401 + 10 * n + 2) t) (401 + 10 * n + 3) t = nwG g n k t v := by
  funext x
  unfold nwG
  by_cases c0 : x = 4 * n + 0
  · rw [if_pos c0, pz_updN (by omega), pz_updN (by omega), pz_updN (by omega), pz_updN (by omega)]
    unfold zeG nwR
    rw [if_neg (by omega), pz_updN (by omega), pz_updN (by omega), pz_updN (by omega), pz_updN (by omega), pz_updN (by omega), c0, pz_updE]
  rw [if_neg c0]
  by_cases c1 : x = 4 * n + 1
  · rw [if_pos c1, pz_updN (by omega), pz_updN (by omega), pz_updN (by omega), pz_updN (by omega)]
    unfold zeG nwR
    rw [if_neg (by omega), pz_updN (by omega), pz_updN (by omega), pz_updN (by omega), pz_updN (by omega), c1, pz_updE]
  rw [if_neg c1]
  by_cases c2 : x = 4 * n + 2
  · rw [if_pos c2, pz_updN (by omega), pz_updN (by omega), pz_updN (by omega), pz_updN (by omega)]
    unfold zeG nwR
    rw [if_neg (by omega), pz_updN (by omega), pz_updN (by omega), pz_updN (by omega), c2, pz_updE]
  rw [if_neg c2]
  by_cases c3 : x = 4 * n + 3
  · rw [if_pos c3, pz_updN (by omega), pz_updN (by omega), pz_updN (by omega), pz_updN (by omega)]
    unfold zeG nwR
    rw [if_neg (by omega), pz_updN (by omega), pz_updN (by omega), c3, pz_updE]
  rw [if_neg c3]
  by_cases c4 : x = 400
  · rw [if_pos c4, pz_updN (by omega), pz_updN (by omega), pz_updN (by omega), pz_updN (by omega)]
    unfold zeG nwR
    rw [if_neg (by omega), pz_updN (by omega), c4, pz_updE]
  rw [if_neg c4]
  by_cases c5 : x = 1401
  · rw [if_pos c5, pz_updN (by omega), pz_updN (by omega), pz_updN (by omega), pz_updN (by omega)]
    unfold zeG nwR
    rw [if_neg (by omega), c5, pz_updE]
  rw [if_neg c5]
  by_cases c6 : x = 401 + 10 * n + 0
  · rw [if_pos c6, pz_updN (by omega), pz_updN (by omega), pz_updN (by omega), c6, pz_updE]
  rw [if_neg c6]
  by_cases c7 : x = 401 + 10 * n + 1
  · rw [if_pos c7, pz_updN (by omega), pz_updN (by omega), c7, pz_updE]
  rw [if_neg c7]
  by_cases c8 : x = 401 + 10 * n + 2
  · rw [if_pos c8, pz_updN (by omega), c8, pz_updE]
  rw [if_neg c8]
  by_cases c9 : x = 401 + 10 * n + 3
  · rw [if_pos c9, c9, pz_updE]
  rw [if_neg c9, pz_updN c9, pz_updN c8, pz_updN c7, pz_updN c6]
  unfold zeG nwR
  rw [pz_updN c5, pz_updN c4, pz_updN c3, pz_updN c2, pz_updN c1, pz_updN c0]
theorem pz_form (M : CS) (g : Nat → Int32) (B : Int64) {n : Nat} (k t v : Int32) (h4 : g 400 = nI n) (h14 : g 1401 = nI n) (hn : n ≤ 99) (hl : F_X7_isLateNow (mG M g B) t = 0) (y : Int32 × CS)
    (hS : lpS (fun (z : Int32 × CS) => st_X7_comes_175 k (mG M g B) z.1 z.2) (fun (z : Int32 × CS) => Sst_X7_comes_175 k (mG M g B) z.1 z.2) 101 (1, mG M (nwG g n k t v) B))
    (hr : lp (fun (z : Int32 × CS) => st_X7_comes_175 k (mG M g B) z.1 z.2) (.inr (0, mG M g B)) 101 (1, mG M (nwG g n k t v) B) = .inr y) :
    S_X7_comes (mG M g B) k t v ∧ F_X7_comes (mG M g B) k t v = y := by
  have hn' : n < 100 := by omega
  have key : lpS (fun (z : Int32 × CS) => st_X7_comes_118 k t (mG M g B) z.1 z.2) (fun (z : Int32 × CS) => Sst_X7_comes_118 k t (mG M g B) z.1 z.2) (10 + 1) (0, mG M (nwR g n k t v) B) ∧ lp (fun (z : Int32 × CS) => st_X7_comes_118 k t (mG M g B) z.1 z.2) (0, mG M g B) (10 + 1) (0, mG M (nwR g n k t v) B) = y := by
    refine pz_bo (fun i s => s = (nI i, mG M (zeG (nwR g n k t v) n i) B)) (fun r => r = y) 10 (fun i s hi hs => ?_) (fun s hs => ?_) 10 0 (0, mG M (nwR g n k t v) B) (by omega) (by rw [zeG_0]; rfl)
    · subst hs
      show Sst_X7_comes_118 k t (mG M g B) (nI i) (mG M (zeG (nwR g n k t v) n i) B) ∧ ((∃ s', st_X7_comes_118 k t (mG M g B) (nI i) (mG M (zeG (nwR g n k t v) n i) B) = .inl s' ∧ _) ∨ _)
      have e3 : ¬ (10 : Int32) ≤ nI i := pz_ge (b := 10) hi (by omega)
      unfold Sst_X7_comes_118 st_X7_comes_118
      rw [if_neg e3, if_neg e3, mG_g, h14, pz_set i rfl (by omega) (by omega), pz_bnd, mG_g, mG_R, zeG_s, pz_s1]
      exact ⟨⟨pz_setS i rfl (by omega) (by omega), trivial⟩, .inl ⟨_, rfl, rfl⟩⟩
    · subst hs
      show Sst_X7_comes_118 k t (mG M g B) (nI 10) (mG M (zeG (nwR g n k t v) n 10) B) ∧ ∃ r, st_X7_comes_118 k t (mG M g B) (nI 10) (mG M (zeG (nwR g n k t v) n 10) B) = .inr r ∧ _
      have e3 : (10 : Int32) ≤ nI 10 := pz_leR 10 (by omega)
      unfold Sst_X7_comes_118 st_X7_comes_118
      rw [if_pos e3, if_pos e3]
      simp only [mG_g, h14, pz_bnd, pz_set0 hn', pz_set1 hn', pz_set2 hn', pz_set3 hn', mG_R, nwG_e g k t v hn]
      exact ⟨⟨pz_setS 0 rfl hn' (by omega), pz_setS 1 rfl hn' (by omega), pz_setS 2 rfl hn' (by omega), pz_setS 3 rfl hn' (by omega), hS⟩, y, hr, rfl⟩
  have e9 : upd (upd (upd (upd (upd (upd g (4 * n + 0) k) (4 * n + 1) t) (4 * n + 2) v) (4 * n + 3) (nI n)) 400 (upd (upd (upd (upd g (4 * n + 0) k) (4 * n + 1) t) (4 * n + 2) v) (4 * n + 3) (nI n) 400 + 1)) 1401 (upd (upd (upd (upd (upd g (4 * n + 0) k) (4 * n + 1) t) (4 * n + 2) v) (4 * n + 3) (nI n)) 400 (upd (upd (upd (upd g (4 * n + 0) k) (4 * n + 1) t) (4 * n + 2) v) (4 * n + 3) (nI n) 400 + 1) 1401 + 1) = nwR g n k t v := by
    have a1 : upd (upd (upd (upd g (4 * n + 0) k) (4 * n + 1) t) (4 * n + 2) v) (4 * n + 3) (nI n) 400 = nI n := by
      rw [pz_updN (by omega), pz_updN (by omega), pz_updN (by omega), pz_updN (by omega), h4]
    rw [a1, pz_s1]
    have a2 : upd (upd (upd (upd (upd g (4 * n + 0) k) (4 * n + 1) t) (4 * n + 2) v) (4 * n + 3) (nI n)) 400 (nI (n + 1)) 1401 = nI n := by
      rw [pz_updN (by omega), pz_updN (by omega), pz_updN (by omega), pz_updN (by omega), pz_updN (by omega), h14]
    rw [a2, pz_s1]
    rfl
  have f : ((10 : Int32).toInt - (0 : Int32).toInt).toNat + 1 = 10 + 1 := pz_fu (n := 10) (by omega)
  constructor
  · unfold S_X7_comes
    rw [hl, pz_bnd, if_pos rfl]
    simp only [mG_g, h4, h14, pz_bnd, pz_rc0 (show n ≤ 100 by omega), pz_rc1 (show n ≤ 100 by omega), pz_rc2 (show n ≤ 100 by omega), pz_rc3 (show n ≤ 100 by omega), mG_R, f]
    rw [e9]
    exact ⟨pz_rv0 (by omega), pz_rv1 (by omega), pz_rv2 (by omega), pz_rv3 (by omega), key.1⟩
  · unfold F_X7_comes
    rw [hl, pz_bnd, if_pos rfl]
    simp only [mG_g, h4, h14, pz_bnd, pz_rc0 (show n ≤ 100 by omega), pz_rc1 (show n ≤ 100 by omega), pz_rc2 (show n ≤ 100 by omega), pz_rc3 (show n ≤ 100 by omega), mG_R, f]
    rw [e9]
    exact key.2
