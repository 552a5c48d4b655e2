/-! the law -/
abbrev oL (cy : Nat → ClassId) (o : Nat) (f : Nat → Int64) : Nat × va_E := (o, .inl (cy 2, 1, .inr (.inl f)))
abbrev oD (cy : Nat → ClassId) (o : Nat) (f : Nat → UInt64) : Nat × va_E := (o, .inl (cy 3, 1, .inr (.inr (.inr (.inl f)))))
abbrev LA (s : State) : Nat → Prop := fun q : Nat => s.heap.size ≤ q
theorem gw_lr {D : va_G} {A : Nat → Prop} {H0 H : Heap} {a b : va_W} {x y : Nat × va_E} {locs : List Loc} (h : gw D A H0 (a ++ (x :: y :: b)) H locs) : gw D A H0 (b ++ (a ++ [x, y])) H locs := by
  have e : a ++ (x :: y :: b) = (a ++ [x, y]) ++ b := by simp
  rw [e] at h
  exact gw_swap h
theorem gw_rl {D : va_G} {A : Nat → Prop} {H0 H : Heap} {a b : va_W} {x y : Nat × va_E} {locs : List Loc} (h : gw D A H0 (b ++ (a ++ [x, y])) H locs) : gw D A H0 (a ++ (x :: y :: b)) H locs := by
  have e : a ++ (x :: y :: b) = (a ++ [x, y]) ++ b := by simp
  rw [e]
  exact gw_swap h
theorem lw_dx {L j : Nat} (h : ¬ nI L - 4 < nI (4 * j)) (hL : L ≤ 2048) (hj : j ≤ 600) : 4 * j + 4 ≤ L := by
  have e1 : (nI L - nI 4).toInt = (L : Int) - 4 := pk_sub_toInt (by omega) (by omega)
  have e2 : (nI (4 * j)).toInt = ((4 * j : Nat) : Int) := nI_toInt (by omega)
  rw [Int32.lt_iff_toInt_lt, show (4 : Int32) = nI 4 from rfl, e1, e2] at h
  omega
theorem lw_ix {L j : Nat} (k : Nat) (h : 4 * j + 4 ≤ L) (hL : L ≤ 2048) (hk : k < 4) : vp_in (nI (4 * j) + nI k) L := by
  rw [nI_add]
  exact vp_in_nI (by omega) (by omega)
theorem lw_i0 {L j : Nat} (h : 4 * j + 4 ≤ L) (hL : L ≤ 2048) : vp_in (nI (4 * j)) L := vp_in_nI (by omega) (by omega)
theorem lw_up (j : Nat) : nI (4 * j) + Int32.ofInt 4 = nI (4 * (j + 1)) := by
  rw [show Int32.ofInt 4 = nI 4 from rfl, nI_add, Nat.mul_succ]
/-- what stays through the law's loop -/
def LX (p : Program) (l : Launch) (s : State) (m : MethodId) (meth : Method) (c : Code) (D : va_G) (cy : Nat → ClassId) (ss : Nat → Nat) (b L : Nat) (xs : Nat → Int32) : Prop :=
  gX p s m #[Value.ref b] meth c cL_law RL 9 wsL_law D cy (LA s) ∧ gEnv ss (LA s) s s.heap ∧ va_X b L xs s s.heap ∧ b < s.heap.size ∧ ¬ LA s b ∧ l.stackTraces = false ∧ L ≤ 2048
/-- the law's loop at its j-th turn -/
def LH (p : Program) (l : Launch) (e : Env) (s : State) (m : MethodId) (below : List Frame) (meth : Method) (c : Code) (D : va_G) (cy : Nat → ClassId) (ad bd : Nat → Nat) (o o2 b : Nat) (j : Nat) : Prop :=
  ∀ (C M : CS) (f : Nat → Int64) (g : Nat → UInt64) (H : Heap) (locs : List Loc) (ls : Array Slot), Rel C M → gw D (LA s) s.heap (CW cy ad C ++ (oL cy o f :: oD cy o2 g :: MW cy bd M)) H locs → lv_has ls 9 [(0, .ref b), (1, .ref (ad 92)), (2, .ref (bd 0)), (3, .ref o), (4, .ref o2), (5, .int (nI (4 * j)))] →
    W p l e room_1 s m #[Value.ref b] below meth c H locs (200 + 4 * j) (9000 + 24 * j) (lw_Z below #[Value.ref b] s) (F0 m 28 ls [])
