/-! pure: the signs of a text -/
abbrev sg (T : Nat → Int32) (k p : Nat) (q : Int32) : Prop := p < k ∧ T p = q
abbrev dg (T : Nat → Int32) (k p g : Nat) : Prop := p < k ∧ ¬ F_X7_in (T p) 48 (nI (48 + g)) = 0
def dv (T : Nat → Int32) (p : Nat) : Nat := (T p).toNatClampNeg - 48
theorem dg_v {T : Nat → Int32} {k p g : Nat} (hg : g ≤ 9) (h : dg T k p g) : ∃ d : Nat, d ≤ g ∧ T p = nI (48 + d) ∧ dv T p = d := by
  obtain ⟨j, h1, h2, e⟩ := pz_inN (lo := 48) (hi := 48 + g) (by omega) (by omega) h.2
  refine ⟨j - 48, by omega, ?_, ?_⟩
  · rw [e, show 48 + (j - 48) = j from by omega]
  · unfold dv
    rw [e, nI_clamp (by omega)]
theorem tx48 : ∀ d : Nat, d < 10 → nI (48 + d) - 48 = nI d := by decide
theorem tx_nm {d : Nat} (h : d < 2 ^ 31) : ¬ nI d = -1 := fun e => pz_nlt0 h (by rw [e]; decide)
theorem tx_le {a b : Nat} (ha : a ≤ 2000) (hb : b ≤ 2000) : nI a ≤ nI b ↔ a ≤ b := nI_leI (by omega) (by omega)
theorem tx_lt {a b : Nat} (ha : a ≤ 2000) (hb : b ≤ 2000) : nI a < nI b ↔ a < b := nI_ltI (by omega) (by omega)
theorem tx_nd {x : Int32} {g : Nat} (hg : g ≤ 9) (h : F_X7_in x 48 (nI (48 + g)) = 0) : x - 48 < 0 ∨ ¬ x - 48 ≤ nI g := by
  have h1 : x < 48 ∨ nI (48 + g) < x := by
    rw [pz_in] at h
    by_cases c : x < 48
    · exact .inl c
    · rw [if_neg c] at h
      by_cases d : nI (48 + g) < x
      · exact .inr d
      · rw [if_neg d] at h
        exact absurd h (by decide)
  have e : (x - 48).toInt = (x.toInt - 48).bmod (2 ^ 32) := Int32.toInt_sub x 48
  have u1 : x.toInt < 2 ^ 31 := Int32.toInt_lt x
  have u2 : -2 ^ 31 ≤ x.toInt := Int32.le_toInt x
  have e48 : (48 : Int32).toInt = 48 := rfl
  have e0 : (0 : Int32).toInt = 0 := rfl
  rw [Int32.lt_iff_toInt_lt, Int32.lt_iff_toInt_lt, e48, nI_toInt (by omega)] at h1
  rw [Int32.lt_iff_toInt_lt, Int32.le_iff_toInt_le, e0, nI_toInt (by omega)]
  have p32 : ((2 ^ 32 : Nat) : Int) = 4294967296 := rfl
  unfold Int.bmod at e
  simp only [p32] at e
  split at e <;> omega
theorem tx_II (C : CS) (j : Nat) (a b : Int32) : sI (sI C j a) j b = sI C j b := by
  have e : upd (upd C.2.1 j a) j b = upd C.2.1 j b := by
    funext x
    unfold upd
    by_cases c : x = j
    · rw [if_pos c, if_pos c]
    · rw [if_neg c, if_neg c, if_neg c]
  show (C.1, upd (upd C.2.1 j a) j b, C.2.2) = (C.1, upd C.2.1 j b, C.2.2)
  rw [e]
def nmb (T : Nat → Int32) (k : Nat) : Nat → Nat → Nat → Nat × Nat
  | 0, p, v => (p, v)
  | m + 1, p, v => if dg T k p 9 then nmb T k m (p + 1) (10 * v + dv T p) else (p, v)
theorem nmb_t {T : Nat → Int32} {k m p v : Nat} (d : dg T k p 9) : nmb T k (m + 1) p v = nmb T k m (p + 1) (10 * v + dv T p) := if_pos d
theorem nmb_f {T : Nat → Int32} {k m p v : Nat} (d : ¬ dg T k p 9) : nmb T k (m + 1) p v = (p, v) := if_neg d
theorem nmb_p (T : Nat → Int32) (k : Nat) : ∀ m p v, p ≤ (nmb T k m p v).1 ∧ (nmb T k m p v).1 ≤ p + m ∧ (p ≤ k → (nmb T k m p v).1 ≤ k)
  | 0, p, v => ⟨Nat.le_refl _, Nat.le_refl _, fun h => h⟩
  | m + 1, p, v => by
    by_cases d : dg T k p 9
    · have e : nmb T k (m + 1) p v = nmb T k m (p + 1) (10 * v + dv T p) := if_pos d
      obtain ⟨a1, a2, a3⟩ := nmb_p T k m (p + 1) (10 * v + dv T p)
      have d1 : p < k := d.1
      rw [e]
      exact ⟨by omega, by omega, fun _ => a3 (by omega)⟩
    · have e : nmb T k (m + 1) p v = (p, v) := if_neg d
      rw [e]
      exact ⟨Nat.le_refl _, Nat.le_add_right _ _, fun h => h⟩
theorem nmb_v (T : Nat → Int32) (k : Nat) : ∀ m p v, (nmb T k m p v).2 + 1 ≤ (v + 1) * 10 ^ m
  | 0, p, v => Nat.le_of_eq (Nat.mul_one _).symm
  | m + 1, p, v => by
    by_cases d : dg T k p 9
    · have e : nmb T k (m + 1) p v = nmb T k m (p + 1) (10 * v + dv T p) := if_pos d
      have a := nmb_v T k m (p + 1) (10 * v + dv T p)
      obtain ⟨d0, hd, _, ev⟩ := dg_v (by omega) d
      rw [e]
      refine Nat.le_trans a ?_
      rw [Nat.pow_succ, Nat.mul_comm (10 ^ m) 10, ← Nat.mul_assoc]
      exact Nat.mul_le_mul_right _ (by omega)
    · have e : nmb T k (m + 1) p v = (p, v) := if_neg d
      rw [e]
      exact Nat.le_mul_of_pos_right _ (Nat.pow_pos (by omega))
theorem nmb4 (T : Nat → Int32) (k p : Nat) : (nmb T k 4 p 0).2 ≤ 9999 := by
  have h := nmb_v T k 4 p 0
  have e : (0 + 1) * 10 ^ 4 = 10000 := rfl
  omega
/-- the class's signs -/
def TB (T : Nat → Int32) (k : Nat) (C : CS) : Prop := k ≤ 40 ∧ C.2.1 18 = nI k ∧ ∀ i, i < k → C.1 42 i = T i
theorem cts {T : Nat → Int32} {k : Nat} {C : CS} (h : TB T k C) {p : Nat} (hp : p ≤ 100) (q : Int32) : F_X5_takeSign (sI C 19 (nI p)) q = if sg T k p q then (1, sI C 19 (nI (p + 1))) else (0, sI C 19 (nI p)) := by
  obtain ⟨hk, h18, hT⟩ := h
  have e18 : (sI C 19 (nI p)).2.1 18 = nI k := h18
  have e19 : (sI C 19 (nI p)).2.1 19 = nI p := by rw [pz_I, if_pos rfl]
  unfold F_X5_takeSign
  rw [e18, e19]
  by_cases c : p < k
  · have e : rAt 40 ((sI C 19 (nI p)).1 42) (nI p) = T p := by
      rw [pz_rAt _ (show p < 40 by omega) (by omega)]
      exact hT p c
    rw [if_neg (show ¬ nI k ≤ nI p by rw [tx_le (by omega) (by omega)]; omega), e, pz_bnd]
    by_cases d : T p = q
    · rw [if_pos d, if_pos (show sg T k p q from ⟨c, d⟩), pz_bnd, tx_II, pz_s1]
    · rw [if_neg d, if_neg (show ¬ sg T k p q from fun hh => d hh.2)]
  · rw [if_pos (show nI k ≤ nI p by rw [tx_le (by omega) (by omega)]; omega), if_neg (show ¬ sg T k p q from fun hh => c hh.1)]
theorem ctd {T : Nat → Int32} {k : Nat} {C : CS} (h : TB T k C) {p g : Nat} (hp : p ≤ 100) (hg : g ≤ 9) : F_X5_takeDigit (sI C 19 (nI p)) (nI g) = if dg T k p g then (nI (dv T p), sI C 19 (nI (p + 1))) else (-1, sI C 19 (nI p)) := by
  obtain ⟨hk, h18, hT⟩ := h
  have e18 : (sI C 19 (nI p)).2.1 18 = nI k := h18
  have e19 : (sI C 19 (nI p)).2.1 19 = nI p := by rw [pz_I, if_pos rfl]
  unfold F_X5_takeDigit
  rw [e18, e19]
  by_cases c : p < k
  · have e : rAt 40 ((sI C 19 (nI p)).1 42) (nI p) = T p := by
      rw [pz_rAt _ (show p < 40 by omega) (by omega)]
      exact hT p c
    rw [if_pos (show nI p < nI k by rw [tx_lt (by omega) (by omega)]; omega), e, pz_bnd]
    by_cases d : dg T k p g
    · obtain ⟨d0, hd, ed, ev⟩ := dg_v hg d
      rw [if_pos d, ev, ed, tx48 d0 (by omega), if_neg (pz_nlt0 (by omega)), if_pos (show nI d0 ≤ nI g by rw [tx_le (by omega) (by omega)]; omega), pz_bnd, tx_II, pz_s1]
    · have h0 : F_X7_in (T p) 48 (nI (48 + g)) = 0 := by
        by_cases z : F_X7_in (T p) 48 (nI (48 + g)) = 0
        · exact z
        · exact absurd ⟨c, z⟩ d
      rw [if_neg d]
      by_cases y : T p - 48 < 0
      · rw [if_pos y]
      · rw [if_neg y]
        rcases tx_nd hg h0 with z | z
        · exact absurd z y
        · rw [if_neg z]
  · rw [if_neg (show ¬ nI p < nI k by rw [tx_lt (by omega) (by omega)]; omega), if_neg (show ¬ dg T k p g from fun hh => c hh.1)]
theorem ctn {T : Nat → Int32} {k : Nat} {C : CS} (h : TB T k C) {p m : Nat} (hp : p ≤ 60) (hm : m ≤ 4) : F_X5_takeNumber (sI C 19 (nI p)) (nI m) = (if (nmb T k m p 0).1 = p then -1 else nI (nmb T k m p 0).2, sI C 19 (nI (nmb T k m p 0).1)) := by
  unfold F_X5_takeNumber
  rw [pz_fu (by omega)]
  have fin : ∀ i v, nmb T k m p 0 = (p + i, v) → ((if i = 0 then -1 else nI v, sI C 19 (nI (p + i))) : Int32 × CS) = (if (nmb T k m p 0).1 = p then -1 else nI (nmb T k m p 0).2, sI C 19 (nI (nmb T k m p 0).1)) := by
    intro i v en
    rw [en]
    show ((if i = 0 then -1 else nI v, sI C 19 (nI (p + i))) : Int32 × CS) = (if p + i = p then -1 else nI v, sI C 19 (nI (p + i)))
    by_cases c : i = 0
    · rw [if_pos c, if_pos (by omega)]
    · rw [if_neg c, if_neg (by omega)]
  refine pz_ho (fun i s => ∃ v, s = (nI i, (if i = 0 then -1 else nI v), sI C 19 (nI (p + i))) ∧ nmb T k m p 0 = nmb T k (m - i) (p + i) v ∧ (i = 0 → v = 0) ∧ v < 10 ^ i) (fun r => r = (if (nmb T k m p 0).1 = p then -1 else nI (nmb T k m p 0).2, sI C 19 (nI (nmb T k m p 0).1))) m (fun i s hi hs => ?_) (fun s hs => ?_) m 0 (0, -1, sI C 19 (nI p)) (by omega) ⟨0, rfl, rfl, fun _ => rfl, by decide⟩
  · obtain ⟨v, e, hn, hz, hb⟩ := hs
    subst e
    show (∃ s', st_X5_takeNumber_4 (nI m) (nI i) (if i = 0 then -1 else nI v) (sI C 19 (nI (p + i))) = .inl s' ∧ _) ∨ ∃ r, st_X5_takeNumber_4 (nI m) (nI i) (if i = 0 then -1 else nI v) (sI C 19 (nI (p + i))) = .inr r ∧ _
    have ed : F_X5_takeDigit (sI C 19 (nI (p + i))) 9 = if dg T k (p + i) 9 then (nI (dv T (p + i)), sI C 19 (nI (p + i + 1))) else (-1, sI C 19 (nI (p + i))) := ctd h (p := p + i) (g := 9) (by omega) (by omega)
    have hb4 : 10 ^ i ≤ 10 ^ 4 := Nat.pow_le_pow_right (by decide) (by omega)
    have hb5 : (10 : Nat) ^ 4 = 10000 := rfl
    have hm1 : m - i = (m - (i + 1)) + 1 := by omega
    unfold st_X5_takeNumber_4
    rw [if_neg (pz_ge hi (by omega)), ed]
    by_cases d : dg T k (p + i) 9
    · left
      obtain ⟨d0, hd, e1, ev⟩ := dg_v (by omega) d
      have hn2 : nmb T k m p 0 = nmb T k (m - (i + 1)) (p + (i + 1)) (10 * v + d0) := by
        have a := nmb_t (m := m - (i + 1)) (v := v) d
        rw [ev] at a
        rw [hn, hm1]
        exact a
      have hb6 : 10 * v + d0 < 10 ^ (i + 1) := by
        rw [Nat.pow_succ]
        omega
      rw [if_pos d, ev]
      simp only [pz_bnd]
      rw [if_neg (tx_nm (show d0 < 2 ^ 31 by omega))]
      by_cases c : i = 0
      · have hv := hz c
        rw [if_pos c, if_pos rfl]
        refine ⟨_, rfl, 10 * v + d0, ?_, hn2, fun hh => absurd hh (by omega), hb6⟩
        rw [pz_s1, if_neg (show ¬ i + 1 = 0 by omega), hv]
        rw [show 10 * 0 + d0 = d0 by omega]
        all_goals rfl
      · rw [if_neg c, if_neg (tx_nm (show v < 2 ^ 31 by omega))]
        refine ⟨_, rfl, 10 * v + d0, ?_, hn2, fun hh => absurd hh (by omega), hb6⟩
        have e2 : nI v * 10 + nI d0 = nI (10 * v + d0) := by
          rw [show (10 : Int32) = nI 10 from rfl, pz_mul, nI_add, Nat.mul_comm]
        rw [pz_s1, if_neg (show ¬ i + 1 = 0 by omega), e2]
        all_goals rfl
    · right
      rw [if_neg d]
      simp only [pz_bnd, if_true]
      refine ⟨_, rfl, fin i v ?_⟩
      rw [hn, hm1]
      exact nmb_f d
  · obtain ⟨v, e, hn, hz, hb⟩ := hs
    subst e
    show ∃ r, st_X5_takeNumber_4 (nI m) (nI m) (if m = 0 then -1 else nI v) (sI C 19 (nI (p + m))) = .inr r ∧ _
    unfold st_X5_takeNumber_4
    rw [if_pos (pz_leR m (by omega))]
    refine ⟨_, rfl, fin m v ?_⟩
    rw [hn, Nat.sub_self]
    all_goals rfl
/-- the reference's signs -/
def TM (T : Nat → Int32) (k p : Nat) (M : CS) : Prop := k ≤ 40 ∧ M.2.1 2 = nI k ∧ M.2.1 4 = nI p ∧ M.1 3 = T
def FT (M N : CS) : Prop := N.1 = M.1 ∧ N.2.2 = M.2.2 ∧ ∀ j, j < 4 → N.2.1 j = M.2.1 j
theorem FT.rf (M : CS) : FT M M := ⟨rfl, rfl, fun _ _ => rfl⟩
theorem FT.tr {A B C : CS} (h : FT A B) (h2 : FT B C) : FT A C := ⟨h2.1.trans h.1, h2.2.1.trans h.2.1, fun j hj => (h2.2.2 j hj).trans (h.2.2 j hj)⟩
theorem FT.i {M : CS} {j : Nat} {v : Int32} (h : 4 ≤ j) : FT M (sI M j v) := ⟨rfl, rfl, fun i hi => by rw [pz_I, if_neg (by omega)]⟩
theorem TM.of {T : Nat → Int32} {k p q : Nat} {M N : CS} (h : TM T k p M) (f : FT M N) (e : N.2.1 4 = nI q) : TM T k q N := ⟨h.1, (f.2.2 2 (by omega)).trans h.2.1, e, (congrFun f.1 3).trans h.2.2.2⟩
theorem mts {T : Nat → Int32} {k p : Nat} {M : CS} (h : TM T k p M) (hp : p ≤ 100) (q : Int32) : S_X7_eats M q ∧ F_X7_eats M q = if sg T k p q then (1, sI M 4 (nI (p + 1))) else (0, M) := by
  obtain ⟨hk, h2, h4, hT⟩ := h
  unfold S_X7_eats F_X7_eats
  rw [h2, h4, hT]
  by_cases c : p < k
  · have n1 : ¬ nI k ≤ nI p := by rw [tx_le (by omega) (by omega)]; omega
    rw [if_neg n1, if_neg n1, nI_clamp (by omega)]
    refine ⟨⟨vp_in_nI (by omega) (by omega), trivial⟩, ?_⟩
    by_cases d : T p = q
    · rw [if_pos d, if_pos (show sg T k p q from ⟨c, d⟩), pz_bnd, pz_s1]
    · rw [if_neg d, if_neg (show ¬ sg T k p q from fun hh => d hh.2)]
  · have n1 : nI k ≤ nI p := by rw [tx_le (by omega) (by omega)]; omega
    rw [if_pos n1, if_pos n1, if_neg (show ¬ sg T k p q from fun hh => c hh.1)]
    exact ⟨trivial, rfl⟩
theorem mtn {T : Nat → Int32} {k p : Nat} {M : CS} (h : TM T k p M) (hp : p ≤ 60) {m : Nat} (hm : m ≤ 4) : S_X7_readsNumber M (nI m) ∧ ∃ N, F_X7_readsNumber M (nI m) = (if (nmb T k m p 0).1 = p then 0 else 1, N) ∧ FT M N ∧ (∀ j, 6 ≤ j → N.2.1 j = M.2.1 j) ∧ N.2.1 4 = nI (nmb T k m p 0).1 ∧ N.2.1 5 = nI (nmb T k m p 0).2 := by
  unfold S_X7_readsNumber F_X7_readsNumber
  rw [pz_bnd, pz_bnd, pz_fu (by omega)]
  have fin : ∀ (i v : Nat) (w : CS), i ≤ 4 → FT M w → (∀ j, 6 ≤ j → w.2.1 j = M.2.1 j) → w.2.1 4 = nI (p + i) → w.2.1 5 = nI v → nmb T k m p 0 = (p + i, v) → ∃ r, (if nI i ≤ 0 then (Sum.inr (0, w) : (Int32 × CS) ⊕ (Int32 × CS)) else .inr (1, w)) = .inr r ∧ ∃ N, r = (if (nmb T k m p 0).1 = p then 0 else 1, N) ∧ FT M N ∧ (∀ j, 6 ≤ j → N.2.1 j = M.2.1 j) ∧ N.2.1 4 = nI (nmb T k m p 0).1 ∧ N.2.1 5 = nI (nmb T k m p 0).2 := by
    intro i v w hi hF h6 h4 h5 en
    have e0 : nI i ≤ 0 ↔ i ≤ 0 := tx_le (b := 0) (by omega) (by omega)
    rw [en]
    by_cases c : i = 0
    · rw [if_pos (e0.mpr (by omega))]
      refine ⟨_, rfl, w, ?_, hF, h6, h4, h5⟩
      rw [if_pos (show p + i = p by omega)]
    · rw [if_neg (fun hh => c (by have := e0.mp hh; omega))]
      refine ⟨_, rfl, w, ?_, hF, h6, h4, h5⟩
      rw [if_neg (show ¬ p + i = p by omega)]
  refine pz_bo (fun i s => ∃ v w, s = (nI i, w) ∧ FT M w ∧ (∀ j, 6 ≤ j → w.2.1 j = M.2.1 j) ∧ w.2.1 4 = nI (p + i) ∧ w.2.1 5 = nI v ∧ nmb T k m p 0 = nmb T k (m - i) (p + i) v) (fun r => ∃ N, r = (if (nmb T k m p 0).1 = p then 0 else 1, N) ∧ FT M N ∧ (∀ j, 6 ≤ j → N.2.1 j = M.2.1 j) ∧ N.2.1 4 = nI (nmb T k m p 0).1 ∧ N.2.1 5 = nI (nmb T k m p 0).2) m (fun i s hi hs => ?_) (fun s hs => ?_) m 0 (0, sI M 5 0) (by omega) ⟨0, sI M 5 0, rfl, FT.i (by omega), fun j hj => by rw [pz_I, if_neg (by omega)], h.2.2.1, by rw [pz_I, if_pos rfl]; all_goals rfl, rfl⟩
  · obtain ⟨v, w, e, hF, h6, h4, h5, hn⟩ := hs
    subst e
    show Sst_X7_readsNumber_7 (nI m) (nI i) w ∧ ((∃ s', st_X7_readsNumber_7 (nI m) (nI i) w = .inl s' ∧ _) ∨ ∃ r, st_X7_readsNumber_7 (nI m) (nI i) w = .inr r ∧ _)
    have tm : TM T k (p + i) w := h.of hF h4
    have hk : k ≤ 40 := h.1
    have hm1 : m - i = (m - (i + 1)) + 1 := by omega
    have n0 : ¬ nI m ≤ nI i := pz_ge hi (by omega)
    unfold Sst_X7_readsNumber_7 st_X7_readsNumber_7
    rw [if_neg n0, if_neg n0, tm.2.1, h4, tm.2.2.2]
    by_cases c : p + i < k
    · have n1 : ¬ nI k ≤ nI (p + i) := by rw [tx_le (by omega) (by omega)]; omega
      rw [if_neg n1, if_neg n1, nI_clamp (by omega), pz_bnd, pz_bnd]
      have hv : vp_in (nI (p + i)) 40 := vp_in_nI (by omega) (by omega)
      by_cases d : F_X7_in (T (p + i)) 48 57 = 0
      · have nd : ¬ dg T k (p + i) 9 := fun hh => hh.2 d
        rw [if_pos d, if_pos d]
        refine ⟨⟨hv, trivial⟩, .inr (fin i v w (by omega) hF h6 h4 h5 ?_)⟩
        rw [hn, hm1]
        exact nmb_f nd
      · have yd : dg T k (p + i) 9 := ⟨c, d⟩
        obtain ⟨d0, hd, e1, ev⟩ := dg_v (by omega) yd
        rw [if_neg d, if_neg d]
        refine ⟨⟨hv, hv, trivial⟩, .inl ?_⟩
        have e2 : 10 * w.2.1 5 + T (p + i) - 48 = nI (10 * v + d0) := by
          rw [h5, e1, show (10 : Int32) = nI 10 from rfl, pz_mul, nI_add, show 10 * v + (48 + d0) = 48 + (10 * v + d0) by omega, ← nI_add 48 (10 * v + d0)]
          show nI 48 + nI (10 * v + d0) - nI 48 = _
          rw [Int32.add_comm, Int32.add_sub_cancel]
        simp only [pz_bnd]
        rw [e2]
        refine ⟨_, rfl, 10 * v + d0, sI (sI w 5 (nI (10 * v + d0))) 4 ((sI w 5 (nI (10 * v + d0))).2.1 4 + 1), ?_, hF.tr ((FT.i (by omega)).tr (FT.i (by omega))), fun j hj => ?_, ?_, ?_, ?_⟩
        · rw [pz_s1]
        · rw [pz_I, if_neg (by omega), pz_I, if_neg (by omega)]
          exact h6 j hj
        · rw [pz_I, if_pos rfl, pz_I, if_neg (by omega), h4, pz_s1]
          rfl
        · rw [pz_I, if_neg (by omega), pz_I, if_pos rfl]
        · have a := nmb_t (m := m - (i + 1)) (v := v) yd
          rw [ev] at a
          rw [hn, hm1]
          exact a
    · have n1 : nI k ≤ nI (p + i) := by rw [tx_le (by omega) (by omega)]; omega
      rw [if_pos n1, if_pos n1]
      refine ⟨trivial, .inr (fin i v w (by omega) hF h6 h4 h5 ?_)⟩
      rw [hn, hm1]
      exact nmb_f (fun hh => c hh.1)
  · obtain ⟨v, w, e, hF, h6, h4, h5, hn⟩ := hs
    subst e
    show Sst_X7_readsNumber_7 (nI m) (nI m) w ∧ ∃ r, st_X7_readsNumber_7 (nI m) (nI m) w = .inr r ∧ _
    have n0 : nI m ≤ nI m := pz_leR m (by omega)
    unfold Sst_X7_readsNumber_7 st_X7_readsNumber_7
    rw [if_pos n0, if_pos n0]
    refine ⟨trivial, fin m v w hm hF h6 h4 h5 ?_⟩
    rw [hn, Nat.sub_self]
    all_goals rfl
