/-! pure: the two states side by side -/
abbrev mB (g : Nat → Int32) (b w : Nat) : Int32 := g (401 + 10 * b + w)
abbrev mK (g : Nat → Int32) (r w : Nat) : Int32 := g (4 * r + w)
abbrev rng (x : Int32) (lo hi : Nat) : Prop := ∃ k : Nat, lo ≤ k ∧ k ≤ hi ∧ x = nI k
def RSet (R : Nat → Nat → Int32) (I : Nat → Int32) (S : Int64) (g : Nat → Int32) (B : Int64) (n : Nat) : Prop :=
  I 5 = nI n ∧ I 6 = nI n ∧ g 400 = nI n ∧ g 1401 = nI n ∧ (∀ k, k < 8 → R 0 k = g (1402 + k) ∧ rng (g (1402 + k)) 1 50) ∧ (∀ k, k < 8 → R 1 k = g (1410 + k) ∧ rng (g (1410 + k)) 0 3) ∧
  I 0 = g 1419 ∧ rng (g 1419) 0 100 ∧ I 1 = g 1420 ∧ rng (g 1420) 0 10 ∧ I 2 = g 1418 ∧ rng (g 1418) 0 20000 ∧ I 3 = g 1421 ∧ I 4 = g 1422 ∧ S = B
def RB1 (R : Nat → Nat → Int32) (g : Nat → Int32) (b : Nat) : Prop :=
  R 5 b = mB g b 1 ∧ rng (mB g b 1) 0 7 ∧ R 6 b = mB g b 2 ∧ rng (mB g b 2) 0 9999 ∧ R 7 b = mB g b 3 ∧ rng (mB g b 3) 0 9999 ∧ R 9 b = mB g b 9 ∧ R 10 b = mB g b 5 ∧ (R 10 b = 0 ∨ R 10 b = 1) ∧
  (R 10 b = 1 → R 11 b = mB g b 6 ∧ R 12 b = mB g b 7 ∧ R 13 b = mB g b 8) ∧
  ((R 8 b = 0 ∧ mB g b 0 = 1 ∧ mB g b 4 = 0) ∨ (R 8 b = 1 ∧ mB g b 0 = 1 ∧ mB g b 4 = 1) ∨ (R 8 b = 2 ∧ mB g b 0 = 0 ∧ mB g b 4 = 0 ∧ R 10 b = 0))
def RBur (R : Nat → Nat → Int32) (g : Nat → Int32) (n : Nat) : Prop := ∀ b, b < n → RB1 R g b
def RBef (g : Nat → Int32) (a b : Nat) : Prop := mK g a 1 < mK g b 1 ∨ (mK g a 1 = mK g b 1 ∧ a < b)
def RRec (R : Nat → Nat → Int32) (g : Nat → Int32) (n : Nat) : Prop :=
  (∀ r, r < n → rng (mK g r 1) 0 9999 ∧ ∃ b, b < n ∧ mK g r 3 = nI b ∧ mK g r 0 = mB g b 1 ∧ mB g b 0 = 1) ∧ (∀ b, b < n → mB g b 0 = 1 → ∃ r, r < n ∧ mK g r 3 = nI b) ∧
  ∃ L : List Nat, L.Perm (List.range n) ∧ L.Pairwise (RBef g) ∧ ∀ i, i < n → R 2 i = mK g (L.getD i 0) 1 ∧ R 3 i = mK g (L.getD i 0) 2 ∧ R 4 i = mK g (L.getD i 0) 3
def RLog (R : Nat → Nat → Int32) (I : Nat → Int32) (g : Nat → Int32) : Prop :=
  ∃ q o : Nat, q ≤ 60 ∧ o < 60 ∧ (q < 60 → o = 0) ∧ I 8 = nI q ∧ g 1426 = nI q ∧ I 7 = nI o ∧ (∀ j, j < 6 → ∀ i, i < q → R (14 + j) ((o + i) % 60) = g (1427 + 6 * i + j)) ∧ ∀ k, k < 3 → R 20 k = g (1423 + k)
def RelN (n : Nat) (R : Nat → Nat → Int32) (I : Nat → Int32) (S : Int64) (g : Nat → Int32) (B : Int64) : Prop := n ≤ 100 ∧ RSet R I S g B n ∧ RBur R g n ∧ RRec R g n ∧ RLog R I g
def RelG (R : Nat → Nat → Int32) (I : Nat → Int32) (S : Int64) (g : Nat → Int32) (B : Int64) : Prop := ∃ n : Nat, RelN n R I S g B
def RN (n : Nat) (C M : CS) : Prop := RelN n C.1 C.2.1 (C.2.2 0) (M.1 0) (M.2.2 0)
/-- what the calls on the grouping at hand leave alone -/
def FrC (C D : CS) : Prop := (∀ k, 21 ≤ k → D.1 k = C.1 k) ∧ (∀ k, 9 ≤ k → D.2.1 k = C.2.1 k) ∧ (∀ k, 1 ≤ k → D.2.2 k = C.2.2 k)
def FrM (M N : CS) : Prop := (∀ k, 1 ≤ k → N.1 k = M.1 k) ∧ N.2.1 = M.2.1 ∧ (∀ k, 1 ≤ k → N.2.2 k = M.2.2 k)
theorem FrC.rf (C : CS) : FrC C C := ⟨fun _ _ => rfl, fun _ _ => rfl, fun _ _ => rfl⟩
theorem FrM.rf (C : CS) : FrM C C := ⟨fun _ _ => rfl, rfl, fun _ _ => rfl⟩
theorem FrC.tr {A B C : CS} (h : FrC A B) (h2 : FrC B C) : FrC A C := ⟨fun k hk => (h2.1 k hk).trans (h.1 k hk), fun k hk => (h2.2.1 k hk).trans (h.2.1 k hk), fun k hk => (h2.2.2 k hk).trans (h.2.2 k hk)⟩
theorem FrM.tr {A B C : CS} (h : FrM A B) (h2 : FrM B C) : FrM A C := ⟨fun k hk => (h2.1 k hk).trans (h.1 k hk), h2.2.1.trans h.2.1, fun k hk => (h2.2.2 k hk).trans (h.2.2 k hk)⟩
theorem FrC.r {C : CS} {k : Nat} {f : Nat → Int32} (h : k < 21) : FrC C (sR C k f) := ⟨fun j hj => if_neg (by omega), fun _ _ => rfl, fun _ _ => rfl⟩
theorem FrC.i {C : CS} {k : Nat} {v : Int32} (h : k < 9) : FrC C (sI C k v) := ⟨fun _ _ => rfl, fun j hj => if_neg (by omega), fun _ _ => rfl⟩
theorem FrC.l {C : CS} {v : Int64} : FrC C (sL C 0 v) := ⟨fun _ _ => rfl, fun _ _ => rfl, fun j hj => if_neg (by omega)⟩
theorem FrM.r {C : CS} {f : Nat → Int32} : FrM C (sR C 0 f) := ⟨fun j hj => if_neg (by omega), rfl, fun _ _ => rfl⟩
theorem FrM.l {C : CS} {v : Int64} : FrM C (sL C 0 v) := ⟨fun _ _ => rfl, rfl, fun j hj => if_neg (by omega)⟩
/-- a call of both sides on the grouping at hand -/
def Sm (C M D N : CS) : Prop := FrC C D ∧ FrM M N ∧ RelG D.1 D.2.1 (D.2.2 0) (N.1 0) (N.2.2 0)
theorem pz_mul (a b : Nat) : nI a * nI b = nI (a * b) := (Int32.ofNat_mul a b).symm
/-- cells of the reference -/
theorem pz_ofi {b w : Nat} : (401 + 10 * nI b + nI w : Int32) = nI (401 + 10 * b + w) := by
  rw [show (401 : Int32) = nI 401 from rfl, show (10 : Int32) = nI 10 from rfl, pz_mul, nI_add, nI_add]
theorem pz_of {M : CS} {b : Nat} (w : Nat) {x : Int32} (hx : x = nI w) (hb : b < 100) (hw : w < 10) : F_X7_of M (nI b) x = mB (M.1 0) b w := by
  subst hx
  unfold F_X7_of
  rw [pz_ofi, nI_clamp (by omega)]
theorem pz_ofS {M : CS} {b : Nat} (w : Nat) {x : Int32} (hx : x = nI w) (hb : b < 100) (hw : w < 10) : S_X7_of M (nI b) x := by
  subst hx
  unfold S_X7_of
  rw [pz_ofi]
  exact ⟨vp_in_nI (by omega) (by omega), trivial⟩
theorem pz_of0 {M : CS} {b : Nat} (hb : b < 100) : F_X7_of M (nI b) 0 = mB (M.1 0) b 0 := pz_of 0 rfl hb (by omega)
theorem pz_of1 {M : CS} {b : Nat} (hb : b < 100) : F_X7_of M (nI b) 1 = mB (M.1 0) b 1 := pz_of 1 rfl hb (by omega)
theorem pz_of2 {M : CS} {b : Nat} (hb : b < 100) : F_X7_of M (nI b) 2 = mB (M.1 0) b 2 := pz_of 2 rfl hb (by omega)
theorem pz_of3 {M : CS} {b : Nat} (hb : b < 100) : F_X7_of M (nI b) 3 = mB (M.1 0) b 3 := pz_of 3 rfl hb (by omega)
theorem pz_of4 {M : CS} {b : Nat} (hb : b < 100) : F_X7_of M (nI b) 4 = mB (M.1 0) b 4 := pz_of 4 rfl hb (by omega)
theorem pz_of5 {M : CS} {b : Nat} (hb : b < 100) : F_X7_of M (nI b) 5 = mB (M.1 0) b 5 := pz_of 5 rfl hb (by omega)
theorem pz_of6 {M : CS} {b : Nat} (hb : b < 100) : F_X7_of M (nI b) 6 = mB (M.1 0) b 6 := pz_of 6 rfl hb (by omega)
theorem pz_of7 {M : CS} {b : Nat} (hb : b < 100) : F_X7_of M (nI b) 7 = mB (M.1 0) b 7 := pz_of 7 rfl hb (by omega)
theorem pz_of8 {M : CS} {b : Nat} (hb : b < 100) : F_X7_of M (nI b) 8 = mB (M.1 0) b 8 := pz_of 8 rfl hb (by omega)
theorem pz_of9 {M : CS} {b : Nat} (hb : b < 100) : F_X7_of M (nI b) 9 = mB (M.1 0) b 9 := pz_of 9 rfl hb (by omega)
theorem pz_oS0 {M : CS} {b : Nat} (hb : b < 100) : S_X7_of M (nI b) 0 := pz_ofS 0 rfl hb (by omega)
theorem pz_oS1 {M : CS} {b : Nat} (hb : b < 100) : S_X7_of M (nI b) 1 := pz_ofS 1 rfl hb (by omega)
theorem pz_oS2 {M : CS} {b : Nat} (hb : b < 100) : S_X7_of M (nI b) 2 := pz_ofS 2 rfl hb (by omega)
theorem pz_oS3 {M : CS} {b : Nat} (hb : b < 100) : S_X7_of M (nI b) 3 := pz_ofS 3 rfl hb (by omega)
theorem pz_oS4 {M : CS} {b : Nat} (hb : b < 100) : S_X7_of M (nI b) 4 := pz_ofS 4 rfl hb (by omega)
theorem pz_oS5 {M : CS} {b : Nat} (hb : b < 100) : S_X7_of M (nI b) 5 := pz_ofS 5 rfl hb (by omega)
theorem pz_oS6 {M : CS} {b : Nat} (hb : b < 100) : S_X7_of M (nI b) 6 := pz_ofS 6 rfl hb (by omega)
theorem pz_oS7 {M : CS} {b : Nat} (hb : b < 100) : S_X7_of M (nI b) 7 := pz_ofS 7 rfl hb (by omega)
theorem pz_oS8 {M : CS} {b : Nat} (hb : b < 100) : S_X7_of M (nI b) 8 := pz_ofS 8 rfl hb (by omega)
theorem pz_oS9 {M : CS} {b : Nat} (hb : b < 100) : S_X7_of M (nI b) 9 := pz_ofS 9 rfl hb (by omega)
theorem pz_set {M : CS} {b : Nat} {v : Int32} (w : Nat) {x : Int32} (hx : x = nI w) (hb : b < 100) (hw : w < 10) : F_X7_sets M (nI b) x v = sR M 0 (upd (M.1 0) (401 + 10 * b + w) v) := by
  subst hx
  unfold F_X7_sets
  rw [pz_ofi, nI_clamp (by omega)]
  rfl
theorem pz_setS {M : CS} {b : Nat} {v : Int32} (w : Nat) {x : Int32} (hx : x = nI w) (hb : b < 100) (hw : w < 10) : S_X7_sets M (nI b) x v := pz_ofS (M := M) w hx hb hw
theorem pz_set0 {M : CS} {b : Nat} {v : Int32} (hb : b < 100) : F_X7_sets M (nI b) 0 v = sR M 0 (upd (M.1 0) (401 + 10 * b + 0) v) := pz_set 0 rfl hb (by omega)
theorem pz_set1 {M : CS} {b : Nat} {v : Int32} (hb : b < 100) : F_X7_sets M (nI b) 1 v = sR M 0 (upd (M.1 0) (401 + 10 * b + 1) v) := pz_set 1 rfl hb (by omega)
theorem pz_set2 {M : CS} {b : Nat} {v : Int32} (hb : b < 100) : F_X7_sets M (nI b) 2 v = sR M 0 (upd (M.1 0) (401 + 10 * b + 2) v) := pz_set 2 rfl hb (by omega)
theorem pz_set3 {M : CS} {b : Nat} {v : Int32} (hb : b < 100) : F_X7_sets M (nI b) 3 v = sR M 0 (upd (M.1 0) (401 + 10 * b + 3) v) := pz_set 3 rfl hb (by omega)
theorem pz_set4 {M : CS} {b : Nat} {v : Int32} (hb : b < 100) : F_X7_sets M (nI b) 4 v = sR M 0 (upd (M.1 0) (401 + 10 * b + 4) v) := pz_set 4 rfl hb (by omega)
theorem pz_set5 {M : CS} {b : Nat} {v : Int32} (hb : b < 100) : F_X7_sets M (nI b) 5 v = sR M 0 (upd (M.1 0) (401 + 10 * b + 5) v) := pz_set 5 rfl hb (by omega)
theorem pz_set6 {M : CS} {b : Nat} {v : Int32} (hb : b < 100) : F_X7_sets M (nI b) 6 v = sR M 0 (upd (M.1 0) (401 + 10 * b + 6) v) := pz_set 6 rfl hb (by omega)
theorem pz_set7 {M : CS} {b : Nat} {v : Int32} (hb : b < 100) : F_X7_sets M (nI b) 7 v = sR M 0 (upd (M.1 0) (401 + 10 * b + 7) v) := pz_set 7 rfl hb (by omega)
theorem pz_set8 {M : CS} {b : Nat} {v : Int32} (hb : b < 100) : F_X7_sets M (nI b) 8 v = sR M 0 (upd (M.1 0) (401 + 10 * b + 8) v) := pz_set 8 rfl hb (by omega)
theorem pz_set9 {M : CS} {b : Nat} {v : Int32} (hb : b < 100) : F_X7_sets M (nI b) 9 v = sR M 0 (upd (M.1 0) (401 + 10 * b + 9) v) := pz_set 9 rfl hb (by omega)
/-- ranges -/
theorem pz_in {x : Int32} {lo hi : Int32} : F_X7_in x lo hi = if x < lo then 0 else if hi < x then 0 else 1 := rfl
theorem pz_key {x : Int32} : F_X7_isKey x = if x < 0 then 0 else if 7 < x then 0 else 1 := rfl
theorem pz_keyN {x : Int32} (h : F_X7_isKey x ≠ 0) : ∃ k : Nat, k < 8 ∧ x = nI k := by
  rw [pz_key] at h
  split at h
  · exact absurd rfl h
  split at h
  · exact absurd rfl h
  rename_i h1 h2
  obtain ⟨j, hj, e⟩ := nI_of h1
  subst e
  rw [show (7 : Int32) = nI 7 from rfl, nI_ltI (by omega) hj] at h2
  exact ⟨j, by omega, rfl⟩
theorem pz_keyT {k : Nat} (h : k < 8) : F_X7_isKey (nI k) = 1 := by
  rw [pz_key, if_neg (pz_nlt0 (by omega)), if_neg (by rw [show (7 : Int32) = nI 7 from rfl, nI_ltI (by omega) (by omega)]; omega)]
theorem pz_inN {x : Int32} {lo hi : Nat} (hh : hi < 2000000) (hl : lo < 2000000) (h : F_X7_in x (nI lo) (nI hi) ≠ 0) : rng x lo hi := by
  rw [pz_in] at h
  split at h
  · exact absurd rfl h
  split at h
  · exact absurd rfl h
  rename_i h1 h2
  have h3 : ¬ x < 0 := by
    rw [Int32.lt_iff_toInt_lt] at h1 ⊢
    rw [nI_toInt (by omega)] at h1
    show ¬ x.toInt < 0
    omega
  obtain ⟨j, hj, e⟩ := nI_of h3
  subst e
  rw [nI_ltI (by omega) (by omega)] at h1 h2
  exact ⟨j, by omega, by omega, rfl⟩
theorem pz_inT {k lo hi : Nat} (h1 : lo ≤ k) (h2 : k ≤ hi) (hh : hi < 2000000) : F_X7_in (nI k) (nI lo) (nI hi) = 1 := by
  rw [pz_in, if_neg (by rw [nI_ltI (by omega) (by omega)]; omega), if_neg (by rw [nI_ltI (by omega) (by omega)]; omega)]
/-- the class's checks are the reference's -/
theorem pz_needKey (x : Int32) : F_X6_needKey x = if F_X7_isKey x = 0 then .inl "java/lang/IndexOutOfBoundsException" else .inr () := by
  rw [pz_key]
  unfold F_X6_needKey
  by_cases h1 : x < 0
  · rw [if_pos h1, if_pos h1]; rfl
  · rw [if_neg h1, if_neg h1]
    obtain ⟨j, hj, e⟩ := nI_of h1
    subst e
    by_cases h2 : nI j < 8
    · have h3 := h2
      rw [show (8 : Int32) = nI 8 from rfl, nI_ltI hj (by omega)] at h3
      rw [if_pos h2, if_neg (show ¬ (7 : Int32) < nI j by rw [show (7 : Int32) = nI 7 from rfl, nI_ltI (by omega) hj]; omega)]
      rfl
    · have h3 := h2
      rw [show (8 : Int32) = nI 8 from rfl, nI_ltI hj (by omega)] at h3
      rw [if_neg h2, if_pos (show (7 : Int32) < nI j by rw [show (7 : Int32) = nI 7 from rfl, nI_ltI (by omega) hj]; omega)]
      rfl
theorem pz_needWithin (x lo hi : Int32) : F_X6_needWithin x lo hi = if F_X7_in x lo hi = 0 then .inl "java/lang/IllegalArgumentException" else .inr () := by
  rw [pz_in]
  unfold F_X6_needWithin
  by_cases h1 : x < lo
  · rw [if_pos h1, if_pos h1]; rfl
  · rw [if_neg h1, if_neg h1]
    by_cases h2 : x ≤ hi
    · rw [if_pos h2, if_neg (Int32.not_lt.mpr h2)]; rfl
    · rw [if_neg h2, if_pos (Int32.not_le.mp h2)]; rfl
