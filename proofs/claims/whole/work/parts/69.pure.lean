/-! pure: what the records tell -/
theorem pz_rw {r w : Nat} : (4 * nI r + nI w : Int32) = nI (4 * r + w) := by
  rw [show (4 : Int32) = nI 4 from rfl, pz_mul, nI_add]
theorem pz_rc0 {r : Nat} (h : r ≤ 100) : (4 * nI r + 0 : Int32).toNatClampNeg = 4 * r + 0 := by rw [show (0 : Int32) = nI 0 from rfl, pz_rw, nI_clamp (by omega)]
theorem pz_rc1 {r : Nat} (h : r ≤ 100) : (4 * nI r + 1 : Int32).toNatClampNeg = 4 * r + 1 := by rw [show (1 : Int32) = nI 1 from rfl, pz_rw, nI_clamp (by omega)]
theorem pz_rc2 {r : Nat} (h : r ≤ 100) : (4 * nI r + 2 : Int32).toNatClampNeg = 4 * r + 2 := by rw [show (2 : Int32) = nI 2 from rfl, pz_rw, nI_clamp (by omega)]
theorem pz_rc3 {r : Nat} (h : r ≤ 100) : (4 * nI r + 3 : Int32).toNatClampNeg = 4 * r + 3 := by rw [show (3 : Int32) = nI 3 from rfl, pz_rw, nI_clamp (by omega)]
theorem pz_rv0 {r : Nat} (h : r ≤ 100) : vp_in (4 * nI r + 0) 1787 := by rw [show (0 : Int32) = nI 0 from rfl, pz_rw]; exact pz_vin (by omega)
theorem pz_rv1 {r : Nat} (h : r ≤ 100) : vp_in (4 * nI r + 1) 1787 := by rw [show (1 : Int32) = nI 1 from rfl, pz_rw]; exact pz_vin (by omega)
theorem pz_rv2 {r : Nat} (h : r ≤ 100) : vp_in (4 * nI r + 2) 1787 := by rw [show (2 : Int32) = nI 2 from rfl, pz_rw]; exact pz_vin (by omega)
theorem pz_rv3 {r : Nat} (h : r ≤ 100) : vp_in (4 * nI r + 3) 1787 := by rw [show (3 : Int32) = nI 3 from rfl, pz_rw]; exact pz_vin (by omega)
theorem pz_mapL {L : List Nat} {n : Nat} (h : L.length = n) : (List.range n).map (fun i => L.getD i 0) = L := by
  refine List.ext_getElem (by simp [h]) (fun i h1 h2 => ?_)
  rw [List.getElem_map, List.getElem_range, List.getD_eq_getElem?_getD, List.getElem?_eq_getElem h2, Option.getD_some]
theorem pz_cN_perm {L : List Nat} {n : Nat} (h : L.Perm (List.range n)) (q : Nat → Bool) : cN (fun i => q (L.getD i 0)) n = cN q n := by
  have e := pz_mapL (h.length_eq.trans List.length_range)
  rw [pz_cN_range, pz_cN_range, ← h.countP_eq q]
  conv => rhs; rw [← e]
  rw [List.countP_map]
  rfl
theorem pz_fo_range {A : Type} (F : Nat → A → A) (n : Nat) (a : A) : fo F n a = (List.range n).foldl (fun a i => F i a) a := by
  induction n with
  | zero => rfl
  | succ n ih =>
    rw [List.range_succ, List.foldl_append, ← ih]
    rfl
theorem pz_fo_perm {A : Type} {L : List Nat} {n : Nat} (h : L.Perm (List.range n)) (F : Nat → A → A) (hc : ∀ x y z, F y (F x z) = F x (F y z)) (a : A) : fo (fun i => F (L.getD i 0)) n a = fo F n a := by
  have e := pz_mapL (h.length_eq.trans List.length_range)
  rw [pz_fo_range, pz_fo_range, ← h.foldl_eq' (f := fun a i => F i a) (fun x _ y _ z => hc x y z) a]
  conv => rhs; rw [← e]
  rw [List.foldl_map]
theorem pz_fo_congr {A : Type} {F G : Nat → A → A} {n : Nat} (h : ∀ i a, i < n → F i a = G i a) (a : A) : fo F n a = fo G n a := by
  induction n with
  | zero => rfl
  | succ n ih =>
    show F n (fo F n a) = G n (fo G n a)
    rw [ih (fun i a hi => h i a (by omega)), h n _ (by omega)]
theorem RN.rec {n : Nat} {C M : CS} (h : RN n C M) : RRec C.1 (M.1 0) n := h.2.2.2.1
theorem RN.own {n : Nat} {C M : CS} (h : RN n C M) {r : Nat} (hr : r < n) : ∃ b, b < n ∧ mK (M.1 0) r 3 = nI b ∧ mK (M.1 0) r 0 = mB (M.1 0) b 1 ∧ mB (M.1 0) b 0 = 1 := (h.rec.1 r hr).2
theorem RN.tim {n : Nat} {C M : CS} (h : RN n C M) {r : Nat} (hr : r < n) : rng (mK (M.1 0) r 1) 0 9999 := (h.rec.1 r hr).1
def ownB (g : Nat → Int32) (x : Int32) (r : Nat) : Bool := decide (mK g r 3 = x)
theorem RN.cof {n : Nat} {C M : CS} (h : RN n C M) (x : Int32) : F_X3_countOf C x = nI (cN (ownB (M.1 0) x) n) := by
  have hn := h.n
  obtain ⟨-, -, L, h3, h4, h5⟩ := h.rec
  unfold F_X3_countOf
  rw [h.c5, pz_fu (by omega), ← pz_cN_perm h3]
  refine pz_cnt (fun i => ownB (M.1 0) x (L.getD i 0)) id n (fun i a hi => ?_) (fun a => ?_)
  · show st_X3_countOf_4 x C (nI i) a = _
    unfold st_X3_countOf_4 ownB
    rw [h.c5, if_neg (pz_ge hi (by omega)), pz_bnd, pz_rAt _ (by omega) (by omega), (h5 i hi).2.2, pz_s1]
    generalize mK (M.1 0) (L.getD i 0) 3 = y
    by_cases c : y = x <;> simp [c]
  · show st_X3_countOf_4 x C (nI n) a = _
    unfold st_X3_countOf_4
    rw [h.c5, if_pos (pz_leR n (by omega))]
    rfl
theorem pz_many {M : CS} {n : Nat} (h4 : M.1 0 400 = nI n) (hn : n ≤ 100) (x : Int32) : S_X7_many M x ∧ F_X7_many M x = nI (cN (ownB (M.1 0) x) n) := by
  unfold S_X7_many F_X7_many
  rw [h4, pz_fu (by omega)]
  refine pz_bcnt (ownB (M.1 0) x) id n (fun i a hi => ?_) (fun a => ?_)
  · show Sst_X7_many_4 x M (nI i) a ∧ st_X7_many_4 x M (nI i) a = _
    unfold Sst_X7_many_4 st_X7_many_4 ownB
    rw [h4, if_neg (pz_ge hi (by omega)), if_neg (pz_ge hi (by omega)), pz_rc3 (by omega), pz_s1]
    refine ⟨⟨pz_rv3 (by omega), trivial⟩, ?_⟩
    by_cases c : mK (M.1 0) i 3 = x <;> simp [c]
  · show Sst_X7_many_4 x M (nI n) a ∧ st_X7_many_4 x M (nI n) a = _
    unfold Sst_X7_many_4 st_X7_many_4
    rw [h4, if_pos (pz_leR n (by omega)), if_pos (pz_leR n (by omega))]
    exact ⟨trivial, rfl⟩
theorem pz_cN_pos {p : Nat → Bool} {n r : Nat} (h : r < n) (hp : p r = true) : 0 < cN p n := by
  have h1 : cN p (r + 1) ≤ cN p n := pz_cN_mono p h
  have h2 : cN p (r + 1) = cN p r + if p r then 1 else 0 := rfl
  rw [h2, if_pos hp] at h1
  omega
/-- folding -/
def fdG (g : Nat → Int32) (x way : Int32) (r : Nat) (a : Int32) : Int32 := if mK g r 3 = x then F_X3_foldOne way a (mK g r 2) else a
theorem pz_w0 (a b : Int32) : F_X3_foldOne (nI 0) a b = a + b := if_pos rfl
theorem pz_w1 (a b : Int32) : F_X3_foldOne (nI 1) a b = if a < b then b else a := (if_neg pz_i10).trans (if_pos rfl)
theorem pz_w2 (a b : Int32) : F_X3_foldOne (nI 2) a b = if b < a then b else a := (if_neg pz_i20).trans ((if_neg pz_i21).trans (if_pos rfl))
theorem pz_i31 : ¬ (3 : Int32) = 1 := by decide
theorem pz_i32 : ¬ (3 : Int32) = 2 := by decide
theorem pz_w3 (a b : Int32) : F_X3_foldOne (nI 3) a b = a + 1 := (if_neg pz_i30).trans ((if_neg pz_i31).trans (if_neg pz_i32))
theorem pz_mx (x y z : Int32) : (if (if z < x then x else z) < y then y else (if z < x then x else z)) = (if (if z < y then y else z) < x then x else (if z < y then y else z)) := by
  by_cases h1 : z < x <;> by_cases h2 : z < y <;> by_cases h3 : x < y <;> by_cases h4 : y < x <;> simp only [h1, h2, h3, h4, if_true, if_false] <;> simp only [Int32.lt_iff_toInt_lt] at h1 h2 h3 h4 <;> first | (exfalso; omega) | (refine Int32.toInt_inj.mp ?_; omega)
theorem pz_mn (x y z : Int32) : (if y < (if x < z then x else z) then y else (if x < z then x else z)) = (if x < (if y < z then y else z) then x else (if y < z then y else z)) := by
  by_cases h1 : x < z <;> by_cases h2 : y < z <;> by_cases h3 : x < y <;> by_cases h4 : y < x <;> simp only [h1, h2, h3, h4, if_true, if_false] <;> simp only [Int32.lt_iff_toInt_lt] at h1 h2 h3 h4 <;> first | (exfalso; omega) | (refine Int32.toInt_inj.mp ?_; omega)
theorem pz_f1 (way : Int32) (h : rng way 0 3) (x y z : Int32) : F_X3_foldOne way (F_X3_foldOne way z x) y = F_X3_foldOne way (F_X3_foldOne way z y) x := by
  obtain ⟨k, _, hk, e⟩ := h
  subst e
  have hk4 : k = 0 ∨ k = 1 ∨ k = 2 ∨ k = 3 := by omega
  rcases hk4 with e | e | e | e <;> subst e
  · rw [pz_w0, pz_w0, pz_w0, pz_w0, Int32.add_assoc, Int32.add_comm x y, ← Int32.add_assoc]
  · rw [pz_w1, pz_w1, pz_w1, pz_w1]
    exact pz_mx x y z
  · rw [pz_w2, pz_w2, pz_w2, pz_w2]
    exact pz_mn x y z
  · rw [pz_w3, pz_w3, pz_w3, pz_w3]
theorem pz_fdc {g : Nat → Int32} {w way : Int32} (h : rng way 0 3) (x y : Nat) (z : Int32) : fdG g w way y (fdG g w way x z) = fdG g w way x (fdG g w way y z) := by
  unfold fdG
  by_cases c1 : mK g x 3 = w
  · by_cases c2 : mK g y 3 = w
    · simp only [if_pos c1, if_pos c2]
      exact pz_f1 way h _ _ _
    · simp only [if_pos c1, if_neg c2]
  · by_cases c2 : mK g y 3 = w
    · simp only [if_neg c1, if_pos c2]
    · simp only [if_neg c1, if_neg c2]
theorem RN.fld {n : Nat} {C M : CS} (h : RN n C M) (x way : Int32) (hw : rng way 0 3) : F_X3_fold C x way = fo (fdG (M.1 0) x way) n (F_X3_startOf way) := by
  have hn := h.n
  obtain ⟨-, -, L, h3, h4, h5⟩ := h.rec
  unfold F_X3_fold
  rw [h.c5, pz_fu (by omega), pz_bnd, ← pz_fo_perm h3 _ (pz_fdc hw)]
  refine pz_fo (fun i => fdG (M.1 0) x way (L.getD i 0)) id n (fun i a hi => ?_) (fun a => ?_) _
  · show st_X3_fold_8 x way C (nI i) a = _
    unfold st_X3_fold_8 fdG
    rw [h.c5, if_neg (pz_ge hi (by omega)), pz_bnd, pz_rAt _ (by omega) (by omega), (h5 i hi).2.2, pz_bnd, pz_rAt _ (by omega) (by omega), (h5 i hi).2.1, pz_bnd, pz_s1]
    generalize mK (M.1 0) (L.getD i 0) 3 = y
    by_cases c : y = x <;> simp [c]
  · show st_X3_fold_8 x way C (nI n) a = _
    unfold st_X3_fold_8
    rw [h.c5, if_pos (pz_leR n (by omega))]
    rfl
/-- the reference's way through the records -/
theorem RN.rmo {n : Nat} {C M : CS} (h : RN n C M) {b : Nat} (hb : b < n) : ∃ k : Nat, k < 8 ∧ mB (M.1 0) b 1 = nI k ∧ S_X7_resultOf M (nI b) ∧ F_X7_resultOf M (nI b) = if cN (ownB (M.1 0) (nI b)) n = 0 then 0 else fo (fdG (M.1 0) (nI b) (M.1 0 (1410 + k))) n (F_X3_startOf (M.1 0 (1410 + k))) := by
  have hn := h.n
  obtain ⟨k, hk, ek⟩ := h.keyr hb
  refine ⟨k, hk, ek, ?_⟩
  have e0 : (1410 : Int32) + nI k = nI (1410 + k) := nI_add 1410 k
  unfold S_X7_resultOf F_X7_resultOf
  rw [pz_of1 (by omega), pz_bnd, pz_bnd, ek, h.m4, pz_fu (by omega), e0]
  obtain ⟨w, _, hw, ew⟩ := (h.fold hk).2
  have hw4 : w = 0 ∨ w = 1 ∨ w = 2 ∨ w = 3 := by omega
  have key : lpS (fun (z : Int32 × Int32 × Int32) => st_X7_resultOf_24 (nI b) M (nI k) z.1 z.2.1 z.2.2) (fun (z : Int32 × Int32 × Int32) => Sst_X7_resultOf_24 (nI b) M (nI k) z.1 z.2.1 z.2.2) (n + 1) (0, 0, 0) ∧ lp (fun (z : Int32 × Int32 × Int32) => st_X7_resultOf_24 (nI b) M (nI k) z.1 z.2.1 z.2.2) 0 (n + 1) (0, 0, 0) = if cN (ownB (M.1 0) (nI b)) n = 0 then 0 else fo (fdG (M.1 0) (nI b) (M.1 0 (1410 + k))) n (F_X3_startOf (M.1 0 (1410 + k))) := by
    refine pz_bo (fun i (s : Int32 × Int32 × Int32) => s.1 = nI i ∧ s.2.2 = nI (cN (ownB (M.1 0) (nI b)) i) ∧ (cN (ownB (M.1 0) (nI b)) i = 0 → s.2.1 = 0 ∧ fo (fdG (M.1 0) (nI b) (M.1 0 (1410 + k))) i (F_X3_startOf (M.1 0 (1410 + k))) = F_X3_startOf (M.1 0 (1410 + k))) ∧ (w ≠ 3 → cN (ownB (M.1 0) (nI b)) i ≠ 0 → s.2.1 = fo (fdG (M.1 0) (nI b) (M.1 0 (1410 + k))) i (F_X3_startOf (M.1 0 (1410 + k)))) ∧ (w = 3 → s.2.2 = fo (fdG (M.1 0) (nI b) (M.1 0 (1410 + k))) i (F_X3_startOf (M.1 0 (1410 + k)))))
      (fun r => r = if cN (ownB (M.1 0) (nI b)) n = 0 then 0 else fo (fdG (M.1 0) (nI b) (M.1 0 (1410 + k))) n (F_X3_startOf (M.1 0 (1410 + k)))) n (fun i s hi hs => ?_) (fun s hs => ?_) n 0 (0, 0, 0) (by omega) ⟨rfl, rfl, fun _ => ⟨rfl, rfl⟩, fun _ h => absurd rfl h, fun e => ?_⟩
    · obtain ⟨x, v, m⟩ := s
      obtain ⟨a1, a2, a3, a4, a5⟩ := hs
      have a1 : x = nI i := a1
      subst a1
      have a2 : m = nI (cN (ownB (M.1 0) (nI b)) i) := a2
      show Sst_X7_resultOf_24 (nI b) M (nI k) (nI i) v m ∧ ((∃ s', st_X7_resultOf_24 (nI b) M (nI k) (nI i) v m = .inl s' ∧ _) ∨ _)
      unfold Sst_X7_resultOf_24 st_X7_resultOf_24
      rw [h.m4, if_neg (pz_ge hi (by omega)), if_neg (pz_ge hi (by omega)), pz_rc3 (by omega), pz_rc2 (by omega), pz_s1, e0, nI_clamp (by omega)]
      refine ⟨⟨pz_rv3 (by omega), ?_⟩, ?_⟩
      · split
        · exact ⟨pz_rv2 (by omega), trivial⟩
        · exact trivial
      have ecn : cN (ownB (M.1 0) (nI b)) (i + 1) = cN (ownB (M.1 0) (nI b)) i + if ownB (M.1 0) (nI b) i then 1 else 0 := rfl
      have efo : fo (fdG (M.1 0) (nI b) (M.1 0 (1410 + k))) (i + 1) (F_X3_startOf (M.1 0 (1410 + k))) = fdG (M.1 0) (nI b) (M.1 0 (1410 + k)) i (fo (fdG (M.1 0) (nI b) (M.1 0 (1410 + k))) i (F_X3_startOf (M.1 0 (1410 + k)))) := rfl
      refine .inl ?_
      have hci := pz_cN_le (ownB (M.1 0) (nI b)) i
      by_cases c : mK (M.1 0) i 3 = nI b
      · have ec : cN (ownB (M.1 0) (nI b)) (i + 1) = cN (ownB (M.1 0) (nI b)) i + 1 := by rw [ecn]; unfold ownB; simp [c]
        have ef : fo (fdG (M.1 0) (nI b) (M.1 0 (1410 + k))) (i + 1) (F_X3_startOf (M.1 0 (1410 + k))) = F_X3_foldOne (M.1 0 (1410 + k)) (fo (fdG (M.1 0) (nI b) (M.1 0 (1410 + k))) i (F_X3_startOf (M.1 0 (1410 + k)))) (mK (M.1 0) i 2) := by rw [efo]; exact if_pos c
        rw [if_pos c]
        have em : m + 1 = nI (cN (ownB (M.1 0) (nI b)) (i + 1)) := by rw [a2, pz_s1, ec]
        rw [ew] at a3 a4 a5 ef ⊢
        rcases hw4 with e | e | e | e <;> subst e
        · rw [if_pos (show nI 0 = (0 : Int32) from rfl)]
          refine ⟨_, rfl, rfl, em, fun hh => by omega, fun _ _ => ?_, fun hh => by omega⟩
          rw [ef]
          show v + mK (M.1 0) i 2 = _ + mK (M.1 0) i 2
          by_cases c0 : cN (ownB (M.1 0) (nI b)) i = 0
          · have a3' := a3 c0
            rw [a3'.2]
            have : v = 0 := a3'.1
            rw [this]; rfl
          · have : v = _ := a4 (by omega) c0
            rw [this]
        · rw [if_neg (show ¬ nI 1 = (0 : Int32) from pz_i10)]
          by_cases c0 : cN (ownB (M.1 0) (nI b)) i = 0
          · have a3' := (a3 c0).2
            rw [if_pos (show m = 0 by rw [a2, c0]; rfl)]
            refine ⟨_, rfl, rfl, em, fun hh => by omega, fun _ _ => ?_, fun hh => by omega⟩
            rw [ef, a3']
            show mK (M.1 0) i 2 = if (-2147483648 : Int32) < mK (M.1 0) i 2 then mK (M.1 0) i 2 else -2147483648
            split
            · rfl
            · rename_i hh
              rw [Int32.lt_iff_toInt_lt, show (-2147483648 : Int32).toInt = -2147483648 from rfl] at hh
              have := (mK (M.1 0) i 2).le_toInt
              refine Int32.toInt_inj.mp ?_
              rw [show (-2147483648 : Int32).toInt = -2147483648 from rfl]
              omega
          · have hv : v = _ := a4 (by omega) c0
            rw [if_neg (show ¬ m = 0 by rw [a2]; intro hh; exact c0 ((nI_eq (b := 0) (by omega) (by omega)).mp hh)), if_pos (show nI 1 = (1 : Int32) from rfl)]
            by_cases c9 : mK (M.1 0) i 2 ≤ v
            · have c9' : M.1 0 (4 * i + 2) ≤ v := c9
              rw [if_pos c9']
              refine ⟨_, rfl, rfl, em, fun hh => by omega, fun _ _ => ?_, fun hh => by omega⟩
              rw [ef, ← hv]
              exact (if_neg (Int32.not_lt.mpr c9)).symm
            · have c9' : ¬ M.1 0 (4 * i + 2) ≤ v := c9
              rw [if_neg c9']
              refine ⟨_, rfl, rfl, em, fun hh => by omega, fun _ _ => ?_, fun hh => by omega⟩
              rw [ef, ← hv]
              exact (if_pos (Int32.not_le.mp c9)).symm
        · rw [if_neg (show ¬ nI 2 = (0 : Int32) from pz_i20)]
          by_cases c0 : cN (ownB (M.1 0) (nI b)) i = 0
          · have a3' := (a3 c0).2
            rw [if_pos (show m = 0 by rw [a2, c0]; rfl)]
            refine ⟨_, rfl, rfl, em, fun hh => by omega, fun _ _ => ?_, fun hh => by omega⟩
            rw [ef, a3']
            show mK (M.1 0) i 2 = if mK (M.1 0) i 2 < (2147483647 : Int32) then mK (M.1 0) i 2 else 2147483647
            split
            · rfl
            · rename_i hh
              rw [Int32.lt_iff_toInt_lt, show (2147483647 : Int32).toInt = 2147483647 from rfl] at hh
              have := (mK (M.1 0) i 2).toInt_lt
              refine Int32.toInt_inj.mp ?_
              rw [show (2147483647 : Int32).toInt = 2147483647 from rfl]
              omega
          · have hv : v = _ := a4 (by omega) c0
            rw [if_neg (show ¬ m = 0 by rw [a2]; intro hh; exact c0 ((nI_eq (b := 0) (by omega) (by omega)).mp hh)), if_neg (show ¬ nI 2 = (1 : Int32) from pz_i21)]
            by_cases c9 : v ≤ mK (M.1 0) i 2
            · have c9' : v ≤ M.1 0 (4 * i + 2) := c9
              rw [if_pos c9']
              refine ⟨_, rfl, rfl, em, fun hh => by omega, fun _ _ => ?_, fun hh => by omega⟩
              rw [ef, ← hv]
              exact (if_neg (Int32.not_lt.mpr c9)).symm
            · have c9' : ¬ v ≤ M.1 0 (4 * i + 2) := c9
              rw [if_neg c9']
              refine ⟨_, rfl, rfl, em, fun hh => by omega, fun _ _ => ?_, fun hh => by omega⟩
              rw [ef, ← hv]
              exact (if_pos (Int32.not_le.mp c9)).symm
        · have ef3 : m + 1 = F_X3_foldOne (nI 3) (fo (fdG (M.1 0) (nI b) (nI 3)) i (F_X3_startOf (nI 3))) (mK (M.1 0) i 2) := by
            have : m = _ := a5 rfl
            rw [this]
            rfl
          rw [if_neg (show ¬ nI 3 = (0 : Int32) from pz_i30)]
          repeat' split
          all_goals exact ⟨_, rfl, rfl, em, fun hh => by omega, fun hh => absurd rfl hh, fun _ => by rw [ef]; exact ef3⟩
      · have ec : cN (ownB (M.1 0) (nI b)) (i + 1) = cN (ownB (M.1 0) (nI b)) i := by rw [ecn]; unfold ownB; simp [c]
        have ef : fo (fdG (M.1 0) (nI b) (M.1 0 (1410 + k))) (i + 1) (F_X3_startOf (M.1 0 (1410 + k))) = fo (fdG (M.1 0) (nI b) (M.1 0 (1410 + k))) i (F_X3_startOf (M.1 0 (1410 + k))) := by rw [efo]; exact if_neg c
        rw [if_neg c]
        refine ⟨_, rfl, rfl, ?_⟩
        rw [ec, ef]
        exact ⟨a2, a3, a4, a5⟩
    · obtain ⟨x, v, m⟩ := s
      obtain ⟨a1, a2, a3, a4, a5⟩ := hs
      have a1 : x = nI n := a1
      subst a1
      have a2 : m = nI (cN (ownB (M.1 0) (nI b)) n) := a2
      show Sst_X7_resultOf_24 (nI b) M (nI k) (nI n) v m ∧ ∃ r, st_X7_resultOf_24 (nI b) M (nI k) (nI n) v m = .inr r ∧ _
      unfold Sst_X7_resultOf_24 st_X7_resultOf_24
      rw [h.m4, if_pos (pz_leR n (by omega)), if_pos (pz_leR n (by omega)), e0, nI_clamp (by omega)]
      refine ⟨trivial, ?_⟩
      by_cases c : w = 3
      · rw [if_pos (show M.1 0 (1410 + k) = 3 by rw [ew, c]; rfl)]
        refine ⟨_, rfl, ?_⟩
        have a5' : m = _ := a5 c
        by_cases c0 : cN (ownB (M.1 0) (nI b)) n = 0
        · rw [if_pos c0, a2, c0]; rfl
        · rw [if_neg c0]; exact a5'
      · rw [if_neg (show ¬ M.1 0 (1410 + k) = 3 by rw [ew]; intro hh; exact c ((nI_eq (b := 3) (by omega) (by omega)).mp hh))]
        refine ⟨_, rfl, ?_⟩
        by_cases c0 : cN (ownB (M.1 0) (nI b)) n = 0
        · rw [if_pos c0]; exact (a3 c0).1
        · rw [if_neg c0]; exact a4 c c0
    · show (0 : Int32) = F_X3_startOf (M.1 0 (1410 + k))
      rw [ew, e]
      rfl
  exact ⟨⟨pz_oS1 (by omega), pz_vin (by omega), key.1⟩, key.2⟩
theorem RN.res {n : Nat} {C M : CS} (h : RN n C M) {b : Nat} (hb : b < n) (hs : stB (M.1 0) b = true) : F_X1_resultOf C (nI b) = F_X7_resultOf M (nI b) ∧ S_X7_resultOf M (nI b) := by
  have hn := h.n
  obtain ⟨k, hk, ek, e1, e2⟩ := h.rmo hb
  refine ⟨?_, e1⟩
  have h0 : mB (M.1 0) b 0 = 1 := by unfold stB at hs; rw [decide_eq_true_eq] at hs; exact hs
  obtain ⟨r, hr, er⟩ := h.rec.2.1 b hb h0
  have hp := pz_cN_pos (p := ownB (M.1 0) (nI b)) hr (by unfold ownB; rw [er]; simp)
  rw [e2, if_neg (by omega)]
  unfold F_X1_resultOf
  rw [pz_bnd, pz_rAt _ (by omega) (by omega), h.key hb, ek, pz_bnd, pz_rAt _ hk (by omega), pz_bnd, h.fld _ _ ((h.fold hk).1 ▸ (h.fold hk).2), (h.fold hk).1]
