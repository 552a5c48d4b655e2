/-! pure: the log -/
def mG (M : CS) (g : Nat → Int32) (B : Int64) : CS := (fun j => if j = 0 then g else M.1 j, M.2.1, fun j => if j = 0 then B else M.2.2 j)
theorem mG_self (M : CS) : mG M (M.1 0) (M.2.2 0) = M := by
  have h1 : (fun j => if j = 0 then M.1 0 else M.1 j) = M.1 := by
    funext j
    by_cases q : j = 0
    · rw [if_pos q, q]
    · rw [if_neg q]
  have h2 : (fun j => if j = 0 then M.2.2 0 else M.2.2 j) = M.2.2 := by
    funext j
    by_cases q : j = 0
    · rw [if_pos q, q]
    · rw [if_neg q]
  unfold mG
  rw [h1, h2]
theorem mG_R (M : CS) (g : Nat → Int32) (B : Int64) (g2 : Nat → Int32) : sR (mG M g B) 0 g2 = mG M g2 B := by
  have h : (fun j => if j = 0 then g2 else (fun j => if j = 0 then g else M.1 j) j) = fun j => if j = 0 then g2 else M.1 j := by
    funext j
    by_cases q : j = 0
    · rw [if_pos q, if_pos q]
    · rw [if_neg q, if_neg q]
      exact if_neg q
  unfold sR mG
  rw [h]
theorem mG_L (M : CS) (g : Nat → Int32) (B B2 : Int64) : sL (mG M g B) 0 B2 = mG M g B2 := by
  have h : vp_updL (fun j => if j = 0 then B else M.2.2 j) 0 B2 = fun j => if j = 0 then B2 else M.2.2 j := by
    funext j
    unfold vp_updL
    by_cases q : j = 0
    · rw [if_pos q, if_pos q]
    · rw [if_neg q, if_neg q]
      exact if_neg q
  unfold sL mG
  rw [h]
theorem mG_g (M : CS) (g : Nat → Int32) (B : Int64) : (mG M g B).1 0 = g := rfl
theorem mG_B (M : CS) (g : Nat → Int32) (B : Int64) : (mG M g B).2.2 0 = B := rfl
theorem mG_fr (M : CS) (g : Nat → Int32) (B : Int64) : FrM M (mG M g B) := ⟨fun k hk => if_neg (by omega), rfl, fun k hk => if_neg (by omega)⟩
theorem mG_mG (M : CS) (g g2 : Nat → Int32) (B B2 : Int64) : mG (mG M g B) g2 B2 = mG M g2 B2 := by
  have h1 : (fun j => if j = 0 then g2 else (fun j => if j = 0 then g else M.1 j) j) = fun j => if j = 0 then g2 else M.1 j := by
    funext j
    by_cases q : j = 0
    · rw [if_pos q, if_pos q]
    · rw [if_neg q, if_neg q]
      exact if_neg q
  have h2 : (fun j => if j = 0 then B2 else (fun j => if j = 0 then B else M.2.2 j) j) = fun j => if j = 0 then B2 else M.2.2 j := by
    funext j
    by_cases q : j = 0
    · rw [if_pos q, if_pos q]
    · rw [if_neg q, if_neg q]
      exact if_neg q
  unfold mG
  rw [h1, h2]
/-- the new entry, the count, the kind's count -/
def lgG (g : Nat → Int32) (q kd : Nat) (b r f l k : Int32) : Nat → Int32 :=
  upd (upd (upd (upd (upd (upd (upd (upd g (1427 + 6 * q) (nI kd)) (1427 + 6 * q + 1) b) (1427 + 6 * q + 2) r) (1427 + 6 * q + 3) f) (1427 + 6 * q + 4) l) (1427 + 6 * q + 5) k) 1426 (nI (q + 1))) (1423 + kd) (g (1423 + kd) + 1)
def lgB (B : Int64) (kd : Nat) (r : Int32) : Int64 := if kd = 2 then B + (-r.toInt64) else B + r.toInt64
def lgT (C : CS) (q1 q2 q3 q4 q5 : Int32) : CS := (bnd (sR C 0 (upd (C.1 0) (1427 + (6 * (C.1 0 1426))).toNatClampNeg q1)) (fun u2 => (bnd (sR u2 0 (upd (u2.1 0) ((1427 + (6 * (C.1 0 1426))) + 1).toNatClampNeg q2)) (fun u3 => (bnd (sR u3 0 (upd (u3.1 0) ((1427 + (6 * (C.1 0 1426))) + 2).toNatClampNeg q3)) (fun u4 => (bnd (sR u4 0 (upd (u4.1 0) ((1427 + (6 * (C.1 0 1426))) + 3).toNatClampNeg q4)) (fun u5 => (bnd (sR u5 0 (upd (u5.1 0) ((1427 + (6 * (C.1 0 1426))) + 4).toNatClampNeg q5)) (fun u6 => (bnd (F_X7_of u6 q2 1) (fun r7 => (bnd (sR u6 0 (upd (u6.1 0) ((1427 + (6 * (C.1 0 1426))) + 5).toNatClampNeg r7)) (fun u9 => (bnd (sR u9 0 (upd (u9.1 0) 1426 ((u9.1 0 1426) + 1))) (fun u10 => (bnd (sR u10 0 (upd (u10.1 0) (1423 + q1).toNatClampNeg ((u10.1 0 (1423 + q1).toNatClampNeg) + 1))) (fun u11 => (if q1 = 2 then (bnd (sL u11 0 (u11.2.2 0 + (-q3.toInt64))) (fun u14 => u14)) else (bnd (sL u11 0 (u11.2.2 0 + q3.toInt64)) (fun u13 => u13)))))))))))))))))))))
def lgS (C : CS) (q1 q2 q3 q4 q5 : Int32) : Prop := (vp_in (1427 + (6 * (C.1 0 1426))) 1787 ∧ (bnd (sR C 0 (upd (C.1 0) (1427 + (6 * (C.1 0 1426))).toNatClampNeg q1)) (fun u2 => (vp_in ((1427 + (6 * (C.1 0 1426))) + 1) 1787 ∧ (bnd (sR u2 0 (upd (u2.1 0) ((1427 + (6 * (C.1 0 1426))) + 1).toNatClampNeg q2)) (fun u3 => (vp_in ((1427 + (6 * (C.1 0 1426))) + 2) 1787 ∧ (bnd (sR u3 0 (upd (u3.1 0) ((1427 + (6 * (C.1 0 1426))) + 2).toNatClampNeg q3)) (fun u4 => (vp_in ((1427 + (6 * (C.1 0 1426))) + 3) 1787 ∧ (bnd (sR u4 0 (upd (u4.1 0) ((1427 + (6 * (C.1 0 1426))) + 3).toNatClampNeg q4)) (fun u5 => (vp_in ((1427 + (6 * (C.1 0 1426))) + 4) 1787 ∧ (bnd (sR u5 0 (upd (u5.1 0) ((1427 + (6 * (C.1 0 1426))) + 4).toNatClampNeg q5)) (fun u6 => (S_X7_of u6 q2 1 ∧ (bnd (F_X7_of u6 q2 1) (fun r7 => (vp_in ((1427 + (6 * (C.1 0 1426))) + 5) 1787 ∧ (bnd (sR u6 0 (upd (u6.1 0) ((1427 + (6 * (C.1 0 1426))) + 5).toNatClampNeg r7)) (fun u9 => (bnd (sR u9 0 (upd (u9.1 0) 1426 ((u9.1 0 1426) + 1))) (fun u10 => (vp_in (1423 + q1) 1787 ∧ (vp_in (1423 + q1) 1787 ∧ True)))))))))))))))))))))))))
theorem pz_l0 {q : Nat} : (1427 + 6 * nI q : Int32) = nI (1427 + 6 * q) := by
  rw [show (1427 : Int32) = nI 1427 from rfl, show (6 : Int32) = nI 6 from rfl, pz_mul, nI_add]
theorem pz_kd2 {kd : Nat} (h : kd < 3) : nI kd = 2 ↔ kd = 2 := nI_eq (b := 2) (by omega) (by omega)
theorem lgT_eq (M : CS) (g : Nat → Int32) (B : Int64) {q kd b : Nat} (r f l : Int32) (hq : g 1426 = nI q) (h : q < 60) (hk : kd < 3) (hb : b < 100) : lgS (mG M g B) (nI kd) (nI b) r f l ∧ lgT (mG M g B) (nI kd) (nI b) r f l = mG M (lgG g q kd (nI b) r f l (mB g b 1)) (lgB B kd r) := by
  have e0 : (1427 + 6 * nI q : Int32) = nI (1427 + 6 * q) := pz_l0
  have e1 : (nI (1427 + 6 * q) + 1 : Int32) = nI (1427 + 6 * q + 1) := nI_add _ 1
  have e2 : (nI (1427 + 6 * q) + 2 : Int32) = nI (1427 + 6 * q + 2) := nI_add _ 2
  have e3 : (nI (1427 + 6 * q) + 3 : Int32) = nI (1427 + 6 * q + 3) := nI_add _ 3
  have e4 : (nI (1427 + 6 * q) + 4 : Int32) = nI (1427 + 6 * q + 4) := nI_add _ 4
  have e5 : (nI (1427 + 6 * q) + 5 : Int32) = nI (1427 + 6 * q + 5) := nI_add _ 5
  have e6 : (1423 + nI kd : Int32) = nI (1423 + kd) := nI_add 1423 _
  constructor
  · unfold lgS
    simp only [mG_g, mG_R, pz_bnd, hq, e0, e1, e2, e3, e4, e5, e6]
    exact ⟨pz_vin (by omega), pz_vin (by omega), pz_vin (by omega), pz_vin (by omega), pz_vin (by omega), pz_oS1 (by omega), pz_vin (by omega), pz_vin (by omega), pz_vin (by omega), trivial⟩
  · unfold lgT lgG lgB
    simp only [mG_g, mG_R, pz_bnd, hq, e0, e1, e2, e3, e4, e5, e6, nI_clamp (show 1427 + 6 * q < 2 ^ 31 by omega), nI_clamp (show 1427 + 6 * q + 1 < 2 ^ 31 by omega), nI_clamp (show 1427 + 6 * q + 2 < 2 ^ 31 by omega), nI_clamp (show 1427 + 6 * q + 3 < 2 ^ 31 by omega), nI_clamp (show 1427 + 6 * q + 4 < 2 ^ 31 by omega), nI_clamp (show 1427 + 6 * q + 5 < 2 ^ 31 by omega), nI_clamp (show 1423 + kd < 2 ^ 31 by omega), pz_of1 hb, mG_L, mG_B, pz_kd2 hk]
    have e7 : mB (upd (upd (upd (upd (upd g (1427 + 6 * q) (nI kd)) (1427 + 6 * q + 1) (nI b)) (1427 + 6 * q + 2) r) (1427 + 6 * q + 3) f) (1427 + 6 * q + 4) l) b 1 = mB g b 1 := by
      unfold mB
      rw [pz_updN (by omega), pz_updN (by omega), pz_updN (by omega), pz_updN (by omega), pz_updN (by omega)]
    have e8 : upd (upd (upd (upd (upd (upd g (1427 + 6 * q) (nI kd)) (1427 + 6 * q + 1) (nI b)) (1427 + 6 * q + 2) r) (1427 + 6 * q + 3) f) (1427 + 6 * q + 4) l) (1427 + 6 * q + 5) (mB g b 1) 1426 = nI q := by
      rw [pz_updN (by omega), pz_updN (by omega), pz_updN (by omega), pz_updN (by omega), pz_updN (by omega), pz_updN (by omega), hq]
    have e9 : upd (upd (upd (upd (upd (upd (upd g (1427 + 6 * q) (nI kd)) (1427 + 6 * q + 1) (nI b)) (1427 + 6 * q + 2) r) (1427 + 6 * q + 3) f) (1427 + 6 * q + 4) l) (1427 + 6 * q + 5) (mB g b 1)) 1426 (nI (q + 1)) (1423 + kd) = g (1423 + kd) := by
      rw [pz_updN (by omega), pz_updN (by omega), pz_updN (by omega), pz_updN (by omega), pz_updN (by omega), pz_updN (by omega), pz_updN (by omega)]
    rw [e7, e8, pz_s1, e9]
    by_cases c : kd = 2
    · rw [if_pos c, if_pos c]
    · rw [if_neg c, if_neg c]
/-- the log moves down by one entry -/
def shG (g : Nat → Int32) (i : Nat) : Nat → Int32 := fun x => if 1427 ≤ x ∧ x < 1427 + i then g (x + 6) else g x
theorem shG_0 (g : Nat → Int32) : shG g 0 = g := by
  funext x
  exact if_neg (by omega)
theorem shG_s (g : Nat → Int32) (i : Nat) : upd (shG g i) (1427 + i) (shG g i (1427 + i + 6)) = shG g (i + 1) := by
  funext x
  unfold upd shG
  by_cases c : x = 1427 + i
  · subst c
    rw [if_pos rfl, if_neg (by omega), if_pos (by omega)]
  · rw [if_neg c]
    by_cases c2 : 1427 ≤ x ∧ x < 1427 + i
    · rw [if_pos c2, if_pos (by omega)]
    · rw [if_neg c2, if_neg (by omega)]
theorem pz_logs (M : CS) (g : Nat → Int32) (B : Int64) {q kd b : Nat} (r f l : Int32) (hq : g 1426 = nI q) (h : q ≤ 60) (hk : kd < 3) (hb : b < 100) : S_X7_logs (mG M g B) (nI kd) (nI b) r f l ∧ F_X7_logs (mG M g B) (nI kd) (nI b) r f l = mG M (if q = 60 then lgG (upd (shG g 354) 1426 (nI 59)) 59 kd (nI b) r f l (mB g b 1) else lgG g q kd (nI b) r f l (mB g b 1)) (lgB B kd r) := by
  have c60 : nI q = 60 ↔ q = 60 := nI_eq (b := 60) (by omega) (by omega)
  by_cases c : q = 60
  · subst c
    have key : lpS (fun (z : Int32 × CS) => st_X7_logs_16 (nI kd) (nI b) r f l z.1 z.2) (fun (z : Int32 × CS) => Sst_X7_logs_16 (nI kd) (nI b) r f l z.1 z.2) (354 + 1) (0, mG M g B) ∧ lp (fun (z : Int32 × CS) => st_X7_logs_16 (nI kd) (nI b) r f l z.1 z.2) (mG M g B) (354 + 1) (0, mG M g B) = mG M (lgG (upd (shG g 354) 1426 (nI 59)) 59 kd (nI b) r f l (mB g b 1)) (lgB B kd r) := by
      refine pz_bo (fun i s => s = (nI i, mG M (shG g i) B)) (fun x => x = mG M (lgG (upd (shG g 354) 1426 (nI 59)) 59 kd (nI b) r f l (mB g b 1)) (lgB B kd r)) 354 (fun i s hi hs => ?_) (fun s hs => ?_) 354 0 (0, mG M g B) (by omega) (by rw [shG_0]; rfl)
      · subst hs
        show Sst_X7_logs_16 (nI kd) (nI b) r f l (nI i) (mG M (shG g i) B) ∧ ((∃ s', st_X7_logs_16 (nI kd) (nI b) r f l (nI i) (mG M (shG g i) B) = .inl s' ∧ _) ∨ _)
        unfold Sst_X7_logs_16 st_X7_logs_16
        have e1 : (1427 + nI i : Int32) = nI (1427 + i) := nI_add 1427 i
        have e2 : (nI (1427 + i) + 6 : Int32) = nI (1427 + i + 6) := nI_add _ 6
        have e3 : ¬ (354 : Int32) ≤ nI i := pz_ge (b := 354) hi (by omega)
        rw [if_neg e3, if_neg e3, e1, e2, nI_clamp (by omega), nI_clamp (by omega), mG_g, pz_bnd, mG_R, pz_s1]
        refine ⟨⟨pz_vin (by omega), pz_vin (by omega), trivial⟩, .inl ⟨_, rfl, ?_⟩⟩
        rw [shG_s]
      · subst hs
        show Sst_X7_logs_16 (nI kd) (nI b) r f l (nI 354) (mG M (shG g 354) B) ∧ ∃ x, st_X7_logs_16 (nI kd) (nI b) r f l (nI 354) (mG M (shG g 354) B) = .inr x ∧ _
        have e3 : (354 : Int32) ≤ nI 354 := pz_leR 354 (by omega)
        have e4 : shG g 354 1426 = nI 60 := (if_neg (by omega)).trans hq
        have e5 : (nI 60 - 1 : Int32) = nI 59 := nI_pred 59
        have e6 : mB (upd (shG g 354) 1426 (nI 59)) b 1 = mB g b 1 := by
          unfold mB
          rw [pz_updN (by omega)]
          exact if_neg (by omega)
        have e7 := lgT_eq M (upd (shG g 354) 1426 (nI 59)) B (q := 59) (kd := kd) (b := b) r f l (pz_updE _ _ _) (by omega) hk hb
        rw [e6] at e7
        unfold Sst_X7_logs_16 st_X7_logs_16
        rw [if_pos e3, if_pos e3]
        simp only [mG_g, e4, e5]
        rw [pz_bnd, pz_bnd, mG_R]
        refine ⟨e7.1, _, ?_, e7.2⟩
        unfold lgT
        simp only [pz_bnd]
        split <;> rfl
    unfold S_X7_logs F_X7_logs
    rw [mG_g, hq, if_pos (c60.mpr rfl), if_pos (c60.mpr rfl), if_pos rfl]
    exact key
  · unfold S_X7_logs F_X7_logs
    rw [mG_g, if_neg (by rw [hq, c60]; exact c), if_neg (by rw [hq, c60]; exact c), if_neg c]
    exact lgT_eq M g B r f l hq (by omega) hk hb
