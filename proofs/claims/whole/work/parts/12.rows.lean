theorem gy_X4_at : gY yX4_at RX4 cX4_at 2 (some .int) wsX4_at 1 := ⟨⟨_, rfl⟩, rfl, by decide +kernel, by decide +kernel, by decide +kernel⟩
theorem gy_X4_put : gY yX4_put RX4 cX4_put 3 none wsX4_put 2 := ⟨⟨_, rfl⟩, rfl, by decide +kernel, by decide +kernel, by decide +kernel⟩
theorem gy_X4_fillWith : gY yX4_fillWith RX4 cX4_fillWith 3 none wsX4_fillWith 1 := ⟨⟨_, rfl⟩, rfl, by decide +kernel, by decide +kernel, by decide +kernel⟩
theorem gy_X4_insert : gY yX4_insert RX4 cX4_insert 5 none wsX4_insert 3 := ⟨⟨_, rfl⟩, rfl, by decide +kernel, by decide +kernel, by decide +kernel⟩
theorem gy_X4_copyFrom : gY yX4_copyFrom RX4 cX4_copyFrom 3 none wsX4_copyFrom 1 := ⟨⟨_, rfl⟩, rfl, by decide +kernel, by decide +kernel, by decide +kernel⟩
def rAt (n : Nat) (f : Nat → Int32) (q1 : Int32) : Int32 := (if q1 < 0 then 0 else (if (nI n) ≤ q1 then 0 else (f q1.toNatClampNeg)))
abbrev rmX4_at : Room := { frames := 0, cells := 0, slots := 0, locals := 0 }
set_option maxHeartbeats 4000000 in
set_option maxRecDepth 100000 in
theorem c_X4_at (l : Launch) (D : va_G) (cy : Nat → ClassId) (w : va_W) (i j h a n : Nat) (hn : n < 2147483648) (f : Nat → Int32) (hi : w[i]? = some (h, .inr (6, [.ref a]))) (hj : w[j]? = some (a, .inl (cy 0, n, .inl f))) (q1 : Int32) : GMi l yX4_at wsX4_at rmX4_at D cy [.ref h, .int q1] (w) (fun (r : Int32) (_ : Unit) => r = rAt n f q1) (fun _ => w) := by
  refine GMi.intro cX4_at 2 RX4 (by decide) rfl rfl (Nat.le_of_ble_eq_true rfl) ?_
  intro p e s m args below meth c A Q ls X hret hl hw
  have hx := X.1
  have hb := X.2.1
  have hl : lv_has ls 2 [(0, .ref h), (1, .int q1)] := hl
  have inX4 : ∀ w ∈ wsX40, w ∈ wsX4_at := fun w h => List.mem_cons_of_mem _ (List.mem_append_left _ (List.mem_append_right _ h))
  obtain ⟨sp, hsp⟩ : ∃ sp, sp = rAt n f q1 := ⟨_, rfl⟩
  have hF := hsp.trans (rAt.eq_1 n f q1)
  refine lv_iload_n hx hb dX4_at_0 rfl (lv_at hl 1 rfl) ?_
  refine lv_if_lt (tgt := 22) hx hb dX4_at_1 (by decide) (fun c1 => ?_) (fun c1 => ?_)
  · skip
    have hF := hF.trans (if_pos c1)
    refine lv_iconst (v := 0) hx hb dX4_at_22 (by decide) ?_
    exact hret _ _ () _ _ _ dX4_at_23 (hF.symm.trans hsp) hw
  · skip
    have hF := hF.trans (if_neg c1)
    refine lv_iload_n hx hb dX4_at_4 rfl (lv_at hl 1 rfl) ?_
    refine lv_aload_n hx hb dX4_at_5 rfl (lv_at hl 0 rfl) ?_
    refine g_get (v := .ref a) (C := RX4) (T := TX4) (N := 1) (ci := 6) X inX4 hw i hi rfl 0 (by decide) (List.mem_of_getElem? (i := 1) rfl) rfl rfl dX4_at_6 ?_
    refine g_alen (v := (nI n)) X hw j hj rfl dX4_at_9 ?_
    refine lv_icmp_ge (tgt := 22) hx hb dX4_at_10 (by decide) (fun c2 => ?_) (fun c2 => ?_)
    · skip
      have hF := hF.trans (if_pos c2)
      refine lv_iconst (v := 0) hx hb dX4_at_22 (by decide) ?_
      exact hret _ _ () _ _ _ dX4_at_23 (hF.symm.trans hsp) hw
    · skip
      have hF := hF.trans (if_neg c2)
      refine lv_aload_n hx hb dX4_at_13 rfl (lv_at hl 0 rfl) ?_
      refine g_get (v := .ref a) (C := RX4) (T := TX4) (N := 1) (ci := 6) X inX4 hw i hi rfl 0 (by decide) (List.mem_of_getElem? (i := 1) rfl) rfl rfl dX4_at_14 ?_
      refine lv_iload_n hx hb dX4_at_17 rfl (lv_at hl 1 rfl) ?_
      refine g_iald X hw j hj (by first | exact gin (by assumption) (by assumption) (by assumption)) dX4_at_18 ?_
      refine lv_goto (tgt := 23) hx hb dX4_at_19 (by decide) ?_
      exact hret _ _ () _ _ _ dX4_at_23 (hF.symm.trans hsp) hw
def rPut (n : Nat) (f : Nat → Int32) (q1 : Int32) (q2 : Int32) : (Nat → Int32) := (if q1 < 0 then f else (if (nI n) ≤ q1 then f else (bnd ((upd (f) q1.toNatClampNeg q2)) (fun u3 => u3))))
abbrev rmX4_put : Room := { frames := 0, cells := 0, slots := 0, locals := 0 }
set_option maxHeartbeats 4000000 in
set_option maxRecDepth 100000 in
theorem c_X4_put (l : Launch) (D : va_G) (cy : Nat → ClassId) (RW : (Nat → Int32) → va_W) (i j h a n : Nat) (hn : n < 2147483648) (hR : ∀ f, (RW f)[i]? = some (h, .inr (6, [.ref a])) ∧ (RW f)[j]? = some (a, .inl (cy 0, n, .inl f)) ∧ ∀ g, (RW f).set j (a, .inl (cy 0, n, .inl g)) = RW g) (f : Nat → Int32) (q1 : Int32) (q2 : Int32) : GMv l yX4_put wsX4_put rmX4_put D cy [.ref h, .int q1, .int q2] (RW f) (fun (u : (Nat → Int32)) => u = rPut n f q1 q2) (fun u => RW u) := by
  refine GMv.intro cX4_put 3 RX4 (by decide) rfl rfl (Nat.le_of_ble_eq_true rfl) ?_
  intro p e s m args below meth c A Q ls X hret hl hw
  have hx := X.1
  have hb := X.2.1
  have hl : lv_has ls 3 [(0, .ref h), (1, .int q1), (2, .int q2)] := hl
  have inX4 : ∀ w ∈ wsX40, w ∈ wsX4_put := fun w h => List.mem_cons_of_mem _ (List.mem_append_left _ (List.mem_append_right _ h))
  obtain ⟨sp, hsp⟩ : ∃ sp, sp = rPut n f q1 q2 := ⟨_, rfl⟩
  have hF := hsp.trans (rPut.eq_1 n f q1 q2)
  refine lv_iload_n hx hb dX4_put_0 rfl (lv_at hl 1 rfl) ?_
  refine lv_if_lt (tgt := 20) hx hb dX4_put_1 (by decide) (fun c1 => ?_) (fun c1 => ?_)
  · skip
    have hF := hF.trans (if_pos c1)
    exact hret _ _ _ _ _ dX4_put_20 (hF.symm.trans hsp) hw
  · skip
    have hF := hF.trans (if_neg c1)
    refine lv_iload_n hx hb dX4_put_4 rfl (lv_at hl 1 rfl) ?_
    refine lv_aload_n hx hb dX4_put_5 rfl (lv_at hl 0 rfl) ?_
    refine g_get (v := .ref a) (C := RX4) (T := TX4) (N := 1) (ci := 6) X inX4 hw i (hR f).1 rfl 0 (by decide) (List.mem_of_getElem? (i := 1) rfl) rfl rfl dX4_put_6 ?_
    refine g_alen (v := (nI n)) X hw j (hR f).2.1 rfl dX4_put_9 ?_
    refine lv_icmp_ge (tgt := 20) hx hb dX4_put_10 (by decide) (fun c2 => ?_) (fun c2 => ?_)
    · skip
      have hF := hF.trans (if_pos c2)
      exact hret _ _ _ _ _ dX4_put_20 (hF.symm.trans hsp) hw
    · skip
      have hF := hF.trans (if_neg c2)
      refine lv_aload_n hx hb dX4_put_13 rfl (lv_at hl 0 rfl) ?_
      refine g_get (v := .ref a) (C := RX4) (T := TX4) (N := 1) (ci := 6) X inX4 hw i (hR f).1 rfl 0 (by decide) (List.mem_of_getElem? (i := 1) rfl) rfl rfl dX4_put_14 ?_
      refine lv_iload_n hx hb dX4_put_17 rfl (lv_at hl 1 rfl) ?_
      refine lv_iload_n hx hb dX4_put_18 rfl (lv_at hl 2 rfl) ?_
      refine g_iast (w' := RW ((upd (f) q1.toNatClampNeg q2))) X hw j (hR f).2.1 (by first | exact gin (by assumption) (by assumption) (by assumption)) ((hR f).2.2 _) dX4_put_19 (fun H locs hw => ?_)
      obtain ⟨u3, hu3⟩ : ∃ z, z = (upd (f) q1.toNatClampNeg q2) := ⟨_, rfl⟩
      rw [← hu3] at hw
      have hF := hF.trans (bnd_eq hu3)
      exact hret _ _ _ _ _ dX4_put_20 (hF.symm.trans hsp) hw
def st_X4_fillWith_2 (q1 : Int32) (n : Nat) (v1_2 : Int32) (w1 : (Nat → Int32)) : (Int32 × (Nat → Int32)) ⊕ (Nat → Int32) := (if (nI n) ≤ v1_2 then .inr (w1) else (bnd ((upd (w1) v1_2.toNatClampNeg q1)) (fun u3 => .inl ((v1_2 + 1), u3))))
def rFill (n : Nat) (f : Nat → Int32) (q1 : Int32) : (Nat → Int32) := lp (fun (z : Int32 × (Nat → Int32)) => st_X4_fillWith_2 q1 n z.1 z.2) f (((nI n).toInt - (0 : Int32).toInt).toNat + 1) (0, f)
abbrev rmX4_fillWith : Room := { frames := 0, cells := 0, slots := 0, locals := 0 }
set_option maxHeartbeats 4000000 in
set_option maxRecDepth 100000 in
theorem c_X4_fillWith (l : Launch) (D : va_G) (cy : Nat → ClassId) (RW : (Nat → Int32) → va_W) (i j h a n : Nat) (hn : n < 2147483648) (hR : ∀ f, (RW f)[i]? = some (h, .inr (6, [.ref a])) ∧ (RW f)[j]? = some (a, .inl (cy 0, n, .inl f)) ∧ ∀ g, (RW f).set j (a, .inl (cy 0, n, .inl g)) = RW g) (f : Nat → Int32) (q1 : Int32) : GMv l yX4_fillWith wsX4_fillWith rmX4_fillWith D cy [.ref h, .int q1] (RW f) (fun (u : (Nat → Int32)) => u = rFill n f q1) (fun u => RW u) := by
  refine GMv.intro cX4_fillWith 3 RX4 (by decide) rfl rfl (Nat.le_of_ble_eq_true rfl) ?_
  intro p e s m args below meth c A Q ls X hret hl hw
  have hx := X.1
  have hb := X.2.1
  have hl : lv_has ls 3 [(0, .ref h), (1, .int q1)] := hl
  have inX4 : ∀ w ∈ wsX40, w ∈ wsX4_fillWith := fun w h => List.mem_cons_of_mem _ (List.mem_append_left _ (List.mem_append_right _ h))
  obtain ⟨sp, hsp⟩ : ∃ sp, sp = rFill n f q1 := ⟨_, rfl⟩
  have hF := hsp.trans (rFill.eq_1 n f q1)
  refine lv_iconst (v := 0) hx hb dX4_fillWith_0 (by decide) ?_
  refine lv_istore_n (lv' := [(2, .int 0), (0, .ref h), (1, .int q1)]) hx hb dX4_fillWith_1 rfl hl (by decide) rfl (fun ls hl => ?_)
  have L1 : ∀ (n1 : Nat) (v1_2 : Int32) (w1 : (Nat → Int32)), sp = lp (fun (z : Int32 × (Nat → Int32)) => st_X4_fillWith_2 q1 n z.1 z.2) f n1 (v1_2, w1) → ((nI n).toInt - v1_2.toInt).toNat < n1 → ¬ v1_2 < 0 → ∀ (H : Heap) (locs : List Loc) (ls : Array Slot), lv_has ls 3 [(2, .int v1_2), (0, .ref h), (1, .int q1)] → gw D A s.heap (RW w1) H locs → W p l e rmX4_fillWith s m args below meth c H locs 0 0 Q (F0 m 2 ls []) := by
    intro n1
    induction n1 with
    | zero => intro v1_2 w1 hF hm1 hi1; exact absurd hm1 (Nat.not_lt_zero _)
    | succ n1 ih1 =>
      intro v1_2 w1 hF hm1 hi1 H locs ls hl hw
      have hT1 := st_X4_fillWith_2.eq_1 q1 n v1_2 w1
      refine lv_iload_n hx hb dX4_fillWith_2 rfl (lv_at hl 0 rfl) ?_
      refine lv_aload_n hx hb dX4_fillWith_3 rfl (lv_at hl 1 rfl) ?_
      refine g_get (v := .ref a) (C := RX4) (T := TX4) (N := 1) (ci := 6) X inX4 hw i (hR w1).1 rfl 0 (by decide) (List.mem_of_getElem? (i := 1) rfl) rfl rfl dX4_fillWith_4 ?_
      refine g_alen (v := (nI n)) X hw j (hR w1).2.1 rfl dX4_fillWith_7 ?_
      refine lv_icmp_ge (tgt := 24) hx hb dX4_fillWith_8 (by decide) (fun c2 => ?_) (fun c2 => ?_)
      · skip
        have hT1 := hT1.trans (if_pos c2)
        exact hret _ _ _ _ _ dX4_fillWith_24 ((hF.trans (lp_r hT1)).symm.trans hsp) hw
      · skip
        have hT1 := hT1.trans (if_neg c2)
        refine lv_aload_n hx hb dX4_fillWith_11 rfl (lv_at hl 1 rfl) ?_
        refine g_get (v := .ref a) (C := RX4) (T := TX4) (N := 1) (ci := 6) X inX4 hw i (hR w1).1 rfl 0 (by decide) (List.mem_of_getElem? (i := 1) rfl) rfl rfl dX4_fillWith_12 ?_
        refine lv_iload_n hx hb dX4_fillWith_15 rfl (lv_at hl 0 rfl) ?_
        refine lv_iload_n hx hb dX4_fillWith_16 rfl (lv_at hl 2 rfl) ?_
        refine g_iast (w' := RW ((upd (w1) v1_2.toNatClampNeg q1))) X hw j (hR w1).2.1 (by first | exact gin (by assumption) (by assumption) (by assumption)) ((hR w1).2.2 _) dX4_fillWith_17 (fun H locs hw => ?_)
        obtain ⟨u3, hu3⟩ : ∃ z, z = (upd (w1) v1_2.toNatClampNeg q1) := ⟨_, rfl⟩
        rw [← hu3] at hw
        have hT1 := hT1.trans (bnd_eq hu3)
        refine lv_iinc (v := (v1_2 + 1)) (lv' := [(2, .int (v1_2 + 1)), (0, .ref h), (1, .int q1)]) hx hb dX4_fillWith_18 hl (k := 0) rfl rfl (by decide) rfl (fun ls hl => ?_)
        refine lv_goto (tgt := 2) hx hb dX4_fillWith_21 (by decide) ?_
        exact ih1 (v1_2 + 1) u3 (hF.trans (lp_l hT1)) (Nat.lt_of_lt_of_le (by first | exact up_dec (by assumption) | (simp only [*]; exact up_dec (by assumption))) (Nat.le_of_lt_succ hm1)) (inv_up (by assumption) (by assumption)) _ _ ls (lv_sub hl [0, 1, 2] rfl) hw
  exact L1 _ 0 f hF (Nat.lt_succ_self _) (by decide) _ _ ls (lv_sub hl [0, 1, 2] rfl) hw
def st_X4_insert_13 (q1 : Int32) (q2 : Int32) (n : Nat) (v1_4 : Int32) (w1 : (Nat → Int32)) : (Int32 × (Nat → Int32)) ⊕ (Nat → Int32) := (if v1_4 ≤ q1 then (bnd (rPut n w1 q1 q2) (fun u4 => .inr (u4))) else (bnd (rAt n w1 (v1_4 - 1)) (fun r5 => (bnd (rPut n w1 v1_4 r5) (fun u8 => .inl ((v1_4 + (-1)), u8))))))
def rIns (n : Nat) (f : Nat → Int32) (q1 : Int32) (q2 : Int32) (q3 : Int32) : (Nat → Int32) := lp (fun (z : Int32 × (Nat → Int32)) => st_X4_insert_13 q1 q2 n z.1 z.2) f (((if ((nI n) - 1) < q3 then ((nI n) - 1) else q3).toInt - q1.toInt).toNat + 1) ((if ((nI n) - 1) < q3 then ((nI n) - 1) else q3), f)
abbrev rmX4_insert : Room := { frames := 1, cells := 0, slots := 0, locals := 22 }
set_option maxHeartbeats 4000000 in
set_option maxRecDepth 100000 in
theorem c_X4_insert (l : Launch) (D : va_G) (cy : Nat → ClassId) (RW : (Nat → Int32) → va_W) (i j h a n : Nat) (hn : n < 2147483648) (hR : ∀ f, (RW f)[i]? = some (h, .inr (6, [.ref a])) ∧ (RW f)[j]? = some (a, .inl (cy 0, n, .inl f)) ∧ ∀ g, (RW f).set j (a, .inl (cy 0, n, .inl g)) = RW g) (f : Nat → Int32) (q1 : Int32) (q2 : Int32) (q3 : Int32) : GMv l yX4_insert wsX4_insert rmX4_insert D cy [.ref h, .int q1, .int q2, .int q3] (RW f) (fun (u : (Nat → Int32)) => u = rIns n f q1 q2 q3) (fun u => RW u) := by
  refine GMv.intro cX4_insert 5 RX4 (by decide) rfl rfl (Nat.le_of_ble_eq_true rfl) ?_
  intro p e s m args below meth c A Q ls X hret hl hw
  have hx := X.1
  have hb := X.2.1
  have hl : lv_has ls 5 [(0, .ref h), (1, .int q1), (2, .int q2), (3, .int q3)] := hl
  have inX4 : ∀ w ∈ wsX40, w ∈ wsX4_insert := fun w h => List.mem_cons_of_mem _ (List.mem_append_left _ (List.mem_append_right _ h))
  obtain ⟨sp, hsp⟩ : ∃ sp, sp = rIns n f q1 q2 q3 := ⟨_, rfl⟩
  have hF := hsp.trans (rIns.eq_1 n f q1 q2 q3)
  refine lv_iload_n hx hb dX4_insert_0 rfl (lv_at hl 3 rfl) ?_
  refine lv_aload_n hx hb dX4_insert_1 rfl (lv_at hl 0 rfl) ?_
  refine g_get (v := .ref a) (C := RX4) (T := TX4) (N := 1) (ci := 6) X inX4 hw i (hR f).1 rfl 0 (by decide) (List.mem_of_getElem? (i := 1) rfl) rfl rfl dX4_insert_2 ?_
  refine g_alen (v := (nI n)) X hw j (hR f).2.1 rfl dX4_insert_5 ?_
  refine lv_iconst (v := 1) hx hb dX4_insert_6 (by decide) ?_
  refine lv_isub hx hb dX4_insert_7 ?_
  refine va_mmin hx hb (X.2.2.2.1.trans hl.1.symm) X.2.2.2.2.1 (X.2.2.2.2.2.1 _ (List.mem_of_getElem? (i := 2) rfl)) (X.2.2.2.2.2.1 _ (List.mem_of_getElem? (i := 3) rfl)) (X.2.2.2.2.2.1 _ (List.mem_of_getElem? (i := 4) rfl)) (X.2.2.2.2.2.1 _ (List.mem_of_getElem? (i := 5) rfl)) (Nat.le_of_ble_eq_true rfl) (Nat.le_of_ble_eq_true rfl) (Nat.zero_le _) (Nat.zero_le _) dX4_insert_8 ?_
  refine lv_istore (lv' := [(4, .int (if ((nI n) - 1) < q3 then ((nI n) - 1) else q3)), (0, .ref h), (1, .int q1), (2, .int q2), (3, .int q3)]) hx hb dX4_insert_11 hl (by decide) rfl (fun ls hl => ?_)
  have L1 : ∀ (n1 : Nat) (v1_4 : Int32) (w1 : (Nat → Int32)), sp = lp (fun (z : Int32 × (Nat → Int32)) => st_X4_insert_13 q1 q2 n z.1 z.2) f n1 (v1_4, w1) → (v1_4.toInt - q1.toInt).toNat < n1 → ∀ (H : Heap) (locs : List Loc) (ls : Array Slot), lv_has ls 5 [(4, .int v1_4), (0, .ref h), (1, .int q1), (2, .int q2), (3, .int q3)] → gw D A s.heap (RW w1) H locs → W p l e rmX4_insert s m args below meth c H locs 0 0 Q (F0 m 13 ls []) := by
    intro n1
    induction n1 with
    | zero => intro v1_4 w1 hF hm1; exact absurd hm1 (Nat.not_lt_zero _)
    | succ n1 ih1 =>
      intro v1_4 w1 hF hm1 H locs ls hl hw
      have hT1 := st_X4_insert_13.eq_1 q1 q2 n v1_4 w1
      refine lv_iload hx hb dX4_insert_13 (lv_at hl 0 rfl) ?_
      refine lv_iload_n hx hb dX4_insert_15 rfl (lv_at hl 2 rfl) ?_
      refine lv_icmp_le (tgt := 39) hx hb dX4_insert_16 (by decide) (fun c2 => ?_) (fun c2 => ?_)
      · skip
        have hT1 := hT1.trans (if_pos c2)
        refine lv_aload_n hx hb dX4_insert_39 rfl (lv_at hl 1 rfl) ?_
        refine lv_iload_n hx hb dX4_insert_40 rfl (lv_at hl 2 rfl) ?_
        refine lv_iload_n hx hb dX4_insert_41 rfl (lv_at hl 3 rfl) ?_
        refine gcV_v (rest := []) X (c_X4_put l D cy RW i j h a n hn hR w1 q1 q2) gy_X4_put gX4_insert_X4_put ⟨rfl, rfl, Nat.le_of_ble_eq_true rfl, Nat.le_of_ble_eq_true rfl⟩ i (hR w1).1 rfl rfl hl rfl (Nat.le_of_ble_eq_true rfl) dX4_insert_42 ⟨Nat.zero_le _, Nat.zero_le _⟩ hw (fun u4 H locs hu4 hw => ?_)
        have hu4 : u4 = rPut n w1 q1 q2 := hu4
        have hT1 := hT1.trans (bnd_eq hu4)
        exact hret _ _ _ _ _ dX4_insert_45 ((hF.trans (lp_r hT1)).symm.trans hsp) hw
      · skip
        have hT1 := hT1.trans (if_neg c2)
        refine lv_aload_n hx hb dX4_insert_19 rfl (lv_at hl 1 rfl) ?_
        refine lv_iload hx hb dX4_insert_20 (lv_at hl 0 rfl) ?_
        refine lv_aload_n hx hb dX4_insert_22 rfl (lv_at hl 1 rfl) ?_
        refine lv_iload hx hb dX4_insert_23 (lv_at hl 0 rfl) ?_
        refine lv_iconst (v := 1) hx hb dX4_insert_25 (by decide) ?_
        refine lv_isub hx hb dX4_insert_26 ?_
        refine gcV_i (rest := [.int v1_4, .ref h]) X (c_X4_at l D cy (RW w1) i j h a n hn w1 (hR w1).1 (hR w1).2.1 (v1_4 - 1)) gy_X4_at gX4_insert_X4_at ⟨rfl, rfl, Nat.le_of_ble_eq_true rfl, Nat.le_of_ble_eq_true rfl⟩ i (hR w1).1 rfl rfl hl rfl (Nat.le_of_ble_eq_true rfl) dX4_insert_27 ⟨Nat.zero_le _, Nat.zero_le _⟩ hw (fun r5 _ H locs hr5 hw => ?_)
        have hr5 : r5 = rAt n w1 (v1_4 - 1) := hr5
        have hT1 := hT1.trans (bnd_eq hr5)
        refine gcV_v (rest := []) X (c_X4_put l D cy RW i j h a n hn hR w1 v1_4 r5) gy_X4_put gX4_insert_X4_put ⟨rfl, rfl, Nat.le_of_ble_eq_true rfl, Nat.le_of_ble_eq_true rfl⟩ i (hR w1).1 rfl rfl hl rfl (Nat.le_of_ble_eq_true rfl) dX4_insert_30 ⟨Nat.zero_le _, Nat.zero_le _⟩ hw (fun u8 H locs hu8 hw => ?_)
        have hu8 : u8 = rPut n w1 v1_4 r5 := hu8
        have hT1 := hT1.trans (bnd_eq hu8)
        refine lv_iinc (v := (v1_4 + (-1))) (lv' := [(4, .int (v1_4 + (-1))), (0, .ref h), (1, .int q1), (2, .int q2), (3, .int q3)]) hx hb dX4_insert_33 hl (k := 0) rfl rfl (by decide) rfl (fun ls hl => ?_)
        refine lv_goto (tgt := 13) hx hb dX4_insert_36 (by decide) ?_
        exact ih1 (v1_4 + (-1)) u8 (hF.trans (lp_l hT1)) (Nat.lt_of_lt_of_le (by first | exact dn_dec (by assumption) | (simp only [*]; exact dn_dec (by assumption))) (Nat.le_of_lt_succ hm1)) _ _ ls (lv_sub hl [0, 1, 2, 3, 4] rfl) hw
  exact L1 _ (if ((nI n) - 1) < q3 then ((nI n) - 1) else q3) f hF (Nat.lt_succ_self _) _ _ ls (lv_sub hl [0, 1, 2, 3, 4] rfl) hw
def st_X4_copyFrom_2 (n : Nat) (n2 : Nat) (g : Nat → Int32) (v1_2 : Int32) (w1 : (Nat → Int32)) : (Int32 × (Nat → Int32)) ⊕ (Nat → Int32) := (if (nI n) ≤ v1_2 then .inr (w1) else (bnd (rAt n2 g v1_2) (fun r3 => (bnd ((upd (w1) v1_2.toNatClampNeg r3)) (fun u5 => .inl ((v1_2 + 1), u5))))))
def rCopy (n : Nat) (f : Nat → Int32) (n2 : Nat) (g : Nat → Int32) : (Nat → Int32) := lp (fun (z : Int32 × (Nat → Int32)) => st_X4_copyFrom_2 n n2 g z.1 z.2) f (((nI n).toInt - (0 : Int32).toInt).toNat + 1) (0, f)
abbrev rmX4_copyFrom : Room := { frames := 1, cells := 0, slots := 0, locals := 21 }
set_option maxHeartbeats 4000000 in
set_option maxRecDepth 100000 in
theorem c_X4_copyFrom (l : Launch) (D : va_G) (cy : Nat → ClassId) (RW : (Nat → Int32) → va_W) (i j h a n : Nat) (hn : n < 2147483648) (hR : ∀ f, (RW f)[i]? = some (h, .inr (6, [.ref a])) ∧ (RW f)[j]? = some (a, .inl (cy 0, n, .inl f)) ∧ ∀ g, (RW f).set j (a, .inl (cy 0, n, .inl g)) = RW g) (f : Nat → Int32) (i2 j2 h2 a2 n2 : Nat) (hn2 : n2 < 2147483648) (g : Nat → Int32) (hO : ∀ f, (RW f)[i2]? = some (h2, .inr (6, [.ref a2])) ∧ (RW f)[j2]? = some (a2, .inl (cy 0, n2, .inl g))) : GMv l yX4_copyFrom wsX4_copyFrom rmX4_copyFrom D cy [.ref h, .ref h2] (RW f) (fun (u : (Nat → Int32)) => u = rCopy n f n2 g) (fun u => RW u) := by
  refine GMv.intro cX4_copyFrom 3 RX4 (by decide) rfl rfl (Nat.le_of_ble_eq_true rfl) ?_
  intro p e s m args below meth c A Q ls X hret hl hw
  have hx := X.1
  have hb := X.2.1
  have hl : lv_has ls 3 [(0, .ref h), (1, .ref h2)] := hl
  have inX4 : ∀ w ∈ wsX40, w ∈ wsX4_copyFrom := fun w h => List.mem_cons_of_mem _ (List.mem_append_left _ (List.mem_append_right _ h))
  obtain ⟨sp, hsp⟩ : ∃ sp, sp = rCopy n f n2 g := ⟨_, rfl⟩
  have hF := hsp.trans (rCopy.eq_1 n f n2 g)
  refine lv_iconst (v := 0) hx hb dX4_copyFrom_0 (by decide) ?_
  refine lv_istore_n (lv' := [(2, .int 0), (0, .ref h), (1, .ref h2)]) hx hb dX4_copyFrom_1 rfl hl (by decide) rfl (fun ls hl => ?_)
  have L1 : ∀ (n1 : Nat) (v1_2 : Int32) (w1 : (Nat → Int32)), sp = lp (fun (z : Int32 × (Nat → Int32)) => st_X4_copyFrom_2 n n2 g z.1 z.2) f n1 (v1_2, w1) → ((nI n).toInt - v1_2.toInt).toNat < n1 → ¬ v1_2 < 0 → ∀ (H : Heap) (locs : List Loc) (ls : Array Slot), lv_has ls 3 [(2, .int v1_2), (0, .ref h), (1, .ref h2)] → gw D A s.heap (RW w1) H locs → W p l e rmX4_copyFrom s m args below meth c H locs 0 0 Q (F0 m 2 ls []) := by
    intro n1
    induction n1 with
    | zero => intro v1_2 w1 hF hm1 hi1; exact absurd hm1 (Nat.not_lt_zero _)
    | succ n1 ih1 =>
      intro v1_2 w1 hF hm1 hi1 H locs ls hl hw
      have hT1 := st_X4_copyFrom_2.eq_1 n n2 g v1_2 w1
      refine lv_iload_n hx hb dX4_copyFrom_2 rfl (lv_at hl 0 rfl) ?_
      refine lv_aload_n hx hb dX4_copyFrom_3 rfl (lv_at hl 1 rfl) ?_
      refine g_get (v := .ref a) (C := RX4) (T := TX4) (N := 1) (ci := 6) X inX4 hw i (hR w1).1 rfl 0 (by decide) (List.mem_of_getElem? (i := 1) rfl) rfl rfl dX4_copyFrom_4 ?_
      refine g_alen (v := (nI n)) X hw j (hR w1).2.1 rfl dX4_copyFrom_7 ?_
      refine lv_icmp_ge (tgt := 36) hx hb dX4_copyFrom_8 (by decide) (fun c2 => ?_) (fun c2 => ?_)
      · skip
        have hT1 := hT1.trans (if_pos c2)
        exact hret _ _ _ _ _ dX4_copyFrom_36 ((hF.trans (lp_r hT1)).symm.trans hsp) hw
      · skip
        have hT1 := hT1.trans (if_neg c2)
        refine lv_aload_n hx hb dX4_copyFrom_11 rfl (lv_at hl 1 rfl) ?_
        refine g_get (v := .ref a) (C := RX4) (T := TX4) (N := 1) (ci := 6) X inX4 hw i (hR w1).1 rfl 0 (by decide) (List.mem_of_getElem? (i := 1) rfl) rfl rfl dX4_copyFrom_12 ?_
        refine lv_iload_n hx hb dX4_copyFrom_15 rfl (lv_at hl 0 rfl) ?_
        refine lv_aload_n hx hb dX4_copyFrom_16 rfl (lv_at hl 2 rfl) ?_
        refine lv_ifnonnull (tgt := 24) hx hb dX4_copyFrom_17 (by decide) ?_
        refine lv_aload_n hx hb dX4_copyFrom_24 rfl (lv_at hl 2 rfl) ?_
        refine lv_iload_n hx hb dX4_copyFrom_25 rfl (lv_at hl 0 rfl) ?_
        refine gcV_i (rest := [.int v1_2, .ref a]) X (c_X4_at l D cy (RW w1) i2 j2 h2 a2 n2 hn2 g (hO w1).1 (hO w1).2 v1_2) gy_X4_at gX4_copyFrom_X4_at ⟨rfl, rfl, Nat.le_of_ble_eq_true rfl, Nat.le_of_ble_eq_true rfl⟩ i2 (hO w1).1 rfl rfl hl rfl (Nat.le_of_ble_eq_true rfl) dX4_copyFrom_26 ⟨Nat.zero_le _, Nat.zero_le _⟩ hw (fun r3 _ H locs hr3 hw => ?_)
        have hr3 : r3 = rAt n2 g v1_2 := hr3
        have hT1 := hT1.trans (bnd_eq hr3)
        refine g_iast (w' := RW ((upd (w1) v1_2.toNatClampNeg r3))) X hw j (hR w1).2.1 (by first | exact gin (by assumption) (by assumption) (by assumption)) ((hR w1).2.2 _) dX4_copyFrom_29 (fun H locs hw => ?_)
        obtain ⟨u5, hu5⟩ : ∃ z, z = (upd (w1) v1_2.toNatClampNeg r3) := ⟨_, rfl⟩
        rw [← hu5] at hw
        have hT1 := hT1.trans (bnd_eq hu5)
        refine lv_iinc (v := (v1_2 + 1)) (lv' := [(2, .int (v1_2 + 1)), (0, .ref h), (1, .ref h2)]) hx hb dX4_copyFrom_30 hl (k := 0) rfl rfl (by decide) rfl (fun ls hl => ?_)
        refine lv_goto (tgt := 2) hx hb dX4_copyFrom_33 (by decide) ?_
        exact ih1 (v1_2 + 1) u5 (hF.trans (lp_l hT1)) (Nat.lt_of_lt_of_le (by first | exact up_dec (by assumption) | (simp only [*]; exact up_dec (by assumption))) (Nat.le_of_lt_succ hm1)) (inv_up (by assumption) (by assumption)) _ _ ls (lv_sub hl [0, 1, 2] rfl) hw
  exact L1 _ 0 f hF (Nat.lt_succ_self _) (by decide) _ _ ls (lv_sub hl [0, 1, 2] rfl) hw
