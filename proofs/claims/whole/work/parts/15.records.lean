theorem gy_X3_startOf : gY yX3_startOf RX3 cX3_startOf 1 (some .int) wsX3_startOf 1 := ⟨⟨_, rfl⟩, rfl, by decide +kernel, by decide +kernel, by decide +kernel⟩
def F_X3_startOf (q1 : Int32) : Int32 := (if q1 = 1 then (-2147483648) else (if q1 = 2 then 2147483647 else 0))
abbrev rmX3_startOf : Room := { frames := 0, cells := 0, slots := 0, locals := 0 }
set_option maxHeartbeats 4000000 in
set_option maxRecDepth 100000 in
theorem c_X3_startOf (l : Launch) (D : va_G) (cy : Nat → ClassId) (w : va_W) (q1 : Int32) : GMi l yX3_startOf wsX3_startOf rmX3_startOf D cy [.int q1] (w) (fun (r : Int32) (_ : Unit) => r = F_X3_startOf q1) (fun _ => w) := by
  refine GMi.intro cX3_startOf 1 RX3 (by decide) rfl rfl (Nat.le_of_ble_eq_true rfl) ?_
  intro p e s m args below meth c A Q ls X hret hl hw
  have hx := X.1
  have hb := X.2.1
  have hl : lv_has ls 1 [(0, .int q1)] := hl
  obtain ⟨sp, hsp⟩ : ∃ sp, sp = F_X3_startOf q1 := ⟨_, rfl⟩
  have hF := hsp.trans (F_X3_startOf.eq_1 q1)
  refine lv_iload_n hx hb dX3_startOf_0 rfl (lv_at hl 0 rfl) ?_
  rcases Decidable.em (q1 = 1) with c1 | c1
  · skip
    have hF := hF.trans (if_pos c1)
    refine lv_lookup (off := 27) (tgt := 28) hx hb dX3_startOf_1 (by decide) (by rw [c1]; decide) (by decide) ?_
    refine lv_ldc (v := (-2147483648)) hx hb X.2.2.2.2.1 (X.2.2.2.2.2.1 _ (List.mem_of_getElem? (i := 1) rfl)) dX3_startOf_28 ?_
    exact hret _ _ () _ _ _ dX3_startOf_30 (hF.symm.trans hsp) hw
  · skip
    have hF := hF.trans (if_neg c1)
    rcases Decidable.em (q1 = 2) with c2 | c2
    · skip
      have hF := hF.trans (if_pos c2)
      refine lv_lookup (off := 30) (tgt := 31) hx hb dX3_startOf_1 (by decide) (by rw [c2]; decide) (by decide) ?_
      refine lv_ldc (v := 2147483647) hx hb X.2.2.2.2.1 (X.2.2.2.2.2.1 _ (List.mem_of_getElem? (i := 2) rfl)) dX3_startOf_31 ?_
      exact hret _ _ () _ _ _ dX3_startOf_33 (hF.symm.trans hsp) hw
    · skip
      have hF := hF.trans (if_neg c2)
      refine lv_lookup (off := 33) (tgt := 34) hx hb dX3_startOf_1 (by decide) ((lv_osw c1 rfl).trans ((lv_osw c2 rfl).trans (rfl))) (by decide) ?_
      refine lv_iconst (v := 0) hx hb dX3_startOf_34 (by decide) ?_
      exact hret _ _ () _ _ _ dX3_startOf_35 (hF.symm.trans hsp) hw
theorem gy_X3_foldOne : gY yX3_foldOne RX3 cX3_foldOne 3 (some .int) wsX3_foldOne 3 := ⟨⟨_, rfl⟩, rfl, by decide +kernel, by decide +kernel, by decide +kernel⟩
def F_X3_foldOne (q1 : Int32) (q2 : Int32) (q3 : Int32) : Int32 := (if q1 = 0 then (q2 + q3) else (if q1 = 1 then (if q2 < q3 then q3 else q2) else (if q1 = 2 then (if q3 < q2 then q3 else q2) else (q2 + 1))))
abbrev rmX3_foldOne : Room := { frames := 1, cells := 0, slots := 0, locals := 21 }
set_option maxHeartbeats 4000000 in
set_option maxRecDepth 100000 in
theorem c_X3_foldOne (l : Launch) (D : va_G) (cy : Nat → ClassId) (w : va_W) (q1 : Int32) (q2 : Int32) (q3 : Int32) : GMi l yX3_foldOne wsX3_foldOne rmX3_foldOne D cy [.int q1, .int q2, .int q3] (w) (fun (r : Int32) (_ : Unit) => r = F_X3_foldOne q1 q2 q3) (fun _ => w) := by
  refine GMi.intro cX3_foldOne 3 RX3 (by decide) rfl rfl (Nat.le_of_ble_eq_true rfl) ?_
  intro p e s m args below meth c A Q ls X hret hl hw
  have hx := X.1
  have hb := X.2.1
  have hl : lv_has ls 3 [(0, .int q1), (1, .int q2), (2, .int q3)] := hl
  obtain ⟨sp, hsp⟩ : ∃ sp, sp = F_X3_foldOne q1 q2 q3 := ⟨_, rfl⟩
  have hF := hsp.trans (F_X3_foldOne.eq_1 q1 q2 q3)
  refine lv_iload_n hx hb dX3_foldOne_0 rfl (lv_at hl 0 rfl) ?_
  rcases Decidable.em (q1 = 0) with c1 | c1
  · skip
    have hF := hF.trans (if_pos c1)
    refine lv_tableIn (off := 27) (tgt := 28) hx hb dX3_foldOne_1 (by rw [c1]; decide) (by rw [c1]; decide) (by rw [c1]; decide) (by decide) ?_
    refine lv_iload_n hx hb dX3_foldOne_28 rfl (lv_at hl 1 rfl) ?_
    refine lv_iload_n hx hb dX3_foldOne_29 rfl (lv_at hl 2 rfl) ?_
    refine lv_iadd hx hb dX3_foldOne_30 ?_
    exact hret _ _ () _ _ _ dX3_foldOne_31 (hF.symm.trans hsp) hw
  · skip
    have hF := hF.trans (if_neg c1)
    rcases Decidable.em (q1 = 1) with c2 | c2
    · skip
      have hF := hF.trans (if_pos c2)
      refine lv_tableIn (off := 31) (tgt := 32) hx hb dX3_foldOne_1 (by rw [c2]; decide) (by rw [c2]; decide) (by rw [c2]; decide) (by decide) ?_
      refine lv_iload_n hx hb dX3_foldOne_32 rfl (lv_at hl 1 rfl) ?_
      refine lv_iload_n hx hb dX3_foldOne_33 rfl (lv_at hl 2 rfl) ?_
      refine va_mmax hx hb (X.2.2.2.1.trans hl.1.symm) X.2.2.2.2.1 (X.2.2.2.2.2.1 _ (List.mem_of_getElem? (i := 1) rfl)) (X.2.2.2.2.2.1 _ (List.mem_of_getElem? (i := 2) rfl)) (X.2.2.2.2.2.1 _ (List.mem_of_getElem? (i := 3) rfl)) (X.2.2.2.2.2.1 _ (List.mem_of_getElem? (i := 4) rfl)) (Nat.le_of_ble_eq_true rfl) (Nat.le_of_ble_eq_true rfl) (Nat.zero_le _) (Nat.zero_le _) dX3_foldOne_34 ?_
      exact hret _ _ () _ _ _ dX3_foldOne_37 (hF.symm.trans hsp) hw
    · skip
      have hF := hF.trans (if_neg c2)
      rcases Decidable.em (q1 = 2) with c3 | c3
      · skip
        have hF := hF.trans (if_pos c3)
        refine lv_tableIn (off := 37) (tgt := 38) hx hb dX3_foldOne_1 (by rw [c3]; decide) (by rw [c3]; decide) (by rw [c3]; decide) (by decide) ?_
        refine lv_iload_n hx hb dX3_foldOne_38 rfl (lv_at hl 1 rfl) ?_
        refine lv_iload_n hx hb dX3_foldOne_39 rfl (lv_at hl 2 rfl) ?_
        refine va_mmin hx hb (X.2.2.2.1.trans hl.1.symm) X.2.2.2.2.1 (X.2.2.2.2.2.1 _ (List.mem_of_getElem? (i := 5) rfl)) (X.2.2.2.2.2.1 _ (List.mem_of_getElem? (i := 6) rfl)) (X.2.2.2.2.2.1 _ (List.mem_of_getElem? (i := 3) rfl)) (X.2.2.2.2.2.1 _ (List.mem_of_getElem? (i := 7) rfl)) (Nat.le_of_ble_eq_true rfl) (Nat.le_of_ble_eq_true rfl) (Nat.zero_le _) (Nat.zero_le _) dX3_foldOne_40 ?_
        exact hret _ _ () _ _ _ dX3_foldOne_43 (hF.symm.trans hsp) hw
      · skip
        have hF := hF.trans (if_neg c3)
        refine lv_tableOut (tgt := 44) hx hb dX3_foldOne_1 (by have := tI (z := 0) c1 rfl; have := tI (z := 1) c2 rfl; have := tI (z := 2) c3 rfl; omega) (by decide) ?_
        refine lv_iload_n hx hb dX3_foldOne_44 rfl (lv_at hl 1 rfl) ?_
        refine lv_iconst (v := 1) hx hb dX3_foldOne_45 (by decide) ?_
        refine lv_iadd hx hb dX3_foldOne_46 ?_
        exact hret _ _ () _ _ _ dX3_foldOne_47 (hF.symm.trans hsp) hw
theorem gy_X3_keep : gY yX3_keep RX3 cX3_keep 5 none wsX3_keep 3 := ⟨⟨_, rfl⟩, rfl, by decide +kernel, by decide +kernel, by decide +kernel⟩
def st_X3_keep_3 (q1 : Int32) (q2 : Int32) (q3 : Int32) (C : CS) (v1_4 : Int32) : (Int32) ⊕ CS := (if C.2.1 5 ≤ v1_4 then (bnd (sR C 2 (rIns 100 (C.1 2) v1_4 q1 (C.2.1 5))) (fun u4 => (bnd (sR u4 3 (rIns 100 (u4.1 3) v1_4 q2 (u4.2.1 5))) (fun u6 => (bnd (sR u6 4 (rIns 100 (u6.1 4) v1_4 q3 (u6.2.1 5))) (fun u8 => (bnd (sI u8 5 (u8.2.1 5 + 1)) (fun u9 => .inr (u9))))))))) else (bnd (rAt 100 (C.1 2) v1_4) (fun r10 => (if q1 < r10 then (bnd (sR C 2 (rIns 100 (C.1 2) v1_4 q1 (C.2.1 5))) (fun u14 => (bnd (sR u14 3 (rIns 100 (u14.1 3) v1_4 q2 (u14.2.1 5))) (fun u16 => (bnd (sR u16 4 (rIns 100 (u16.1 4) v1_4 q3 (u16.2.1 5))) (fun u18 => (bnd (sI u18 5 (u18.2.1 5 + 1)) (fun u19 => .inr (u19))))))))) else .inl (v1_4 + 1)))))
def F_X3_keep (C : CS) (q1 : Int32) (q2 : Int32) (q3 : Int32) : CS := lp (fun (z : Int32) => st_X3_keep_3 q1 q2 q3 C z) C (((C.2.1 5).toInt - (0 : Int32).toInt).toNat + 1) 0
abbrev rmX3_keep : Room := { frames := 2, cells := 0, slots := 0, locals := 46 }
set_option maxHeartbeats 4000000 in
set_option maxRecDepth 100000 in
theorem c_X3_keep (l : Launch) (D : va_G) (cy : Nat → ClassId) (ad : Nat → Nat) (rest : va_W) (C : CS) (q1 : Int32) (q2 : Int32) (q3 : Int32) : GMv l yX3_keep wsX3_keep rmX3_keep D cy [.ref (ad 94), .int q1, .int q2, .int q3] (CW cy ad C ++ rest) (fun (u : CS) => u = F_X3_keep C q1 q2 q3) (fun u => CW cy ad u ++ rest) := by
  refine GMv.intro cX3_keep 5 RX3 (by decide) rfl rfl (Nat.le_of_ble_eq_true rfl) ?_
  intro p e s m args below meth c A Q ls X hret hl hw
  have hx := X.1
  have hb := X.2.1
  have hl : lv_has ls 5 [(0, .ref (ad 94)), (1, .int q1), (2, .int q2), (3, .int q3)] := hl
  have inX3 : ∀ w ∈ wsX30, w ∈ wsX3_keep := fun w h => List.mem_cons_of_mem _ (List.mem_append_left _ (List.mem_append_left _ (List.mem_append_right _ h)))
  obtain ⟨sp, hsp⟩ : ∃ sp, sp = F_X3_keep C q1 q2 q3 := ⟨_, rfl⟩
  have hF := hsp.trans (F_X3_keep.eq_1 C q1 q2 q3)
  refine lv_iconst (v := 0) hx hb dX3_keep_0 (by decide) ?_
  refine lv_istore (lv' := [(4, .int 0), (0, .ref (ad 94)), (1, .int q1), (2, .int q2), (3, .int q3)]) hx hb dX3_keep_1 hl (by decide) rfl (fun ls hl => ?_)
  have L1 : ∀ (n1 : Nat) (v1_4 : Int32), sp = lp (fun (z : Int32) => st_X3_keep_3 q1 q2 q3 C z) C n1 v1_4 → ((C.2.1 5).toInt - v1_4.toInt).toNat < n1 → ∀ (H : Heap) (locs : List Loc) (ls : Array Slot), lv_has ls 5 [(4, .int v1_4), (0, .ref (ad 94)), (1, .int q1), (2, .int q2), (3, .int q3)] → gw D A s.heap (CW cy ad C ++ rest) H locs → W p l e rmX3_keep s m args below meth c H locs 0 0 Q (F0 m 3 ls []) := by
    intro n1
    induction n1 with
    | zero => intro v1_4 hF hm1; exact absurd hm1 (Nat.not_lt_zero _)
    | succ n1 ih1 =>
      intro v1_4 hF hm1 H locs ls hl hw
      have hT1 := st_X3_keep_3.eq_1 q1 q2 q3 C v1_4
      refine lv_iload hx hb dX3_keep_3 (lv_at hl 0 rfl) ?_
      refine lv_aload_n hx hb dX3_keep_5 rfl (lv_at hl 1 rfl) ?_
      refine g_get (v := .int (C.2.1 5)) (C := RX3) (T := TX3) (N := 4) (ci := 5) X inX3 hw 94 rfl rfl 3 (by decide) (List.mem_of_getElem? (i := 1) rfl) rfl rfl dX3_keep_6 ?_
      refine lv_icmp_ge (tgt := 31) hx hb dX3_keep_9 (by decide) (fun c2 => ?_) (fun c2 => ?_)
      · skip
        have hT1 := hT1.trans (if_pos c2)
        refine lv_aload_n hx hb dX3_keep_31 rfl (lv_at hl 1 rfl) ?_
        refine g_get (v := .ref (ad 4)) (C := RX3) (T := TX3) (N := 4) (ci := 5) X inX3 hw 94 rfl rfl 0 (by decide) (List.mem_of_getElem? (i := 2) rfl) rfl rfl dX3_keep_32 ?_
        refine lv_iload hx hb dX3_keep_35 (lv_at hl 0 rfl) ?_
        refine lv_iload_n hx hb dX3_keep_37 rfl (lv_at hl 2 rfl) ?_
        refine lv_aload_n hx hb dX3_keep_38 rfl (lv_at hl 1 rfl) ?_
        refine g_get (v := .int (C.2.1 5)) (C := RX3) (T := TX3) (N := 4) (ci := 5) X inX3 hw 94 rfl rfl 3 (by decide) (List.mem_of_getElem? (i := 1) rfl) rfl rfl dX3_keep_39 ?_
        refine gcV_v (rest := []) X (cR_insert l D cy ad rest C 2 (by decide) v1_4 q1 (C.2.1 5)) gy_X4_insert gX3_keep_X4_insert ⟨rfl, rfl, Nat.le_of_ble_eq_true rfl, Nat.le_of_ble_eq_true rfl⟩ 4 rfl rfl rfl hl rfl (Nat.le_of_ble_eq_true rfl) dX3_keep_42 ⟨Nat.zero_le _, Nat.zero_le _⟩ hw (fun u4 H locs hu4 hw => ?_)
        have hu4 : u4 = sR C 2 (rIns 100 (C.1 2) v1_4 q1 (C.2.1 5)) := hu4
        have hT1 := hT1.trans (bnd_eq hu4)
        refine lv_aload_n hx hb dX3_keep_45 rfl (lv_at hl 1 rfl) ?_
        refine g_get (v := .ref (ad 6)) (C := RX3) (T := TX3) (N := 4) (ci := 5) X inX3 hw 94 rfl rfl 1 (by decide) (List.mem_of_getElem? (i := 3) rfl) rfl rfl dX3_keep_46 ?_
        refine lv_iload hx hb dX3_keep_49 (lv_at hl 0 rfl) ?_
        refine lv_iload_n hx hb dX3_keep_51 rfl (lv_at hl 3 rfl) ?_
        refine lv_aload_n hx hb dX3_keep_52 rfl (lv_at hl 1 rfl) ?_
        refine g_get (v := .int (u4.2.1 5)) (C := RX3) (T := TX3) (N := 4) (ci := 5) X inX3 hw 94 rfl rfl 3 (by decide) (List.mem_of_getElem? (i := 1) rfl) rfl rfl dX3_keep_53 ?_
        refine gcV_v (rest := []) X (cR_insert l D cy ad rest u4 3 (by decide) v1_4 q2 (u4.2.1 5)) gy_X4_insert gX3_keep_X4_insert ⟨rfl, rfl, Nat.le_of_ble_eq_true rfl, Nat.le_of_ble_eq_true rfl⟩ 6 rfl rfl rfl hl rfl (Nat.le_of_ble_eq_true rfl) dX3_keep_56 ⟨Nat.zero_le _, Nat.zero_le _⟩ hw (fun u6 H locs hu6 hw => ?_)
        have hu6 : u6 = sR u4 3 (rIns 100 (u4.1 3) v1_4 q2 (u4.2.1 5)) := hu6
        have hT1 := hT1.trans (bnd_eq hu6)
        refine lv_aload_n hx hb dX3_keep_59 rfl (lv_at hl 1 rfl) ?_
        refine g_get (v := .ref (ad 8)) (C := RX3) (T := TX3) (N := 4) (ci := 5) X inX3 hw 94 rfl rfl 2 (by decide) (List.mem_of_getElem? (i := 4) rfl) rfl rfl dX3_keep_60 ?_
        refine lv_iload hx hb dX3_keep_63 (lv_at hl 0 rfl) ?_
        refine lv_iload_n hx hb dX3_keep_65 rfl (lv_at hl 4 rfl) ?_
        refine lv_aload_n hx hb dX3_keep_66 rfl (lv_at hl 1 rfl) ?_
        refine g_get (v := .int (u6.2.1 5)) (C := RX3) (T := TX3) (N := 4) (ci := 5) X inX3 hw 94 rfl rfl 3 (by decide) (List.mem_of_getElem? (i := 1) rfl) rfl rfl dX3_keep_67 ?_
        refine gcV_v (rest := []) X (cR_insert l D cy ad rest u6 4 (by decide) v1_4 q3 (u6.2.1 5)) gy_X4_insert gX3_keep_X4_insert ⟨rfl, rfl, Nat.le_of_ble_eq_true rfl, Nat.le_of_ble_eq_true rfl⟩ 8 rfl rfl rfl hl rfl (Nat.le_of_ble_eq_true rfl) dX3_keep_70 ⟨Nat.zero_le _, Nat.zero_le _⟩ hw (fun u8 H locs hu8 hw => ?_)
        have hu8 : u8 = sR u6 4 (rIns 100 (u6.1 4) v1_4 q3 (u6.2.1 5)) := hu8
        have hT1 := hT1.trans (bnd_eq hu8)
        refine lv_aload_n hx hb dX3_keep_73 rfl (lv_at hl 1 rfl) ?_
        refine lv_dup hx hb dX3_keep_74 rfl ?_
        refine g_get (v := .int (u8.2.1 5)) (C := RX3) (T := TX3) (N := 4) (ci := 5) X inX3 hw 94 rfl rfl 3 (by decide) (List.mem_of_getElem? (i := 1) rfl) rfl rfl dX3_keep_75 ?_
        refine lv_iconst (v := 1) hx hb dX3_keep_78 (by decide) ?_
        refine lv_iadd hx hb dX3_keep_79 ?_
        refine g_put (v := .int (u8.2.1 5 + 1)) (C := RX3) (T := TX3) (N := 4) (ci := 5) (w' := CW cy ad (sI u8 5 (u8.2.1 5 + 1)) ++ rest) X inX3 tyX3 tyX3_ok nmX3 hw 94 rfl rfl 3 (by decide) (List.mem_of_getElem? (i := 1) rfl) rfl rfl rfl rfl (Nat.le_of_ble_eq_true rfl) rfl dX3_keep_80 (fun H locs hw => ?_)
        obtain ⟨u9, hu9⟩ : ∃ z, z = sI u8 5 (u8.2.1 5 + 1) := ⟨_, rfl⟩
        rw [← hu9] at hw
        have hT1 := hT1.trans (bnd_eq hu9)
        exact hret _ _ _ _ _ dX3_keep_83 ((hF.trans (lp_r hT1)).symm.trans hsp) hw
      · skip
        have hT1 := hT1.trans (if_neg c2)
        refine lv_aload_n hx hb dX3_keep_12 rfl (lv_at hl 1 rfl) ?_
        refine g_get (v := .ref (ad 4)) (C := RX3) (T := TX3) (N := 4) (ci := 5) X inX3 hw 94 rfl rfl 0 (by decide) (List.mem_of_getElem? (i := 2) rfl) rfl rfl dX3_keep_13 ?_
        refine lv_iload hx hb dX3_keep_16 (lv_at hl 0 rfl) ?_
        refine gcV_i (rest := []) X (cR_at l D cy ad rest C 2 (by decide) v1_4) gy_X4_at gX3_keep_X4_at ⟨rfl, rfl, Nat.le_of_ble_eq_true rfl, Nat.le_of_ble_eq_true rfl⟩ 4 rfl rfl rfl hl rfl (Nat.le_of_ble_eq_true rfl) dX3_keep_18 ⟨Nat.zero_le _, Nat.zero_le _⟩ hw (fun r10 _ H locs hr10 hw => ?_)
        have hr10 : r10 = rAt 100 (C.1 2) v1_4 := hr10
        have hT1 := hT1.trans (bnd_eq hr10)
        refine lv_iload_n hx hb dX3_keep_21 rfl (lv_at hl 2 rfl) ?_
        refine lv_icmp_gt (tgt := 31) hx hb dX3_keep_22 (by decide) (fun c12 => ?_) (fun c12 => ?_)
        · skip
          have hT1 := hT1.trans (if_pos c12)
          refine lv_aload_n hx hb dX3_keep_31 rfl (lv_at hl 1 rfl) ?_
          refine g_get (v := .ref (ad 4)) (C := RX3) (T := TX3) (N := 4) (ci := 5) X inX3 hw 94 rfl rfl 0 (by decide) (List.mem_of_getElem? (i := 2) rfl) rfl rfl dX3_keep_32 ?_
          refine lv_iload hx hb dX3_keep_35 (lv_at hl 0 rfl) ?_
          refine lv_iload_n hx hb dX3_keep_37 rfl (lv_at hl 2 rfl) ?_
          refine lv_aload_n hx hb dX3_keep_38 rfl (lv_at hl 1 rfl) ?_
          refine g_get (v := .int (C.2.1 5)) (C := RX3) (T := TX3) (N := 4) (ci := 5) X inX3 hw 94 rfl rfl 3 (by decide) (List.mem_of_getElem? (i := 1) rfl) rfl rfl dX3_keep_39 ?_
          refine gcV_v (rest := []) X (cR_insert l D cy ad rest C 2 (by decide) v1_4 q1 (C.2.1 5)) gy_X4_insert gX3_keep_X4_insert ⟨rfl, rfl, Nat.le_of_ble_eq_true rfl, Nat.le_of_ble_eq_true rfl⟩ 4 rfl rfl rfl hl rfl (Nat.le_of_ble_eq_true rfl) dX3_keep_42 ⟨Nat.zero_le _, Nat.zero_le _⟩ hw (fun u14 H locs hu14 hw => ?_)
          have hu14 : u14 = sR C 2 (rIns 100 (C.1 2) v1_4 q1 (C.2.1 5)) := hu14
          have hT1 := hT1.trans (bnd_eq hu14)
          refine lv_aload_n hx hb dX3_keep_45 rfl (lv_at hl 1 rfl) ?_
          refine g_get (v := .ref (ad 6)) (C := RX3) (T := TX3) (N := 4) (ci := 5) X inX3 hw 94 rfl rfl 1 (by decide) (List.mem_of_getElem? (i := 3) rfl) rfl rfl dX3_keep_46 ?_
          refine lv_iload hx hb dX3_keep_49 (lv_at hl 0 rfl) ?_
          refine lv_iload_n hx hb dX3_keep_51 rfl (lv_at hl 3 rfl) ?_
          refine lv_aload_n hx hb dX3_keep_52 rfl (lv_at hl 1 rfl) ?_
          refine g_get (v := .int (u14.2.1 5)) (C := RX3) (T := TX3) (N := 4) (ci := 5) X inX3 hw 94 rfl rfl 3 (by decide) (List.mem_of_getElem? (i := 1) rfl) rfl rfl dX3_keep_53 ?_
          refine gcV_v (rest := []) X (cR_insert l D cy ad rest u14 3 (by decide) v1_4 q2 (u14.2.1 5)) gy_X4_insert gX3_keep_X4_insert ⟨rfl, rfl, Nat.le_of_ble_eq_true rfl, Nat.le_of_ble_eq_true rfl⟩ 6 rfl rfl rfl hl rfl (Nat.le_of_ble_eq_true rfl) dX3_keep_56 ⟨Nat.zero_le _, Nat.zero_le _⟩ hw (fun u16 H locs hu16 hw => ?_)
          have hu16 : u16 = sR u14 3 (rIns 100 (u14.1 3) v1_4 q2 (u14.2.1 5)) := hu16
          have hT1 := hT1.trans (bnd_eq hu16)
          refine lv_aload_n hx hb dX3_keep_59 rfl (lv_at hl 1 rfl) ?_
          refine g_get (v := .ref (ad 8)) (C := RX3) (T := TX3) (N := 4) (ci := 5) X inX3 hw 94 rfl rfl 2 (by decide) (List.mem_of_getElem? (i := 4) rfl) rfl rfl dX3_keep_60 ?_
          refine lv_iload hx hb dX3_keep_63 (lv_at hl 0 rfl) ?_
          refine lv_iload_n hx hb dX3_keep_65 rfl (lv_at hl 4 rfl) ?_
          refine lv_aload_n hx hb dX3_keep_66 rfl (lv_at hl 1 rfl) ?_
          refine g_get (v := .int (u16.2.1 5)) (C := RX3) (T := TX3) (N := 4) (ci := 5) X inX3 hw 94 rfl rfl 3 (by decide) (List.mem_of_getElem? (i := 1) rfl) rfl rfl dX3_keep_67 ?_
          refine gcV_v (rest := []) X (cR_insert l D cy ad rest u16 4 (by decide) v1_4 q3 (u16.2.1 5)) gy_X4_insert gX3_keep_X4_insert ⟨rfl, rfl, Nat.le_of_ble_eq_true rfl, Nat.le_of_ble_eq_true rfl⟩ 8 rfl rfl rfl hl rfl (Nat.le_of_ble_eq_true rfl) dX3_keep_70 ⟨Nat.zero_le _, Nat.zero_le _⟩ hw (fun u18 H locs hu18 hw => ?_)
          have hu18 : u18 = sR u16 4 (rIns 100 (u16.1 4) v1_4 q3 (u16.2.1 5)) := hu18
          have hT1 := hT1.trans (bnd_eq hu18)
          refine lv_aload_n hx hb dX3_keep_73 rfl (lv_at hl 1 rfl) ?_
          refine lv_dup hx hb dX3_keep_74 rfl ?_
          refine g_get (v := .int (u18.2.1 5)) (C := RX3) (T := TX3) (N := 4) (ci := 5) X inX3 hw 94 rfl rfl 3 (by decide) (List.mem_of_getElem? (i := 1) rfl) rfl rfl dX3_keep_75 ?_
          refine lv_iconst (v := 1) hx hb dX3_keep_78 (by decide) ?_
          refine lv_iadd hx hb dX3_keep_79 ?_
          refine g_put (v := .int (u18.2.1 5 + 1)) (C := RX3) (T := TX3) (N := 4) (ci := 5) (w' := CW cy ad (sI u18 5 (u18.2.1 5 + 1)) ++ rest) X inX3 tyX3 tyX3_ok nmX3 hw 94 rfl rfl 3 (by decide) (List.mem_of_getElem? (i := 1) rfl) rfl rfl rfl rfl (Nat.le_of_ble_eq_true rfl) rfl dX3_keep_80 (fun H locs hw => ?_)
          obtain ⟨u19, hu19⟩ : ∃ z, z = sI u18 5 (u18.2.1 5 + 1) := ⟨_, rfl⟩
          rw [← hu19] at hw
          have hT1 := hT1.trans (bnd_eq hu19)
          exact hret _ _ _ _ _ dX3_keep_83 ((hF.trans (lp_r hT1)).symm.trans hsp) hw
        · skip
          have hT1 := hT1.trans (if_neg c12)
          refine lv_iinc (v := (v1_4 + 1)) (lv' := [(4, .int (v1_4 + 1)), (0, .ref (ad 94)), (1, .int q1), (2, .int q2), (3, .int q3)]) hx hb dX3_keep_25 hl (k := 0) rfl rfl (by decide) rfl (fun ls hl => ?_)
          refine lv_goto (tgt := 3) hx hb dX3_keep_28 (by decide) ?_
          exact ih1 (v1_4 + 1) (hF.trans (lp_l hT1)) (Nat.lt_of_lt_of_le (by first | exact up_dec (by assumption) | (simp only [*]; exact up_dec (by assumption))) (Nat.le_of_lt_succ hm1)) _ _ ls (lv_sub hl [0, 1, 2, 3, 4] rfl) hw
  exact L1 _ 0 hF (Nat.lt_succ_self _) _ _ ls (lv_sub hl [0, 1, 2, 3, 4] rfl) hw
theorem gy_X3_moveAll : gY yX3_moveAll RX3 cX3_moveAll 4 none wsX3_moveAll 2 := ⟨⟨_, rfl⟩, rfl, by decide +kernel, by decide +kernel, by decide +kernel⟩
def st_X3_moveAll_2 (q1 : Int32) (q2 : Int32) (v1_3 : Int32) (w1 : CS) : (Int32 × CS) ⊕ CS := (if w1.2.1 5 ≤ v1_3 then .inr (w1) else (bnd (rAt 100 (w1.1 4) v1_3) (fun r3 => (if r3 = q1 then (bnd (sR w1 4 (rPut 100 (w1.1 4) v1_3 q2)) (fun u7 => .inl ((v1_3 + 1), u7))) else .inl ((v1_3 + 1), w1)))))
def F_X3_moveAll (C : CS) (q1 : Int32) (q2 : Int32) : CS := lp (fun (z : Int32 × CS) => st_X3_moveAll_2 q1 q2 z.1 z.2) C (((C.2.1 5).toInt - (0 : Int32).toInt).toNat + 1) (0, C)
abbrev rmX3_moveAll : Room := { frames := 1, cells := 0, slots := 0, locals := 22 }
set_option maxHeartbeats 4000000 in
set_option maxRecDepth 100000 in
theorem c_X3_moveAll (l : Launch) (D : va_G) (cy : Nat → ClassId) (ad : Nat → Nat) (rest : va_W) (C : CS) (q1 : Int32) (q2 : Int32) : GMv l yX3_moveAll wsX3_moveAll rmX3_moveAll D cy [.ref (ad 94), .int q1, .int q2] (CW cy ad C ++ rest) (fun (u : CS) => u = F_X3_moveAll C q1 q2) (fun u => CW cy ad u ++ rest) := by
  refine GMv.intro cX3_moveAll 4 RX3 (by decide) rfl rfl (Nat.le_of_ble_eq_true rfl) ?_
  intro p e s m args below meth c A Q ls X hret hl hw
  have hx := X.1
  have hb := X.2.1
  have hl : lv_has ls 4 [(0, .ref (ad 94)), (1, .int q1), (2, .int q2)] := hl
  have inX3 : ∀ w ∈ wsX30, w ∈ wsX3_moveAll := fun w h => List.mem_cons_of_mem _ (List.mem_append_left _ (List.mem_append_left _ (List.mem_append_right _ h)))
  obtain ⟨sp, hsp⟩ : ∃ sp, sp = F_X3_moveAll C q1 q2 := ⟨_, rfl⟩
  have hF := hsp.trans (F_X3_moveAll.eq_1 C q1 q2)
  refine lv_iconst (v := 0) hx hb dX3_moveAll_0 (by decide) ?_
  refine lv_istore_n (lv' := [(3, .int 0), (0, .ref (ad 94)), (1, .int q1), (2, .int q2)]) hx hb dX3_moveAll_1 rfl hl (by decide) rfl (fun ls hl => ?_)
  have L1 : ∀ (n1 : Nat) (v1_3 : Int32) (w1 : CS), sp = lp (fun (z : Int32 × CS) => st_X3_moveAll_2 q1 q2 z.1 z.2) C n1 (v1_3, w1) → ((w1.2.1 5).toInt - v1_3.toInt).toNat < n1 → ∀ (H : Heap) (locs : List Loc) (ls : Array Slot), lv_has ls 4 [(3, .int v1_3), (0, .ref (ad 94)), (1, .int q1), (2, .int q2)] → gw D A s.heap (CW cy ad w1 ++ rest) H locs → W p l e rmX3_moveAll s m args below meth c H locs 0 0 Q (F0 m 2 ls []) := by
    intro n1
    induction n1 with
    | zero => intro v1_3 w1 hF hm1; exact absurd hm1 (Nat.not_lt_zero _)
    | succ n1 ih1 =>
      intro v1_3 w1 hF hm1 H locs ls hl hw
      have hT1 := st_X3_moveAll_2.eq_1 q1 q2 v1_3 w1
      refine lv_iload_n hx hb dX3_moveAll_2 rfl (lv_at hl 0 rfl) ?_
      refine lv_aload_n hx hb dX3_moveAll_3 rfl (lv_at hl 1 rfl) ?_
      refine g_get (v := .int (w1.2.1 5)) (C := RX3) (T := TX3) (N := 4) (ci := 5) X inX3 hw 94 rfl rfl 3 (by decide) (List.mem_of_getElem? (i := 1) rfl) rfl rfl dX3_moveAll_4 ?_
      refine lv_icmp_ge (tgt := 37) hx hb dX3_moveAll_7 (by decide) (fun c2 => ?_) (fun c2 => ?_)
      · skip
        have hT1 := hT1.trans (if_pos c2)
        exact hret _ _ _ _ _ dX3_moveAll_37 ((hF.trans (lp_r hT1)).symm.trans hsp) hw
      · skip
        have hT1 := hT1.trans (if_neg c2)
        refine lv_aload_n hx hb dX3_moveAll_10 rfl (lv_at hl 1 rfl) ?_
        refine g_get (v := .ref (ad 8)) (C := RX3) (T := TX3) (N := 4) (ci := 5) X inX3 hw 94 rfl rfl 2 (by decide) (List.mem_of_getElem? (i := 2) rfl) rfl rfl dX3_moveAll_11 ?_
        refine lv_iload_n hx hb dX3_moveAll_14 rfl (lv_at hl 0 rfl) ?_
        refine gcV_i (rest := []) X (cR_at l D cy ad rest w1 4 (by decide) v1_3) gy_X4_at gX3_moveAll_X4_at ⟨rfl, rfl, Nat.le_of_ble_eq_true rfl, Nat.le_of_ble_eq_true rfl⟩ 8 rfl rfl rfl hl rfl (Nat.le_of_ble_eq_true rfl) dX3_moveAll_15 ⟨Nat.zero_le _, Nat.zero_le _⟩ hw (fun r3 _ H locs hr3 hw => ?_)
        have hr3 : r3 = rAt 100 (w1.1 4) v1_3 := hr3
        have hT1 := hT1.trans (bnd_eq hr3)
        refine lv_iload_n hx hb dX3_moveAll_18 rfl (lv_at hl 2 rfl) ?_
        refine lv_icmp_ne (tgt := 31) hx hb dX3_moveAll_19 (by decide) (fun c5 => ?_) (fun c5 => ?_)
        · skip
          have hT1 := hT1.trans (if_neg c5)
          refine lv_iinc (v := (v1_3 + 1)) (lv' := [(3, .int (v1_3 + 1)), (0, .ref (ad 94)), (1, .int q1), (2, .int q2)]) hx hb dX3_moveAll_31 hl (k := 0) rfl rfl (by decide) rfl (fun ls hl => ?_)
          refine lv_goto (tgt := 2) hx hb dX3_moveAll_34 (by decide) ?_
          exact ih1 (v1_3 + 1) w1 (hF.trans (lp_l hT1)) (Nat.lt_of_lt_of_le (by first | exact up_dec (by assumption) | (simp only [*]; exact up_dec (by assumption))) (Nat.le_of_lt_succ hm1)) _ _ ls (lv_sub hl [0, 1, 2, 3] rfl) hw
        · skip
          have hT1 := hT1.trans (if_pos c5)
          refine lv_aload_n hx hb dX3_moveAll_22 rfl (lv_at hl 1 rfl) ?_
          refine g_get (v := .ref (ad 8)) (C := RX3) (T := TX3) (N := 4) (ci := 5) X inX3 hw 94 rfl rfl 2 (by decide) (List.mem_of_getElem? (i := 2) rfl) rfl rfl dX3_moveAll_23 ?_
          refine lv_iload_n hx hb dX3_moveAll_26 rfl (lv_at hl 0 rfl) ?_
          refine lv_iload_n hx hb dX3_moveAll_27 rfl (lv_at hl 3 rfl) ?_
          refine gcV_v (rest := []) X (cR_put l D cy ad rest w1 4 (by decide) v1_3 q2) gy_X4_put gX3_moveAll_X4_put ⟨rfl, rfl, Nat.le_of_ble_eq_true rfl, Nat.le_of_ble_eq_true rfl⟩ 8 rfl rfl rfl hl rfl (Nat.le_of_ble_eq_true rfl) dX3_moveAll_28 ⟨Nat.zero_le _, Nat.zero_le _⟩ hw (fun u7 H locs hu7 hw => ?_)
          have hu7 : u7 = sR w1 4 (rPut 100 (w1.1 4) v1_3 q2) := hu7
          have hT1 := hT1.trans (bnd_eq hu7)
          refine lv_iinc (v := (v1_3 + 1)) (lv' := [(3, .int (v1_3 + 1)), (0, .ref (ad 94)), (1, .int q1), (2, .int q2)]) hx hb dX3_moveAll_31 hl (k := 0) rfl rfl (by decide) rfl (fun ls hl => ?_)
          refine lv_goto (tgt := 2) hx hb dX3_moveAll_34 (by decide) ?_
          exact ih1 (v1_3 + 1) u7 (hF.trans (lp_l hT1)) (Nat.lt_of_lt_of_le (by first | exact up_dec (by assumption) | (simp only [*]; exact up_dec (by assumption))) (Nat.le_of_lt_succ hm1)) _ _ ls (lv_sub hl [0, 1, 2, 3] rfl) hw
  exact L1 _ 0 C hF (Nat.lt_succ_self _) _ _ ls (lv_sub hl [0, 1, 2, 3] rfl) hw
theorem gy_X3_countOf : gY yX3_countOf RX3 cX3_countOf 4 (some .int) wsX3_countOf 1 := ⟨⟨_, rfl⟩, rfl, by decide +kernel, by decide +kernel, by decide +kernel⟩
def st_X3_countOf_4 (q1 : Int32) (C : CS) (v1_3 : Int32) (v1_2 : Int32) : (Int32 × Int32) ⊕ Int32 := (if C.2.1 5 ≤ v1_3 then .inr (v1_2) else (bnd (rAt 100 (C.1 4) v1_3) (fun r3 => (if r3 = q1 then .inl ((v1_3 + 1), (v1_2 + 1)) else .inl ((v1_3 + 1), v1_2)))))
def F_X3_countOf (C : CS) (q1 : Int32) : Int32 := lp (fun (z : Int32 × Int32) => st_X3_countOf_4 q1 C z.1 z.2) 0 (((C.2.1 5).toInt - (0 : Int32).toInt).toNat + 1) (0, 0)
abbrev rmX3_countOf : Room := { frames := 1, cells := 0, slots := 0, locals := 21 }
set_option maxHeartbeats 4000000 in
set_option maxRecDepth 100000 in
theorem c_X3_countOf (l : Launch) (D : va_G) (cy : Nat → ClassId) (ad : Nat → Nat) (rest : va_W) (C : CS) (q1 : Int32) : GMi l yX3_countOf wsX3_countOf rmX3_countOf D cy [.ref (ad 94), .int q1] (CW cy ad C ++ rest) (fun (r : Int32) (_ : Unit) => r = F_X3_countOf C q1) (fun _ => CW cy ad C ++ rest) := by
  refine GMi.intro cX3_countOf 4 RX3 (by decide) rfl rfl (Nat.le_of_ble_eq_true rfl) ?_
  intro p e s m args below meth c A Q ls X hret hl hw
  have hx := X.1
  have hb := X.2.1
  have hl : lv_has ls 4 [(0, .ref (ad 94)), (1, .int q1)] := hl
  have inX3 : ∀ w ∈ wsX30, w ∈ wsX3_countOf := fun w h => List.mem_cons_of_mem _ (List.mem_append_left _ (List.mem_append_left _ (List.mem_append_right _ h)))
  obtain ⟨sp, hsp⟩ : ∃ sp, sp = F_X3_countOf C q1 := ⟨_, rfl⟩
  have hF := hsp.trans (F_X3_countOf.eq_1 C q1)
  refine lv_iconst (v := 0) hx hb dX3_countOf_0 (by decide) ?_
  refine lv_istore_n (lv' := [(2, .int 0), (0, .ref (ad 94)), (1, .int q1)]) hx hb dX3_countOf_1 rfl hl (by decide) rfl (fun ls hl => ?_)
  refine lv_iconst (v := 0) hx hb dX3_countOf_2 (by decide) ?_
  refine lv_istore_n (lv' := [(3, .int 0), (2, .int 0), (0, .ref (ad 94)), (1, .int q1)]) hx hb dX3_countOf_3 rfl hl (by decide) rfl (fun ls hl => ?_)
  have L1 : ∀ (n1 : Nat) (v1_3 : Int32) (v1_2 : Int32), sp = lp (fun (z : Int32 × Int32) => st_X3_countOf_4 q1 C z.1 z.2) 0 n1 (v1_3, v1_2) → ((C.2.1 5).toInt - v1_3.toInt).toNat < n1 → ∀ (H : Heap) (locs : List Loc) (ls : Array Slot), lv_has ls 4 [(3, .int v1_3), (2, .int v1_2), (0, .ref (ad 94)), (1, .int q1)] → gw D A s.heap (CW cy ad C ++ rest) H locs → W p l e rmX3_countOf s m args below meth c H locs 0 0 Q (F0 m 4 ls []) := by
    intro n1
    induction n1 with
    | zero => intro v1_3 v1_2 hF hm1; exact absurd hm1 (Nat.not_lt_zero _)
    | succ n1 ih1 =>
      intro v1_3 v1_2 hF hm1 H locs ls hl hw
      have hT1 := st_X3_countOf_4.eq_1 q1 C v1_3 v1_2
      refine lv_iload_n hx hb dX3_countOf_4 rfl (lv_at hl 0 rfl) ?_
      refine lv_aload_n hx hb dX3_countOf_5 rfl (lv_at hl 2 rfl) ?_
      refine g_get (v := .int (C.2.1 5)) (C := RX3) (T := TX3) (N := 4) (ci := 5) X inX3 hw 94 rfl rfl 3 (by decide) (List.mem_of_getElem? (i := 1) rfl) rfl rfl dX3_countOf_6 ?_
      refine lv_icmp_ge (tgt := 33) hx hb dX3_countOf_9 (by decide) (fun c2 => ?_) (fun c2 => ?_)
      · skip
        have hT1 := hT1.trans (if_pos c2)
        refine lv_iload_n hx hb dX3_countOf_33 rfl (lv_at hl 1 rfl) ?_
        exact hret _ _ () _ _ _ dX3_countOf_34 ((hF.trans (lp_r hT1)).symm.trans hsp) hw
      · skip
        have hT1 := hT1.trans (if_neg c2)
        refine lv_aload_n hx hb dX3_countOf_12 rfl (lv_at hl 2 rfl) ?_
        refine g_get (v := .ref (ad 8)) (C := RX3) (T := TX3) (N := 4) (ci := 5) X inX3 hw 94 rfl rfl 2 (by decide) (List.mem_of_getElem? (i := 2) rfl) rfl rfl dX3_countOf_13 ?_
        refine lv_iload_n hx hb dX3_countOf_16 rfl (lv_at hl 0 rfl) ?_
        refine gcV_i (rest := []) X (cR_at l D cy ad rest C 4 (by decide) v1_3) gy_X4_at gX3_countOf_X4_at ⟨rfl, rfl, Nat.le_of_ble_eq_true rfl, Nat.le_of_ble_eq_true rfl⟩ 8 rfl rfl rfl hl rfl (Nat.le_of_ble_eq_true rfl) dX3_countOf_17 ⟨Nat.zero_le _, Nat.zero_le _⟩ hw (fun r3 _ H locs hr3 hw => ?_)
        have hr3 : r3 = rAt 100 (C.1 4) v1_3 := hr3
        have hT1 := hT1.trans (bnd_eq hr3)
        refine lv_iload_n hx hb dX3_countOf_20 rfl (lv_at hl 3 rfl) ?_
        refine lv_icmp_ne (tgt := 27) hx hb dX3_countOf_21 (by decide) (fun c5 => ?_) (fun c5 => ?_)
        · skip
          have hT1 := hT1.trans (if_neg c5)
          refine lv_iinc (v := (v1_3 + 1)) (lv' := [(3, .int (v1_3 + 1)), (2, .int v1_2), (0, .ref (ad 94)), (1, .int q1)]) hx hb dX3_countOf_27 hl (k := 0) rfl rfl (by decide) rfl (fun ls hl => ?_)
          refine lv_goto (tgt := 4) hx hb dX3_countOf_30 (by decide) ?_
          exact ih1 (v1_3 + 1) v1_2 (hF.trans (lp_l hT1)) (Nat.lt_of_lt_of_le (by first | exact up_dec (by assumption) | (simp only [*]; exact up_dec (by assumption))) (Nat.le_of_lt_succ hm1)) _ _ ls (lv_sub hl [0, 1, 2, 3] rfl) hw
        · skip
          have hT1 := hT1.trans (if_pos c5)
          refine lv_iinc (v := (v1_2 + 1)) (lv' := [(2, .int (v1_2 + 1)), (3, .int v1_3), (0, .ref (ad 94)), (1, .int q1)]) hx hb dX3_countOf_24 hl (k := 1) rfl rfl (by decide) rfl (fun ls hl => ?_)
          refine lv_iinc (v := (v1_3 + 1)) (lv' := [(3, .int (v1_3 + 1)), (2, .int (v1_2 + 1)), (0, .ref (ad 94)), (1, .int q1)]) hx hb dX3_countOf_27 hl (k := 1) rfl rfl (by decide) rfl (fun ls hl => ?_)
          refine lv_goto (tgt := 4) hx hb dX3_countOf_30 (by decide) ?_
          exact ih1 (v1_3 + 1) (v1_2 + 1) (hF.trans (lp_l hT1)) (Nat.lt_of_lt_of_le (by first | exact up_dec (by assumption) | (simp only [*]; exact up_dec (by assumption))) (Nat.le_of_lt_succ hm1)) _ _ ls (lv_sub hl [0, 1, 2, 3] rfl) hw
  exact L1 _ 0 0 hF (Nat.lt_succ_self _) _ _ ls (lv_sub hl [0, 1, 2, 3] rfl) hw
theorem gy_X3_placeOf : gY yX3_placeOf RX3 cX3_placeOf 5 (some .int) wsX3_placeOf 2 := ⟨⟨_, rfl⟩, rfl, by decide +kernel, by decide +kernel, by decide +kernel⟩
def st_X3_placeOf_5 (q1 : Int32) (q2 : Int32) (C : CS) (v1_4 : Int32) (v1_3 : Int32) : (Int32 × Int32) ⊕ Int32 := (if C.2.1 5 ≤ v1_4 then .inr ((-1)) else (bnd (rAt 100 (C.1 4) v1_4) (fun r3 => (if r3 = q1 then (if v1_3 = q2 then .inr (v1_4) else .inl ((v1_4 + 1), (v1_3 + 1))) else .inl ((v1_4 + 1), v1_3)))))
def F_X3_placeOf (C : CS) (q1 : Int32) (q2 : Int32) : Int32 := lp (fun (z : Int32 × Int32) => st_X3_placeOf_5 q1 q2 C z.1 z.2) 0 (((C.2.1 5).toInt - (0 : Int32).toInt).toNat + 1) (0, 0)
abbrev rmX3_placeOf : Room := { frames := 1, cells := 0, slots := 0, locals := 21 }
set_option maxHeartbeats 4000000 in
set_option maxRecDepth 100000 in
theorem c_X3_placeOf (l : Launch) (D : va_G) (cy : Nat → ClassId) (ad : Nat → Nat) (rest : va_W) (C : CS) (q1 : Int32) (q2 : Int32) : GMi l yX3_placeOf wsX3_placeOf rmX3_placeOf D cy [.ref (ad 94), .int q1, .int q2] (CW cy ad C ++ rest) (fun (r : Int32) (_ : Unit) => r = F_X3_placeOf C q1 q2) (fun _ => CW cy ad C ++ rest) := by
  refine GMi.intro cX3_placeOf 5 RX3 (by decide) rfl rfl (Nat.le_of_ble_eq_true rfl) ?_
  intro p e s m args below meth c A Q ls X hret hl hw
  have hx := X.1
  have hb := X.2.1
  have hl : lv_has ls 5 [(0, .ref (ad 94)), (1, .int q1), (2, .int q2)] := hl
  have inX3 : ∀ w ∈ wsX30, w ∈ wsX3_placeOf := fun w h => List.mem_cons_of_mem _ (List.mem_append_left _ (List.mem_append_left _ (List.mem_append_right _ h)))
  obtain ⟨sp, hsp⟩ : ∃ sp, sp = F_X3_placeOf C q1 q2 := ⟨_, rfl⟩
  have hF := hsp.trans (F_X3_placeOf.eq_1 C q1 q2)
  refine lv_iconst (v := 0) hx hb dX3_placeOf_0 (by decide) ?_
  refine lv_istore_n (lv' := [(3, .int 0), (0, .ref (ad 94)), (1, .int q1), (2, .int q2)]) hx hb dX3_placeOf_1 rfl hl (by decide) rfl (fun ls hl => ?_)
  refine lv_iconst (v := 0) hx hb dX3_placeOf_2 (by decide) ?_
  refine lv_istore (lv' := [(4, .int 0), (3, .int 0), (0, .ref (ad 94)), (1, .int q1), (2, .int q2)]) hx hb dX3_placeOf_3 hl (by decide) rfl (fun ls hl => ?_)
  have L1 : ∀ (n1 : Nat) (v1_4 : Int32) (v1_3 : Int32), sp = lp (fun (z : Int32 × Int32) => st_X3_placeOf_5 q1 q2 C z.1 z.2) 0 n1 (v1_4, v1_3) → ((C.2.1 5).toInt - v1_4.toInt).toNat < n1 → ∀ (H : Heap) (locs : List Loc) (ls : Array Slot), lv_has ls 5 [(4, .int v1_4), (3, .int v1_3), (0, .ref (ad 94)), (1, .int q1), (2, .int q2)] → gw D A s.heap (CW cy ad C ++ rest) H locs → W p l e rmX3_placeOf s m args below meth c H locs 0 0 Q (F0 m 5 ls []) := by
    intro n1
    induction n1 with
    | zero => intro v1_4 v1_3 hF hm1; exact absurd hm1 (Nat.not_lt_zero _)
    | succ n1 ih1 =>
      intro v1_4 v1_3 hF hm1 H locs ls hl hw
      have hT1 := st_X3_placeOf_5.eq_1 q1 q2 C v1_4 v1_3
      refine lv_iload hx hb dX3_placeOf_5 (lv_at hl 0 rfl) ?_
      refine lv_aload_n hx hb dX3_placeOf_7 rfl (lv_at hl 2 rfl) ?_
      refine g_get (v := .int (C.2.1 5)) (C := RX3) (T := TX3) (N := 4) (ci := 5) X inX3 hw 94 rfl rfl 3 (by decide) (List.mem_of_getElem? (i := 1) rfl) rfl rfl dX3_placeOf_8 ?_
      refine lv_icmp_ge (tgt := 44) hx hb dX3_placeOf_11 (by decide) (fun c2 => ?_) (fun c2 => ?_)
      · skip
        have hT1 := hT1.trans (if_pos c2)
        refine lv_iconst (v := (-1)) hx hb dX3_placeOf_44 (by decide) ?_
        exact hret _ _ () _ _ _ dX3_placeOf_45 ((hF.trans (lp_r hT1)).symm.trans hsp) hw
      · skip
        have hT1 := hT1.trans (if_neg c2)
        refine lv_aload_n hx hb dX3_placeOf_14 rfl (lv_at hl 2 rfl) ?_
        refine g_get (v := .ref (ad 8)) (C := RX3) (T := TX3) (N := 4) (ci := 5) X inX3 hw 94 rfl rfl 2 (by decide) (List.mem_of_getElem? (i := 2) rfl) rfl rfl dX3_placeOf_15 ?_
        refine lv_iload hx hb dX3_placeOf_18 (lv_at hl 0 rfl) ?_
        refine gcV_i (rest := []) X (cR_at l D cy ad rest C 4 (by decide) v1_4) gy_X4_at gX3_placeOf_X4_at ⟨rfl, rfl, Nat.le_of_ble_eq_true rfl, Nat.le_of_ble_eq_true rfl⟩ 8 rfl rfl rfl hl rfl (Nat.le_of_ble_eq_true rfl) dX3_placeOf_20 ⟨Nat.zero_le _, Nat.zero_le _⟩ hw (fun r3 _ H locs hr3 hw => ?_)
        have hr3 : r3 = rAt 100 (C.1 4) v1_4 := hr3
        have hT1 := hT1.trans (bnd_eq hr3)
        refine lv_iload_n hx hb dX3_placeOf_23 rfl (lv_at hl 3 rfl) ?_
        refine lv_icmp_ne (tgt := 38) hx hb dX3_placeOf_24 (by decide) (fun c5 => ?_) (fun c5 => ?_)
        · skip
          have hT1 := hT1.trans (if_neg c5)
          refine lv_iinc (v := (v1_4 + 1)) (lv' := [(4, .int (v1_4 + 1)), (3, .int v1_3), (0, .ref (ad 94)), (1, .int q1), (2, .int q2)]) hx hb dX3_placeOf_38 hl (k := 0) rfl rfl (by decide) rfl (fun ls hl => ?_)
          refine lv_goto (tgt := 5) hx hb dX3_placeOf_41 (by decide) ?_
          exact ih1 (v1_4 + 1) v1_3 (hF.trans (lp_l hT1)) (Nat.lt_of_lt_of_le (by first | exact up_dec (by assumption) | (simp only [*]; exact up_dec (by assumption))) (Nat.le_of_lt_succ hm1)) _ _ ls (lv_sub hl [0, 1, 2, 3, 4] rfl) hw
        · skip
          have hT1 := hT1.trans (if_pos c5)
          refine lv_iload_n hx hb dX3_placeOf_27 rfl (lv_at hl 1 rfl) ?_
          refine lv_iload_n hx hb dX3_placeOf_28 rfl (lv_at hl 4 rfl) ?_
          refine lv_icmp_ne (tgt := 35) hx hb dX3_placeOf_29 (by decide) (fun c6 => ?_) (fun c6 => ?_)
          · skip
            have hT1 := hT1.trans (if_neg c6)
            refine lv_iinc (v := (v1_3 + 1)) (lv' := [(3, .int (v1_3 + 1)), (4, .int v1_4), (0, .ref (ad 94)), (1, .int q1), (2, .int q2)]) hx hb dX3_placeOf_35 hl (k := 1) rfl rfl (by decide) rfl (fun ls hl => ?_)
            refine lv_iinc (v := (v1_4 + 1)) (lv' := [(4, .int (v1_4 + 1)), (3, .int (v1_3 + 1)), (0, .ref (ad 94)), (1, .int q1), (2, .int q2)]) hx hb dX3_placeOf_38 hl (k := 1) rfl rfl (by decide) rfl (fun ls hl => ?_)
            refine lv_goto (tgt := 5) hx hb dX3_placeOf_41 (by decide) ?_
            exact ih1 (v1_4 + 1) (v1_3 + 1) (hF.trans (lp_l hT1)) (Nat.lt_of_lt_of_le (by first | exact up_dec (by assumption) | (simp only [*]; exact up_dec (by assumption))) (Nat.le_of_lt_succ hm1)) _ _ ls (lv_sub hl [0, 1, 2, 3, 4] rfl) hw
          · skip
            have hT1 := hT1.trans (if_pos c6)
            refine lv_iload hx hb dX3_placeOf_32 (lv_at hl 0 rfl) ?_
            exact hret _ _ () _ _ _ dX3_placeOf_34 ((hF.trans (lp_r hT1)).symm.trans hsp) hw
  exact L1 _ 0 0 hF (Nat.lt_succ_self _) _ _ ls (lv_sub hl [0, 1, 2, 3, 4] rfl) hw
theorem gy_X3_fold : gY yX3_fold RX3 cX3_fold 5 (some .int) wsX3_fold 2 := ⟨⟨_, rfl⟩, rfl, by decide +kernel, by decide +kernel, by decide +kernel⟩
def st_X3_fold_8 (q1 : Int32) (q2 : Int32) (C : CS) (v3_4 : Int32) (v3_3 : Int32) : (Int32 × Int32) ⊕ Int32 := (if C.2.1 5 ≤ v3_4 then .inr (v3_3) else (bnd (rAt 100 (C.1 4) v3_4) (fun r5 => (if r5 = q1 then (bnd (rAt 100 (C.1 3) v3_4) (fun r8 => (bnd (F_X3_foldOne q2 v3_3 r8) (fun r10 => .inl ((v3_4 + 1), r10))))) else .inl ((v3_4 + 1), v3_3)))))
def F_X3_fold (C : CS) (q1 : Int32) (q2 : Int32) : Int32 := (bnd (F_X3_startOf q2) (fun r1 => lp (fun (z : Int32 × Int32) => st_X3_fold_8 q1 q2 C z.1 z.2) 0 (((C.2.1 5).toInt - (0 : Int32).toInt).toNat + 1) (0, r1)))
abbrev rmX3_fold : Room := { frames := 2, cells := 0, slots := 0, locals := 43 }
set_option maxHeartbeats 4000000 in
set_option maxRecDepth 100000 in
theorem c_X3_fold (l : Launch) (D : va_G) (cy : Nat → ClassId) (ad : Nat → Nat) (rest : va_W) (C : CS) (q1 : Int32) (q2 : Int32) : GMi l yX3_fold wsX3_fold rmX3_fold D cy [.ref (ad 94), .int q1, .int q2] (CW cy ad C ++ rest) (fun (r : Int32) (_ : Unit) => r = F_X3_fold C q1 q2) (fun _ => CW cy ad C ++ rest) := by
  refine GMi.intro cX3_fold 5 RX3 (by decide) rfl rfl (Nat.le_of_ble_eq_true rfl) ?_
  intro p e s m args below meth c A Q ls X hret hl hw
  have hx := X.1
  have hb := X.2.1
  have hl : lv_has ls 5 [(0, .ref (ad 94)), (1, .int q1), (2, .int q2)] := hl
  have inX3 : ∀ w ∈ wsX30, w ∈ wsX3_fold := fun w h => List.mem_cons_of_mem _ (List.mem_append_left _ (List.mem_append_left _ (List.mem_append_right _ h)))
  obtain ⟨sp, hsp⟩ : ∃ sp, sp = F_X3_fold C q1 q2 := ⟨_, rfl⟩
  have hF := hsp.trans (F_X3_fold.eq_1 C q1 q2)
  refine lv_iload_n hx hb dX3_fold_0 rfl (lv_at hl 2 rfl) ?_
  refine gcS_i (rest := []) X (c_X3_startOf l D cy (CW cy ad C ++ rest) q2) gy_X3_startOf gX3_fold_X3_startOf ⟨rfl, rfl, Nat.le_of_ble_eq_true rfl, Nat.le_of_ble_eq_true rfl⟩ rfl hl rfl (Nat.le_of_ble_eq_true rfl) dX3_fold_1 ⟨Nat.zero_le _, Nat.zero_le _⟩ hw (fun r1 _ H locs hr1 hw => ?_)
  have hr1 : r1 = F_X3_startOf q2 := hr1
  have hF := hF.trans (bnd_eq hr1)
  refine lv_istore_n (lv' := [(3, .int r1), (0, .ref (ad 94)), (1, .int q1), (2, .int q2)]) hx hb dX3_fold_4 rfl hl (by decide) rfl (fun ls hl => ?_)
  refine lv_iconst (v := 0) hx hb dX3_fold_5 (by decide) ?_
  refine lv_istore (lv' := [(4, .int 0), (3, .int r1), (0, .ref (ad 94)), (1, .int q1), (2, .int q2)]) hx hb dX3_fold_6 hl (by decide) rfl (fun ls hl => ?_)
  have L3 : ∀ (n3 : Nat) (v3_4 : Int32) (v3_3 : Int32), sp = lp (fun (z : Int32 × Int32) => st_X3_fold_8 q1 q2 C z.1 z.2) 0 n3 (v3_4, v3_3) → ((C.2.1 5).toInt - v3_4.toInt).toNat < n3 → ∀ (H : Heap) (locs : List Loc) (ls : Array Slot), lv_has ls 5 [(4, .int v3_4), (3, .int v3_3), (0, .ref (ad 94)), (1, .int q1), (2, .int q2)] → gw D A s.heap (CW cy ad C ++ rest) H locs → W p l e rmX3_fold s m args below meth c H locs 0 0 Q (F0 m 8 ls []) := by
    intro n3
    induction n3 with
    | zero => intro v3_4 v3_3 hF hm3; exact absurd hm3 (Nat.not_lt_zero _)
    | succ n3 ih3 =>
      intro v3_4 v3_3 hF hm3 H locs ls hl hw
      have hT3 := st_X3_fold_8.eq_1 q1 q2 C v3_4 v3_3
      refine lv_iload hx hb dX3_fold_8 (lv_at hl 0 rfl) ?_
      refine lv_aload_n hx hb dX3_fold_10 rfl (lv_at hl 2 rfl) ?_
      refine g_get (v := .int (C.2.1 5)) (C := RX3) (T := TX3) (N := 4) (ci := 5) X inX3 hw 94 rfl rfl 3 (by decide) (List.mem_of_getElem? (i := 1) rfl) rfl rfl dX3_fold_11 ?_
      refine lv_icmp_ge (tgt := 51) hx hb dX3_fold_14 (by decide) (fun c4 => ?_) (fun c4 => ?_)
      · skip
        have hT3 := hT3.trans (if_pos c4)
        refine lv_iload_n hx hb dX3_fold_51 rfl (lv_at hl 1 rfl) ?_
        exact hret _ _ () _ _ _ dX3_fold_52 ((hF.trans (lp_r hT3)).symm.trans hsp) hw
      · skip
        have hT3 := hT3.trans (if_neg c4)
        refine lv_aload_n hx hb dX3_fold_17 rfl (lv_at hl 2 rfl) ?_
        refine g_get (v := .ref (ad 8)) (C := RX3) (T := TX3) (N := 4) (ci := 5) X inX3 hw 94 rfl rfl 2 (by decide) (List.mem_of_getElem? (i := 2) rfl) rfl rfl dX3_fold_18 ?_
        refine lv_iload hx hb dX3_fold_21 (lv_at hl 0 rfl) ?_
        refine gcV_i (rest := []) X (cR_at l D cy ad rest C 4 (by decide) v3_4) gy_X4_at gX3_fold_X4_at ⟨rfl, rfl, Nat.le_of_ble_eq_true rfl, Nat.le_of_ble_eq_true rfl⟩ 8 rfl rfl rfl hl rfl (Nat.le_of_ble_eq_true rfl) dX3_fold_23 ⟨Nat.zero_le _, Nat.zero_le _⟩ hw (fun r5 _ H locs hr5 hw => ?_)
        have hr5 : r5 = rAt 100 (C.1 4) v3_4 := hr5
        have hT3 := hT3.trans (bnd_eq hr5)
        refine lv_iload_n hx hb dX3_fold_26 rfl (lv_at hl 3 rfl) ?_
        refine lv_icmp_ne (tgt := 45) hx hb dX3_fold_27 (by decide) (fun c7 => ?_) (fun c7 => ?_)
        · skip
          have hT3 := hT3.trans (if_neg c7)
          refine lv_iinc (v := (v3_4 + 1)) (lv' := [(4, .int (v3_4 + 1)), (3, .int v3_3), (0, .ref (ad 94)), (1, .int q1), (2, .int q2)]) hx hb dX3_fold_45 hl (k := 0) rfl rfl (by decide) rfl (fun ls hl => ?_)
          refine lv_goto (tgt := 8) hx hb dX3_fold_48 (by decide) ?_
          exact ih3 (v3_4 + 1) v3_3 (hF.trans (lp_l hT3)) (Nat.lt_of_lt_of_le (by first | exact up_dec (by assumption) | (simp only [*]; exact up_dec (by assumption))) (Nat.le_of_lt_succ hm3)) _ _ ls (lv_sub hl [0, 1, 2, 3, 4] rfl) hw
        · skip
          have hT3 := hT3.trans (if_pos c7)
          refine lv_iload_n hx hb dX3_fold_30 rfl (lv_at hl 4 rfl) ?_
          refine lv_iload_n hx hb dX3_fold_31 rfl (lv_at hl 1 rfl) ?_
          refine lv_aload_n hx hb dX3_fold_32 rfl (lv_at hl 2 rfl) ?_
          refine g_get (v := .ref (ad 6)) (C := RX3) (T := TX3) (N := 4) (ci := 5) X inX3 hw 94 rfl rfl 1 (by decide) (List.mem_of_getElem? (i := 3) rfl) rfl rfl dX3_fold_33 ?_
          refine lv_iload hx hb dX3_fold_36 (lv_at hl 0 rfl) ?_
          refine gcV_i (rest := [.int v3_3, .int q2]) X (cR_at l D cy ad rest C 3 (by decide) v3_4) gy_X4_at gX3_fold_X4_at ⟨rfl, rfl, Nat.le_of_ble_eq_true rfl, Nat.le_of_ble_eq_true rfl⟩ 6 rfl rfl rfl hl rfl (Nat.le_of_ble_eq_true rfl) dX3_fold_38 ⟨Nat.zero_le _, Nat.zero_le _⟩ hw (fun r8 _ H locs hr8 hw => ?_)
          have hr8 : r8 = rAt 100 (C.1 3) v3_4 := hr8
          have hT3 := hT3.trans (bnd_eq hr8)
          refine gcS_i (rest := []) X (c_X3_foldOne l D cy (CW cy ad C ++ rest) q2 v3_3 r8) gy_X3_foldOne gX3_fold_X3_foldOne ⟨rfl, rfl, Nat.le_of_ble_eq_true rfl, Nat.le_of_ble_eq_true rfl⟩ rfl hl rfl (Nat.le_of_ble_eq_true rfl) dX3_fold_41 ⟨Nat.zero_le _, Nat.zero_le _⟩ hw (fun r10 _ H locs hr10 hw => ?_)
          have hr10 : r10 = F_X3_foldOne q2 v3_3 r8 := hr10
          have hT3 := hT3.trans (bnd_eq hr10)
          refine lv_istore_n (lv' := [(3, .int r10), (4, .int v3_4), (0, .ref (ad 94)), (1, .int q1), (2, .int q2)]) hx hb dX3_fold_44 rfl hl (by decide) rfl (fun ls hl => ?_)
          refine lv_iinc (v := (v3_4 + 1)) (lv' := [(4, .int (v3_4 + 1)), (3, .int r10), (0, .ref (ad 94)), (1, .int q1), (2, .int q2)]) hx hb dX3_fold_45 hl (k := 1) rfl rfl (by decide) rfl (fun ls hl => ?_)
          refine lv_goto (tgt := 8) hx hb dX3_fold_48 (by decide) ?_
          exact ih3 (v3_4 + 1) r10 (hF.trans (lp_l hT3)) (Nat.lt_of_lt_of_le (by first | exact up_dec (by assumption) | (simp only [*]; exact up_dec (by assumption))) (Nat.le_of_lt_succ hm3)) _ _ ls (lv_sub hl [0, 1, 2, 3, 4] rfl) hw
  exact L3 _ 0 r1 hF (Nat.lt_succ_self _) _ _ ls (lv_sub hl [0, 1, 2, 3, 4] rfl) hw
theorem gy_X3_copyFrom : gY yX3_copyFrom RX3 cX3_copyFrom 2 none wsX3_copyFrom 1 := ⟨⟨_, rfl⟩, rfl, by decide +kernel, by decide +kernel, by decide +kernel⟩
def F_X3_copyFrom_nk (C : CS) : CS := (bnd (sR C 2 (rCopy 100 (C.1 2) 100 (C.1 23))) (fun u2 => (bnd (sR u2 3 (rCopy 100 (u2.1 3) 100 (u2.1 24))) (fun u4 => (bnd (sR u4 4 (rCopy 100 (u4.1 4) 100 (u4.1 25))) (fun u6 => (bnd (sI u6 5 (u6.2.1 14)) (fun u7 => u7))))))))
abbrev rmX3_copyFrom_nk : Room := { frames := 2, cells := 0, slots := 0, locals := 43 }
set_option maxHeartbeats 4000000 in
set_option maxRecDepth 100000 in
theorem c_X3_copyFrom_nk (l : Launch) (D : va_G) (cy : Nat → ClassId) (ad : Nat → Nat) (rest : va_W) (C : CS) : GMv l yX3_copyFrom wsX3_copyFrom rmX3_copyFrom_nk D cy [.ref (ad 94), .ref (ad 98)] (CW cy ad C ++ rest) (fun (u : CS) => u = F_X3_copyFrom_nk C) (fun u => CW cy ad u ++ rest) := by
  refine GMv.intro cX3_copyFrom 2 RX3 (by decide) rfl rfl (Nat.le_of_ble_eq_true rfl) ?_
  intro p e s m args below meth c A Q ls X hret hl hw
  have hx := X.1
  have hb := X.2.1
  have hl : lv_has ls 2 [(0, .ref (ad 94)), (1, .ref (ad 98))] := hl
  have inX3 : ∀ w ∈ wsX30, w ∈ wsX3_copyFrom := fun w h => List.mem_cons_of_mem _ (List.mem_append_left _ (List.mem_append_left _ (List.mem_append_right _ h)))
  obtain ⟨sp, hsp⟩ : ∃ sp, sp = F_X3_copyFrom_nk C := ⟨_, rfl⟩
  have hF := hsp.trans (F_X3_copyFrom_nk.eq_1 C)
  refine lv_aload_n hx hb dX3_copyFrom_0 rfl (lv_at hl 1 rfl) ?_
  refine lv_ifnonnull (tgt := 5) hx hb dX3_copyFrom_1 (by decide) ?_
  refine lv_aload_n hx hb dX3_copyFrom_5 rfl (lv_at hl 0 rfl) ?_
  refine g_get (v := .ref (ad 4)) (C := RX3) (T := TX3) (N := 4) (ci := 5) X inX3 hw 94 rfl rfl 0 (by decide) (List.mem_of_getElem? (i := 1) rfl) rfl rfl dX3_copyFrom_6 ?_
  refine lv_aload_n hx hb dX3_copyFrom_9 rfl (lv_at hl 1 rfl) ?_
  refine g_get (v := .ref (ad 46)) (C := RX3) (T := TX3) (N := 4) (ci := 5) X inX3 hw 98 rfl rfl 0 (by decide) (List.mem_of_getElem? (i := 1) rfl) rfl rfl dX3_copyFrom_10 ?_
  refine gcV_v (rest := []) X (cR_copyFrom l D cy ad rest C 2 23 (by decide) (by decide) (by decide)) gy_X4_copyFrom gX3_copyFrom_X4_copyFrom ⟨rfl, rfl, Nat.le_of_ble_eq_true rfl, Nat.le_of_ble_eq_true rfl⟩ 4 rfl rfl rfl hl rfl (Nat.le_of_ble_eq_true rfl) dX3_copyFrom_13 ⟨Nat.zero_le _, Nat.zero_le _⟩ hw (fun u2 H locs hu2 hw => ?_)
  have hu2 : u2 = sR C 2 (rCopy 100 (C.1 2) 100 (C.1 23)) := hu2
  have hF := hF.trans (bnd_eq hu2)
  refine lv_aload_n hx hb dX3_copyFrom_16 rfl (lv_at hl 0 rfl) ?_
  refine g_get (v := .ref (ad 6)) (C := RX3) (T := TX3) (N := 4) (ci := 5) X inX3 hw 94 rfl rfl 1 (by decide) (List.mem_of_getElem? (i := 2) rfl) rfl rfl dX3_copyFrom_17 ?_
  refine lv_aload_n hx hb dX3_copyFrom_20 rfl (lv_at hl 1 rfl) ?_
  refine g_get (v := .ref (ad 48)) (C := RX3) (T := TX3) (N := 4) (ci := 5) X inX3 hw 98 rfl rfl 1 (by decide) (List.mem_of_getElem? (i := 2) rfl) rfl rfl dX3_copyFrom_21 ?_
  refine gcV_v (rest := []) X (cR_copyFrom l D cy ad rest u2 3 24 (by decide) (by decide) (by decide)) gy_X4_copyFrom gX3_copyFrom_X4_copyFrom ⟨rfl, rfl, Nat.le_of_ble_eq_true rfl, Nat.le_of_ble_eq_true rfl⟩ 6 rfl rfl rfl hl rfl (Nat.le_of_ble_eq_true rfl) dX3_copyFrom_24 ⟨Nat.zero_le _, Nat.zero_le _⟩ hw (fun u4 H locs hu4 hw => ?_)
  have hu4 : u4 = sR u2 3 (rCopy 100 (u2.1 3) 100 (u2.1 24)) := hu4
  have hF := hF.trans (bnd_eq hu4)
  refine lv_aload_n hx hb dX3_copyFrom_27 rfl (lv_at hl 0 rfl) ?_
  refine g_get (v := .ref (ad 8)) (C := RX3) (T := TX3) (N := 4) (ci := 5) X inX3 hw 94 rfl rfl 2 (by decide) (List.mem_of_getElem? (i := 3) rfl) rfl rfl dX3_copyFrom_28 ?_
  refine lv_aload_n hx hb dX3_copyFrom_31 rfl (lv_at hl 1 rfl) ?_
  refine g_get (v := .ref (ad 50)) (C := RX3) (T := TX3) (N := 4) (ci := 5) X inX3 hw 98 rfl rfl 2 (by decide) (List.mem_of_getElem? (i := 3) rfl) rfl rfl dX3_copyFrom_32 ?_
  refine gcV_v (rest := []) X (cR_copyFrom l D cy ad rest u4 4 25 (by decide) (by decide) (by decide)) gy_X4_copyFrom gX3_copyFrom_X4_copyFrom ⟨rfl, rfl, Nat.le_of_ble_eq_true rfl, Nat.le_of_ble_eq_true rfl⟩ 8 rfl rfl rfl hl rfl (Nat.le_of_ble_eq_true rfl) dX3_copyFrom_35 ⟨Nat.zero_le _, Nat.zero_le _⟩ hw (fun u6 H locs hu6 hw => ?_)
  have hu6 : u6 = sR u4 4 (rCopy 100 (u4.1 4) 100 (u4.1 25)) := hu6
  have hF := hF.trans (bnd_eq hu6)
  refine lv_aload_n hx hb dX3_copyFrom_38 rfl (lv_at hl 0 rfl) ?_
  refine lv_aload_n hx hb dX3_copyFrom_39 rfl (lv_at hl 1 rfl) ?_
  refine g_get (v := .int (u6.2.1 14)) (C := RX3) (T := TX3) (N := 4) (ci := 5) X inX3 hw 98 rfl rfl 3 (by decide) (List.mem_of_getElem? (i := 4) rfl) rfl rfl dX3_copyFrom_40 ?_
  refine g_put (v := .int (u6.2.1 14)) (C := RX3) (T := TX3) (N := 4) (ci := 5) (w' := CW cy ad (sI u6 5 (u6.2.1 14)) ++ rest) X inX3 tyX3 tyX3_ok nmX3 hw 94 rfl rfl 3 (by decide) (List.mem_of_getElem? (i := 4) rfl) rfl rfl rfl rfl (Nat.le_of_ble_eq_true rfl) rfl dX3_copyFrom_43 (fun H locs hw => ?_)
  obtain ⟨u7, hu7⟩ : ∃ z, z = sI u6 5 (u6.2.1 14) := ⟨_, rfl⟩
  rw [← hu7] at hw
  have hF := hF.trans (bnd_eq hu7)
  exact hret _ _ _ _ _ dX3_copyFrom_46 (hF.symm.trans hsp) hw
def F_X3_copyFrom_kn (C : CS) : CS := (bnd (sR C 23 (rCopy 100 (C.1 23) 100 (C.1 2))) (fun u2 => (bnd (sR u2 24 (rCopy 100 (u2.1 24) 100 (u2.1 3))) (fun u4 => (bnd (sR u4 25 (rCopy 100 (u4.1 25) 100 (u4.1 4))) (fun u6 => (bnd (sI u6 14 (u6.2.1 5)) (fun u7 => u7))))))))
abbrev rmX3_copyFrom_kn : Room := { frames := 2, cells := 0, slots := 0, locals := 43 }
set_option maxHeartbeats 4000000 in
set_option maxRecDepth 100000 in
theorem c_X3_copyFrom_kn (l : Launch) (D : va_G) (cy : Nat → ClassId) (ad : Nat → Nat) (rest : va_W) (C : CS) : GMv l yX3_copyFrom wsX3_copyFrom rmX3_copyFrom_kn D cy [.ref (ad 98), .ref (ad 94)] (CW cy ad C ++ rest) (fun (u : CS) => u = F_X3_copyFrom_kn C) (fun u => CW cy ad u ++ rest) := by
  refine GMv.intro cX3_copyFrom 2 RX3 (by decide) rfl rfl (Nat.le_of_ble_eq_true rfl) ?_
  intro p e s m args below meth c A Q ls X hret hl hw
  have hx := X.1
  have hb := X.2.1
  have hl : lv_has ls 2 [(0, .ref (ad 98)), (1, .ref (ad 94))] := hl
  have inX3 : ∀ w ∈ wsX30, w ∈ wsX3_copyFrom := fun w h => List.mem_cons_of_mem _ (List.mem_append_left _ (List.mem_append_left _ (List.mem_append_right _ h)))
  obtain ⟨sp, hsp⟩ : ∃ sp, sp = F_X3_copyFrom_kn C := ⟨_, rfl⟩
  have hF := hsp.trans (F_X3_copyFrom_kn.eq_1 C)
  refine lv_aload_n hx hb dX3_copyFrom_0 rfl (lv_at hl 1 rfl) ?_
  refine lv_ifnonnull (tgt := 5) hx hb dX3_copyFrom_1 (by decide) ?_
  refine lv_aload_n hx hb dX3_copyFrom_5 rfl (lv_at hl 0 rfl) ?_
  refine g_get (v := .ref (ad 46)) (C := RX3) (T := TX3) (N := 4) (ci := 5) X inX3 hw 98 rfl rfl 0 (by decide) (List.mem_of_getElem? (i := 1) rfl) rfl rfl dX3_copyFrom_6 ?_
  refine lv_aload_n hx hb dX3_copyFrom_9 rfl (lv_at hl 1 rfl) ?_
  refine g_get (v := .ref (ad 4)) (C := RX3) (T := TX3) (N := 4) (ci := 5) X inX3 hw 94 rfl rfl 0 (by decide) (List.mem_of_getElem? (i := 1) rfl) rfl rfl dX3_copyFrom_10 ?_
  refine gcV_v (rest := []) X (cR_copyFrom l D cy ad rest C 23 2 (by decide) (by decide) (by decide)) gy_X4_copyFrom gX3_copyFrom_X4_copyFrom ⟨rfl, rfl, Nat.le_of_ble_eq_true rfl, Nat.le_of_ble_eq_true rfl⟩ 46 rfl rfl rfl hl rfl (Nat.le_of_ble_eq_true rfl) dX3_copyFrom_13 ⟨Nat.zero_le _, Nat.zero_le _⟩ hw (fun u2 H locs hu2 hw => ?_)
  have hu2 : u2 = sR C 23 (rCopy 100 (C.1 23) 100 (C.1 2)) := hu2
  have hF := hF.trans (bnd_eq hu2)
  refine lv_aload_n hx hb dX3_copyFrom_16 rfl (lv_at hl 0 rfl) ?_
  refine g_get (v := .ref (ad 48)) (C := RX3) (T := TX3) (N := 4) (ci := 5) X inX3 hw 98 rfl rfl 1 (by decide) (List.mem_of_getElem? (i := 2) rfl) rfl rfl dX3_copyFrom_17 ?_
  refine lv_aload_n hx hb dX3_copyFrom_20 rfl (lv_at hl 1 rfl) ?_
  refine g_get (v := .ref (ad 6)) (C := RX3) (T := TX3) (N := 4) (ci := 5) X inX3 hw 94 rfl rfl 1 (by decide) (List.mem_of_getElem? (i := 2) rfl) rfl rfl dX3_copyFrom_21 ?_
  refine gcV_v (rest := []) X (cR_copyFrom l D cy ad rest u2 24 3 (by decide) (by decide) (by decide)) gy_X4_copyFrom gX3_copyFrom_X4_copyFrom ⟨rfl, rfl, Nat.le_of_ble_eq_true rfl, Nat.le_of_ble_eq_true rfl⟩ 48 rfl rfl rfl hl rfl (Nat.le_of_ble_eq_true rfl) dX3_copyFrom_24 ⟨Nat.zero_le _, Nat.zero_le _⟩ hw (fun u4 H locs hu4 hw => ?_)
  have hu4 : u4 = sR u2 24 (rCopy 100 (u2.1 24) 100 (u2.1 3)) := hu4
  have hF := hF.trans (bnd_eq hu4)
  refine lv_aload_n hx hb dX3_copyFrom_27 rfl (lv_at hl 0 rfl) ?_
  refine g_get (v := .ref (ad 50)) (C := RX3) (T := TX3) (N := 4) (ci := 5) X inX3 hw 98 rfl rfl 2 (by decide) (List.mem_of_getElem? (i := 3) rfl) rfl rfl dX3_copyFrom_28 ?_
  refine lv_aload_n hx hb dX3_copyFrom_31 rfl (lv_at hl 1 rfl) ?_
  refine g_get (v := .ref (ad 8)) (C := RX3) (T := TX3) (N := 4) (ci := 5) X inX3 hw 94 rfl rfl 2 (by decide) (List.mem_of_getElem? (i := 3) rfl) rfl rfl dX3_copyFrom_32 ?_
  refine gcV_v (rest := []) X (cR_copyFrom l D cy ad rest u4 25 4 (by decide) (by decide) (by decide)) gy_X4_copyFrom gX3_copyFrom_X4_copyFrom ⟨rfl, rfl, Nat.le_of_ble_eq_true rfl, Nat.le_of_ble_eq_true rfl⟩ 50 rfl rfl rfl hl rfl (Nat.le_of_ble_eq_true rfl) dX3_copyFrom_35 ⟨Nat.zero_le _, Nat.zero_le _⟩ hw (fun u6 H locs hu6 hw => ?_)
  have hu6 : u6 = sR u4 25 (rCopy 100 (u4.1 25) 100 (u4.1 4)) := hu6
  have hF := hF.trans (bnd_eq hu6)
  refine lv_aload_n hx hb dX3_copyFrom_38 rfl (lv_at hl 0 rfl) ?_
  refine lv_aload_n hx hb dX3_copyFrom_39 rfl (lv_at hl 1 rfl) ?_
  refine g_get (v := .int (u6.2.1 5)) (C := RX3) (T := TX3) (N := 4) (ci := 5) X inX3 hw 94 rfl rfl 3 (by decide) (List.mem_of_getElem? (i := 4) rfl) rfl rfl dX3_copyFrom_40 ?_
  refine g_put (v := .int (u6.2.1 5)) (C := RX3) (T := TX3) (N := 4) (ci := 5) (w' := CW cy ad (sI u6 14 (u6.2.1 5)) ++ rest) X inX3 tyX3 tyX3_ok nmX3 hw 98 rfl rfl 3 (by decide) (List.mem_of_getElem? (i := 4) rfl) rfl rfl rfl rfl (Nat.le_of_ble_eq_true rfl) rfl dX3_copyFrom_43 (fun H locs hw => ?_)
  obtain ⟨u7, hu7⟩ : ∃ z, z = sI u6 14 (u6.2.1 5) := ⟨_, rfl⟩
  rw [← hu7] at hw
  have hF := hF.trans (bnd_eq hu7)
  exact hret _ _ _ _ _ dX3_copyFrom_46 (hF.symm.trans hsp) hw
