theorem gy_X1_clear : gY yX1_clear RX1 cX1_clear 1 none wsX1_clear 0 := ⟨⟨_, rfl⟩, rfl, by decide +kernel, by decide +kernel, by decide +kernel⟩
def F_X1_clear (C : CS) : CS := (bnd (sR C 0 (rFill 8 (C.1 0) 10)) (fun u2 => (bnd (sR u2 1 (rFill 8 (u2.1 1) 0)) (fun u4 => (bnd (sI u4 5 0) (fun u5 => (bnd (sI u5 6 0) (fun u6 => (bnd (F_X2_clear u6) (fun u8 => (bnd (sI u8 0 0) (fun u9 => (bnd (sI u9 1 0) (fun u10 => (bnd (sI u10 2 0) (fun u11 => (bnd (sI u11 3 0) (fun u12 => (bnd (sI u12 4 0) (fun u13 => u13))))))))))))))))))))
abbrev rmX1_clear : Room := { frames := 2, cells := 0, slots := 0, locals := 42 }
set_option maxHeartbeats 4000000 in
set_option maxRecDepth 100000 in
theorem c_X1_clear (l : Launch) (D : va_G) (cy : Nat → ClassId) (ad : Nat → Nat) (rest : va_W) (C : CS) : GMv l yX1_clear wsX1_clear rmX1_clear D cy [.ref (ad 93)] (CW cy ad C ++ rest) (fun (u : CS) => u = F_X1_clear C) (fun u => CW cy ad u ++ rest) := by
  refine GMv.intro cX1_clear 1 RX1 (by decide) rfl rfl (Nat.le_of_ble_eq_true rfl) ?_
  intro p e s m args below meth c A Q ls X hret hl hw
  have hx := X.1
  have hb := X.2.1
  have hl : lv_has ls 1 [(0, .ref (ad 93))] := hl
  have inX0 : ∀ w ∈ wsX00, w ∈ wsX1_clear := fun w h => List.mem_cons_of_mem _ (List.mem_append_left _ (List.mem_append_left _ (List.mem_append_left _ (List.mem_append_right _ h))))
  have inX1 : ∀ w ∈ wsX10, w ∈ wsX1_clear := fun w h => List.mem_cons_of_mem _ (List.mem_append_left _ (List.mem_append_left _ (List.mem_append_left _ (List.mem_append_left _ (List.mem_append_left _ (List.mem_append_right _ h))))))
  have inX3 : ∀ w ∈ wsX30, w ∈ wsX1_clear := fun w h => List.mem_cons_of_mem _ (List.mem_append_left _ (List.mem_append_left _ (List.mem_append_left _ (List.mem_append_left _ (List.mem_append_right _ h)))))
  obtain ⟨sp, hsp⟩ : ∃ sp, sp = F_X1_clear C := ⟨_, rfl⟩
  have hF := hsp.trans (F_X1_clear.eq_1 C)
  refine lv_aload_n hx hb dX1_clear_0 rfl (lv_at hl 0 rfl) ?_
  refine g_get (v := .ref (ad 0)) (C := RX1) (T := TX1) (N := 10) (ci := 3) X inX1 hw 93 rfl rfl 0 (by decide) (List.mem_of_getElem? (i := 1) rfl) rfl rfl dX1_clear_1 ?_
  refine lv_bipush (v := 10) hx hb dX1_clear_4 (by decide) ?_
  refine gcV_v (rest := []) X (cR_fillWith l D cy ad rest C 0 (by decide) 10) gy_X4_fillWith gX1_clear_X4_fillWith ⟨rfl, rfl, Nat.le_of_ble_eq_true rfl, Nat.le_of_ble_eq_true rfl⟩ 0 rfl rfl rfl hl rfl (Nat.le_of_ble_eq_true rfl) dX1_clear_6 ⟨Nat.zero_le _, Nat.zero_le _⟩ hw (fun u2 H locs hu2 hw => ?_)
  have hu2 : u2 = sR C 0 (rFill 8 (C.1 0) 10) := hu2
  have hF := hF.trans (bnd_eq hu2)
  refine lv_aload_n hx hb dX1_clear_9 rfl (lv_at hl 0 rfl) ?_
  refine g_get (v := .ref (ad 2)) (C := RX1) (T := TX1) (N := 10) (ci := 3) X inX1 hw 93 rfl rfl 1 (by decide) (List.mem_of_getElem? (i := 2) rfl) rfl rfl dX1_clear_10 ?_
  refine lv_iconst (v := 0) hx hb dX1_clear_13 (by decide) ?_
  refine gcV_v (rest := []) X (cR_fillWith l D cy ad rest u2 1 (by decide) 0) gy_X4_fillWith gX1_clear_X4_fillWith ⟨rfl, rfl, Nat.le_of_ble_eq_true rfl, Nat.le_of_ble_eq_true rfl⟩ 2 rfl rfl rfl hl rfl (Nat.le_of_ble_eq_true rfl) dX1_clear_14 ⟨Nat.zero_le _, Nat.zero_le _⟩ hw (fun u4 H locs hu4 hw => ?_)
  have hu4 : u4 = sR u2 1 (rFill 8 (u2.1 1) 0) := hu4
  have hF := hF.trans (bnd_eq hu4)
  refine lv_aload_n hx hb dX1_clear_17 rfl (lv_at hl 0 rfl) ?_
  refine g_get (v := .ref (ad 94)) (C := RX1) (T := TX1) (N := 10) (ci := 3) X inX1 hw 93 rfl rfl 2 (by decide) (List.mem_of_getElem? (i := 3) rfl) rfl rfl dX1_clear_18 ?_
  refine lv_iconst (v := 0) hx hb dX1_clear_21 (by decide) ?_
  refine g_put (v := .int 0) (C := RX3) (T := TX3) (N := 4) (ci := 5) (w' := CW cy ad (sI u4 5 0) ++ rest) X inX3 tyX3 tyX3_ok nmX3 hw 94 rfl rfl 3 (by decide) (List.mem_of_getElem? (i := 4) rfl) rfl rfl rfl rfl (Nat.le_of_ble_eq_true rfl) rfl dX1_clear_22 (fun H locs hw => ?_)
  obtain ⟨u5, hu5⟩ : ∃ z, z = sI u4 5 0 := ⟨_, rfl⟩
  rw [← hu5] at hw
  have hF := hF.trans (bnd_eq hu5)
  refine lv_aload_n hx hb dX1_clear_25 rfl (lv_at hl 0 rfl) ?_
  refine g_get (v := .ref (ad 95)) (C := RX1) (T := TX1) (N := 10) (ci := 3) X inX1 hw 93 rfl rfl 3 (by decide) (List.mem_of_getElem? (i := 5) rfl) rfl rfl dX1_clear_26 ?_
  refine lv_iconst (v := 0) hx hb dX1_clear_29 (by decide) ?_
  refine g_put (v := .int 0) (C := RX0) (T := TX0) (N := 10) (ci := 2) (w' := CW cy ad (sI u5 6 0) ++ rest) X inX0 tyX0 tyX0_ok nmX0 hw 95 rfl rfl 9 (by decide) (List.mem_of_getElem? (i := 6) rfl) rfl rfl rfl rfl (Nat.le_of_ble_eq_true rfl) rfl dX1_clear_30 (fun H locs hw => ?_)
  obtain ⟨u6, hu6⟩ : ∃ z, z = sI u5 6 0 := ⟨_, rfl⟩
  rw [← hu6] at hw
  have hF := hF.trans (bnd_eq hu6)
  refine lv_aload_n hx hb dX1_clear_33 rfl (lv_at hl 0 rfl) ?_
  refine g_get (v := .ref (ad 96)) (C := RX1) (T := TX1) (N := 10) (ci := 3) X inX1 hw 93 rfl rfl 4 (by decide) (List.mem_of_getElem? (i := 7) rfl) rfl rfl dX1_clear_34 ?_
  refine gcV_v (rest := []) X (c_X2_clear l D cy ad rest u6) gy_X2_clear gX1_clear_X2_clear ⟨rfl, rfl, Nat.le_of_ble_eq_true rfl, Nat.le_of_ble_eq_true rfl⟩ 96 rfl rfl rfl hl rfl (Nat.le_of_ble_eq_true rfl) dX1_clear_37 ⟨Nat.zero_le _, Nat.zero_le _⟩ hw (fun u8 H locs hu8 hw => ?_)
  have hu8 : u8 = F_X2_clear u6 := hu8
  have hF := hF.trans (bnd_eq hu8)
  refine lv_aload_n hx hb dX1_clear_40 rfl (lv_at hl 0 rfl) ?_
  refine lv_iconst (v := 0) hx hb dX1_clear_41 (by decide) ?_
  refine g_put (v := .int 0) (C := RX1) (T := TX1) (N := 10) (ci := 3) (w' := CW cy ad (sI u8 0 0) ++ rest) X inX1 tyX1 tyX1_ok nmX1 hw 93 rfl rfl 5 (by decide) (List.mem_of_getElem? (i := 8) rfl) rfl rfl rfl rfl (Nat.le_of_ble_eq_true rfl) rfl dX1_clear_42 (fun H locs hw => ?_)
  obtain ⟨u9, hu9⟩ : ∃ z, z = sI u8 0 0 := ⟨_, rfl⟩
  rw [← hu9] at hw
  have hF := hF.trans (bnd_eq hu9)
  refine lv_aload_n hx hb dX1_clear_45 rfl (lv_at hl 0 rfl) ?_
  refine lv_iconst (v := 0) hx hb dX1_clear_46 (by decide) ?_
  refine g_put (v := .int 0) (C := RX1) (T := TX1) (N := 10) (ci := 3) (w' := CW cy ad (sI u9 1 0) ++ rest) X inX1 tyX1 tyX1_ok nmX1 hw 93 rfl rfl 6 (by decide) (List.mem_of_getElem? (i := 9) rfl) rfl rfl rfl rfl (Nat.le_of_ble_eq_true rfl) rfl dX1_clear_47 (fun H locs hw => ?_)
  obtain ⟨u10, hu10⟩ : ∃ z, z = sI u9 1 0 := ⟨_, rfl⟩
  rw [← hu10] at hw
  have hF := hF.trans (bnd_eq hu10)
  refine lv_aload_n hx hb dX1_clear_50 rfl (lv_at hl 0 rfl) ?_
  refine lv_iconst (v := 0) hx hb dX1_clear_51 (by decide) ?_
  refine g_put (v := .int 0) (C := RX1) (T := TX1) (N := 10) (ci := 3) (w' := CW cy ad (sI u10 2 0) ++ rest) X inX1 tyX1 tyX1_ok nmX1 hw 93 rfl rfl 7 (by decide) (List.mem_of_getElem? (i := 10) rfl) rfl rfl rfl rfl (Nat.le_of_ble_eq_true rfl) rfl dX1_clear_52 (fun H locs hw => ?_)
  obtain ⟨u11, hu11⟩ : ∃ z, z = sI u10 2 0 := ⟨_, rfl⟩
  rw [← hu11] at hw
  have hF := hF.trans (bnd_eq hu11)
  refine lv_aload_n hx hb dX1_clear_55 rfl (lv_at hl 0 rfl) ?_
  refine lv_iconst (v := 0) hx hb dX1_clear_56 (by decide) ?_
  refine g_put (v := .int 0) (C := RX1) (T := TX1) (N := 10) (ci := 3) (w' := CW cy ad (sI u11 3 0) ++ rest) X inX1 tyX1 tyX1_ok nmX1 hw 93 rfl rfl 8 (by decide) (List.mem_of_getElem? (i := 11) rfl) rfl rfl rfl rfl (Nat.le_of_ble_eq_true rfl) rfl dX1_clear_57 (fun H locs hw => ?_)
  obtain ⟨u12, hu12⟩ : ∃ z, z = sI u11 3 0 := ⟨_, rfl⟩
  rw [← hu12] at hw
  have hF := hF.trans (bnd_eq hu12)
  refine lv_aload_n hx hb dX1_clear_60 rfl (lv_at hl 0 rfl) ?_
  refine lv_iconst (v := 0) hx hb dX1_clear_61 (by decide) ?_
  refine g_put (v := .int 0) (C := RX1) (T := TX1) (N := 10) (ci := 3) (w' := CW cy ad (sI u12 4 0) ++ rest) X inX1 tyX1 tyX1_ok nmX1 hw 93 rfl rfl 9 (by decide) (List.mem_of_getElem? (i := 12) rfl) rfl rfl rfl rfl (Nat.le_of_ble_eq_true rfl) rfl dX1_clear_62 (fun H locs hw => ?_)
  obtain ⟨u13, hu13⟩ : ∃ z, z = sI u12 4 0 := ⟨_, rfl⟩
  rw [← hu13] at hw
  have hF := hF.trans (bnd_eq hu13)
  exact hret _ _ _ _ _ dX1_clear_65 (hF.symm.trans hsp) hw
theorem gy_X1_comesLate : gY yX1_comesLate RX1 cX1_comesLate 3 (some .boolean) wsX1_comesLate 2 := ⟨⟨_, rfl⟩, rfl, by decide +kernel, by decide +kernel, by decide +kernel⟩
def F_X1_comesLate (C : CS) (q1 : Int32) (q2 : Int32) : Int32 := (if 0 ≤ (lg_cmp (q1.toInt64 + (C.2.1 0).toInt64) q2.toInt64) then 0 else 1)
abbrev rmX1_comesLate : Room := { frames := 0, cells := 0, slots := 0, locals := 0 }
set_option maxHeartbeats 4000000 in
set_option maxRecDepth 100000 in
theorem c_X1_comesLate (l : Launch) (D : va_G) (cy : Nat → ClassId) (ad : Nat → Nat) (rest : va_W) (C : CS) (q1 : Int32) (q2 : Int32) : GMi l yX1_comesLate wsX1_comesLate rmX1_comesLate D cy [.ref (ad 93), .int q1, .int q2] (CW cy ad C ++ rest) (fun (r : Int32) (_ : Unit) => r = F_X1_comesLate C q1 q2 ∧ (r = 0 ∨ r = 1)) (fun _ => CW cy ad C ++ rest) := by
  refine GMz.intro cX1_comesLate 3 RX1 (by decide) rfl rfl (Nat.le_of_ble_eq_true rfl) ?_
  intro p e s m args below meth c A Q ls X hret hl hw
  have hx := X.1
  have hb := X.2.1
  have hl : lv_has ls 3 [(0, .ref (ad 93)), (1, .int q1), (2, .int q2)] := hl
  have inX1 : ∀ w ∈ wsX10, w ∈ wsX1_comesLate := fun w h => List.mem_cons_of_mem _ (List.mem_append_right _ h)
  obtain ⟨sp, hsp⟩ : ∃ sp, sp = F_X1_comesLate C q1 q2 := ⟨_, rfl⟩
  have hF := hsp.trans (F_X1_comesLate.eq_1 C q1 q2)
  refine lv_iload_n hx hb dX1_comesLate_0 rfl (lv_at hl 1 rfl) ?_
  refine lv_i2l (v := q1.toInt64) hx hb dX1_comesLate_1 rfl ?_
  refine lv_aload_n hx hb dX1_comesLate_2 rfl (lv_at hl 0 rfl) ?_
  refine g_get (v := .int (C.2.1 0)) (C := RX1) (T := TX1) (N := 10) (ci := 3) X inX1 hw 93 rfl rfl 5 (by decide) (List.mem_of_getElem? (i := 1) rfl) rfl rfl dX1_comesLate_3 ?_
  refine lv_i2l (v := (C.2.1 0).toInt64) hx hb dX1_comesLate_6 rfl ?_
  refine lv_ladd hx hb dX1_comesLate_7 ?_
  refine lv_iload_n hx hb dX1_comesLate_8 rfl (lv_at hl 2 rfl) ?_
  refine lv_i2l (v := q2.toInt64) hx hb dX1_comesLate_9 rfl ?_
  refine W.lcmp hx hb dX1_comesLate_10 ?_
  refine lv_if_ge (tgt := 18) hx hb dX1_comesLate_11 (by decide) (fun c1 => ?_) (fun c1 => ?_)
  · skip
    have hF := hF.trans (if_pos c1)
    refine lv_iconst (v := 0) hx hb dX1_comesLate_18 (by decide) ?_
    exact hret _ _ () _ _ _ dX1_comesLate_19 (Or.inl rfl) ⟨hF.symm.trans hsp, (Or.inl rfl)⟩ hw
  · skip
    have hF := hF.trans (if_neg c1)
    refine lv_iconst (v := 1) hx hb dX1_comesLate_14 (by decide) ?_
    refine lv_goto (tgt := 19) hx hb dX1_comesLate_15 (by decide) ?_
    exact hret _ _ () _ _ _ dX1_comesLate_19 (Or.inr rfl) ⟨hF.symm.trans hsp, (Or.inr rfl)⟩ hw
theorem gy_X1_resultOf : gY yX1_resultOf RX1 cX1_resultOf 2 (some .int) wsX1_resultOf 1 := ⟨⟨_, rfl⟩, rfl, by decide +kernel, by decide +kernel, by decide +kernel⟩
def F_X1_resultOf (C : CS) (q1 : Int32) : Int32 := (bnd (rAt 100 (C.1 5) q1) (fun r1 => (bnd (rAt 8 (C.1 1) r1) (fun r3 => (bnd (F_X3_fold C q1 r3) (fun r5 => r5))))))
abbrev rmX1_resultOf : Room := { frames := 3, cells := 0, slots := 0, locals := 67 }
set_option maxHeartbeats 4000000 in
set_option maxRecDepth 100000 in
theorem c_X1_resultOf (l : Launch) (D : va_G) (cy : Nat → ClassId) (ad : Nat → Nat) (rest : va_W) (C : CS) (q1 : Int32) : GMi l yX1_resultOf wsX1_resultOf rmX1_resultOf D cy [.ref (ad 93), .int q1] (CW cy ad C ++ rest) (fun (r : Int32) (_ : Unit) => r = F_X1_resultOf C q1) (fun _ => CW cy ad C ++ rest) := by
  refine GMi.intro cX1_resultOf 2 RX1 (by decide) rfl rfl (Nat.le_of_ble_eq_true rfl) ?_
  intro p e s m args below meth c A Q ls X hret hl hw
  have hx := X.1
  have hb := X.2.1
  have hl : lv_has ls 2 [(0, .ref (ad 93)), (1, .int q1)] := hl
  have inX0 : ∀ w ∈ wsX00, w ∈ wsX1_resultOf := fun w h => List.mem_cons_of_mem _ (List.mem_append_left _ (List.mem_append_left _ (List.mem_append_left _ (List.mem_append_right _ h))))
  have inX1 : ∀ w ∈ wsX10, w ∈ wsX1_resultOf := fun w h => List.mem_cons_of_mem _ (List.mem_append_left _ (List.mem_append_left _ (List.mem_append_left _ (List.mem_append_left _ (List.mem_append_right _ h)))))
  obtain ⟨sp, hsp⟩ : ∃ sp, sp = F_X1_resultOf C q1 := ⟨_, rfl⟩
  have hF := hsp.trans (F_X1_resultOf.eq_1 C q1)
  refine lv_aload_n hx hb dX1_resultOf_0 rfl (lv_at hl 0 rfl) ?_
  refine g_get (v := .ref (ad 94)) (C := RX1) (T := TX1) (N := 10) (ci := 3) X inX1 hw 93 rfl rfl 2 (by decide) (List.mem_of_getElem? (i := 1) rfl) rfl rfl dX1_resultOf_1 ?_
  refine lv_iload_n hx hb dX1_resultOf_4 rfl (lv_at hl 1 rfl) ?_
  refine lv_aload_n hx hb dX1_resultOf_5 rfl (lv_at hl 0 rfl) ?_
  refine g_get (v := .ref (ad 2)) (C := RX1) (T := TX1) (N := 10) (ci := 3) X inX1 hw 93 rfl rfl 1 (by decide) (List.mem_of_getElem? (i := 2) rfl) rfl rfl dX1_resultOf_6 ?_
  refine lv_aload_n hx hb dX1_resultOf_9 rfl (lv_at hl 0 rfl) ?_
  refine g_get (v := .ref (ad 95)) (C := RX1) (T := TX1) (N := 10) (ci := 3) X inX1 hw 93 rfl rfl 3 (by decide) (List.mem_of_getElem? (i := 3) rfl) rfl rfl dX1_resultOf_10 ?_
  refine g_get (v := .ref (ad 10)) (C := RX0) (T := TX0) (N := 10) (ci := 2) X inX0 hw 95 rfl rfl 0 (by decide) (List.mem_of_getElem? (i := 4) rfl) rfl rfl dX1_resultOf_13 ?_
  refine lv_iload_n hx hb dX1_resultOf_16 rfl (lv_at hl 1 rfl) ?_
  refine gcV_i (rest := [.ref (ad 2), .int q1, .ref (ad 94)]) X (cR_at l D cy ad rest C 5 (by decide) q1) gy_X4_at gX1_resultOf_X4_at ⟨rfl, rfl, Nat.le_of_ble_eq_true rfl, Nat.le_of_ble_eq_true rfl⟩ 10 rfl rfl rfl hl rfl (Nat.le_of_ble_eq_true rfl) dX1_resultOf_17 ⟨Nat.zero_le _, Nat.zero_le _⟩ hw (fun r1 _ H locs hr1 hw => ?_)
  have hr1 : r1 = rAt 100 (C.1 5) q1 := hr1
  have hF := hF.trans (bnd_eq hr1)
  refine gcV_i (rest := [.int q1, .ref (ad 94)]) X (cR_at l D cy ad rest C 1 (by decide) r1) gy_X4_at gX1_resultOf_X4_at ⟨rfl, rfl, Nat.le_of_ble_eq_true rfl, Nat.le_of_ble_eq_true rfl⟩ 2 rfl rfl rfl hl rfl (Nat.le_of_ble_eq_true rfl) dX1_resultOf_20 ⟨Nat.zero_le _, Nat.zero_le _⟩ hw (fun r3 _ H locs hr3 hw => ?_)
  have hr3 : r3 = rAt 8 (C.1 1) r1 := hr3
  have hF := hF.trans (bnd_eq hr3)
  refine gcV_i (rest := []) X (c_X3_fold l D cy ad rest C q1 r3) gy_X3_fold gX1_resultOf_X3_fold ⟨rfl, rfl, Nat.le_of_ble_eq_true rfl, Nat.le_of_ble_eq_true rfl⟩ 94 rfl rfl rfl hl rfl (Nat.le_of_ble_eq_true rfl) dX1_resultOf_23 ⟨Nat.zero_le _, Nat.zero_le _⟩ hw (fun r5 _ H locs hr5 hw => ?_)
  have hr5 : r5 = F_X3_fold C q1 r3 := hr5
  have hF := hF.trans (bnd_eq hr5)
  exact hret _ _ () _ _ _ dX1_resultOf_26 (hF.symm.trans hsp) hw
theorem gy_X1_retract : gY yX1_retract RX1 cX1_retract 2 none wsX1_retract 1 := ⟨⟨_, rfl⟩, rfl, by decide +kernel, by decide +kernel, by decide +kernel⟩
def F_X1_retract (C : CS) (q1 : Int32) : CS := (bnd (rAt 100 (C.1 11) q1) (fun r1 => (bnd (rAt 100 (C.1 12) q1) (fun r3 => (bnd (rAt 100 (C.1 13) q1) (fun r5 => (bnd (rAt 100 (C.1 5) q1) (fun r7 => (bnd (F_X2_enter C 2 q1 r1 r3 r5 r7) (fun u10 => (bnd (sR u10 10 (rPut 100 (u10.1 10) q1 0)) (fun u12 => u12))))))))))))
abbrev rmX1_retract : Room := { frames := 2, cells := 0, slots := 0, locals := 49 }
set_option maxHeartbeats 4000000 in
set_option maxRecDepth 100000 in
theorem c_X1_retract (l : Launch) (D : va_G) (cy : Nat → ClassId) (ad : Nat → Nat) (rest : va_W) (C : CS) (q1 : Int32) : GMv l yX1_retract wsX1_retract rmX1_retract D cy [.ref (ad 93), .int q1] (CW cy ad C ++ rest) (fun (u : CS) => u = F_X1_retract C q1) (fun u => CW cy ad u ++ rest) := by
  refine GMv.intro cX1_retract 2 RX1 (by decide) rfl rfl (Nat.le_of_ble_eq_true rfl) ?_
  intro p e s m args below meth c A Q ls X hret hl hw
  have hx := X.1
  have hb := X.2.1
  have hl : lv_has ls 2 [(0, .ref (ad 93)), (1, .int q1)] := hl
  have inX0 : ∀ w ∈ wsX00, w ∈ wsX1_retract := fun w h => List.mem_cons_of_mem _ (List.mem_append_left _ (List.mem_append_left _ (List.mem_append_left _ (List.mem_append_right _ h))))
  have inX1 : ∀ w ∈ wsX10, w ∈ wsX1_retract := fun w h => List.mem_cons_of_mem _ (List.mem_append_left _ (List.mem_append_left _ (List.mem_append_left _ (List.mem_append_left _ (List.mem_append_right _ h)))))
  obtain ⟨sp, hsp⟩ : ∃ sp, sp = F_X1_retract C q1 := ⟨_, rfl⟩
  have hF := hsp.trans (F_X1_retract.eq_1 C q1)
  refine lv_aload_n hx hb dX1_retract_0 rfl (lv_at hl 0 rfl) ?_
  refine g_get (v := .ref (ad 96)) (C := RX1) (T := TX1) (N := 10) (ci := 3) X inX1 hw 93 rfl rfl 4 (by decide) (List.mem_of_getElem? (i := 1) rfl) rfl rfl dX1_retract_1 ?_
  refine lv_iconst (v := 2) hx hb dX1_retract_4 (by decide) ?_
  refine lv_iload_n hx hb dX1_retract_5 rfl (lv_at hl 1 rfl) ?_
  refine lv_aload_n hx hb dX1_retract_6 rfl (lv_at hl 0 rfl) ?_
  refine g_get (v := .ref (ad 95)) (C := RX1) (T := TX1) (N := 10) (ci := 3) X inX1 hw 93 rfl rfl 3 (by decide) (List.mem_of_getElem? (i := 2) rfl) rfl rfl dX1_retract_7 ?_
  refine g_get (v := .ref (ad 22)) (C := RX0) (T := TX0) (N := 10) (ci := 2) X inX0 hw 95 rfl rfl 6 (by decide) (List.mem_of_getElem? (i := 3) rfl) rfl rfl dX1_retract_10 ?_
  refine lv_iload_n hx hb dX1_retract_13 rfl (lv_at hl 1 rfl) ?_
  refine gcV_i (rest := [.int q1, .int 2, .ref (ad 96)]) X (cR_at l D cy ad rest C 11 (by decide) q1) gy_X4_at gX1_retract_X4_at ⟨rfl, rfl, Nat.le_of_ble_eq_true rfl, Nat.le_of_ble_eq_true rfl⟩ 22 rfl rfl rfl hl rfl (Nat.le_of_ble_eq_true rfl) dX1_retract_14 ⟨Nat.zero_le _, Nat.zero_le _⟩ hw (fun r1 _ H locs hr1 hw => ?_)
  have hr1 : r1 = rAt 100 (C.1 11) q1 := hr1
  have hF := hF.trans (bnd_eq hr1)
  refine lv_aload_n hx hb dX1_retract_17 rfl (lv_at hl 0 rfl) ?_
  refine g_get (v := .ref (ad 95)) (C := RX1) (T := TX1) (N := 10) (ci := 3) X inX1 hw 93 rfl rfl 3 (by decide) (List.mem_of_getElem? (i := 2) rfl) rfl rfl dX1_retract_18 ?_
  refine g_get (v := .ref (ad 24)) (C := RX0) (T := TX0) (N := 10) (ci := 2) X inX0 hw 95 rfl rfl 7 (by decide) (List.mem_of_getElem? (i := 4) rfl) rfl rfl dX1_retract_21 ?_
  refine lv_iload_n hx hb dX1_retract_24 rfl (lv_at hl 1 rfl) ?_
  refine gcV_i (rest := [.int r1, .int q1, .int 2, .ref (ad 96)]) X (cR_at l D cy ad rest C 12 (by decide) q1) gy_X4_at gX1_retract_X4_at ⟨rfl, rfl, Nat.le_of_ble_eq_true rfl, Nat.le_of_ble_eq_true rfl⟩ 24 rfl rfl rfl hl rfl (Nat.le_of_ble_eq_true rfl) dX1_retract_25 ⟨Nat.zero_le _, Nat.zero_le _⟩ hw (fun r3 _ H locs hr3 hw => ?_)
  have hr3 : r3 = rAt 100 (C.1 12) q1 := hr3
  have hF := hF.trans (bnd_eq hr3)
  refine lv_aload_n hx hb dX1_retract_28 rfl (lv_at hl 0 rfl) ?_
  refine g_get (v := .ref (ad 95)) (C := RX1) (T := TX1) (N := 10) (ci := 3) X inX1 hw 93 rfl rfl 3 (by decide) (List.mem_of_getElem? (i := 2) rfl) rfl rfl dX1_retract_29 ?_
  refine g_get (v := .ref (ad 26)) (C := RX0) (T := TX0) (N := 10) (ci := 2) X inX0 hw 95 rfl rfl 8 (by decide) (List.mem_of_getElem? (i := 5) rfl) rfl rfl dX1_retract_32 ?_
  refine lv_iload_n hx hb dX1_retract_35 rfl (lv_at hl 1 rfl) ?_
  refine gcV_i (rest := [.int r3, .int r1, .int q1, .int 2, .ref (ad 96)]) X (cR_at l D cy ad rest C 13 (by decide) q1) gy_X4_at gX1_retract_X4_at ⟨rfl, rfl, Nat.le_of_ble_eq_true rfl, Nat.le_of_ble_eq_true rfl⟩ 26 rfl rfl rfl hl rfl (Nat.le_of_ble_eq_true rfl) dX1_retract_36 ⟨Nat.zero_le _, Nat.zero_le _⟩ hw (fun r5 _ H locs hr5 hw => ?_)
  have hr5 : r5 = rAt 100 (C.1 13) q1 := hr5
  have hF := hF.trans (bnd_eq hr5)
  refine lv_aload_n hx hb dX1_retract_39 rfl (lv_at hl 0 rfl) ?_
  refine g_get (v := .ref (ad 95)) (C := RX1) (T := TX1) (N := 10) (ci := 3) X inX1 hw 93 rfl rfl 3 (by decide) (List.mem_of_getElem? (i := 2) rfl) rfl rfl dX1_retract_40 ?_
  refine g_get (v := .ref (ad 10)) (C := RX0) (T := TX0) (N := 10) (ci := 2) X inX0 hw 95 rfl rfl 0 (by decide) (List.mem_of_getElem? (i := 6) rfl) rfl rfl dX1_retract_43 ?_
  refine lv_iload_n hx hb dX1_retract_46 rfl (lv_at hl 1 rfl) ?_
  refine gcV_i (rest := [.int r5, .int r3, .int r1, .int q1, .int 2, .ref (ad 96)]) X (cR_at l D cy ad rest C 5 (by decide) q1) gy_X4_at gX1_retract_X4_at ⟨rfl, rfl, Nat.le_of_ble_eq_true rfl, Nat.le_of_ble_eq_true rfl⟩ 10 rfl rfl rfl hl rfl (Nat.le_of_ble_eq_true rfl) dX1_retract_47 ⟨Nat.zero_le _, Nat.zero_le _⟩ hw (fun r7 _ H locs hr7 hw => ?_)
  have hr7 : r7 = rAt 100 (C.1 5) q1 := hr7
  have hF := hF.trans (bnd_eq hr7)
  refine gcV_v (rest := []) X (c_X2_enter l D cy ad rest C 2 q1 r1 r3 r5 r7) gy_X2_enter gX1_retract_X2_enter ⟨rfl, rfl, Nat.le_of_ble_eq_true rfl, Nat.le_of_ble_eq_true rfl⟩ 96 rfl rfl rfl hl rfl (Nat.le_of_ble_eq_true rfl) dX1_retract_50 ⟨Nat.zero_le _, Nat.zero_le _⟩ hw (fun u10 H locs hu10 hw => ?_)
  have hu10 : u10 = F_X2_enter C 2 q1 r1 r3 r5 r7 := hu10
  have hF := hF.trans (bnd_eq hu10)
  refine lv_aload_n hx hb dX1_retract_53 rfl (lv_at hl 0 rfl) ?_
  refine g_get (v := .ref (ad 95)) (C := RX1) (T := TX1) (N := 10) (ci := 3) X inX1 hw 93 rfl rfl 3 (by decide) (List.mem_of_getElem? (i := 2) rfl) rfl rfl dX1_retract_54 ?_
  refine g_get (v := .ref (ad 20)) (C := RX0) (T := TX0) (N := 10) (ci := 2) X inX0 hw 95 rfl rfl 5 (by decide) (List.mem_of_getElem? (i := 7) rfl) rfl rfl dX1_retract_57 ?_
  refine lv_iload_n hx hb dX1_retract_60 rfl (lv_at hl 1 rfl) ?_
  refine lv_iconst (v := 0) hx hb dX1_retract_61 (by decide) ?_
  refine gcV_v (rest := []) X (cR_put l D cy ad rest u10 10 (by decide) q1 0) gy_X4_put gX1_retract_X4_put ⟨rfl, rfl, Nat.le_of_ble_eq_true rfl, Nat.le_of_ble_eq_true rfl⟩ 20 rfl rfl rfl hl rfl (Nat.le_of_ble_eq_true rfl) dX1_retract_62 ⟨Nat.zero_le _, Nat.zero_le _⟩ hw (fun u12 H locs hu12 hw => ?_)
  have hu12 : u12 = sR u10 10 (rPut 100 (u10.1 10) q1 0) := hu12
  have hF := hF.trans (bnd_eq hu12)
  exact hret _ _ _ _ _ dX1_retract_65 (hF.symm.trans hsp) hw
theorem gy_X1_letFire : gY yX1_letFire RX1 cX1_letFire 5 (some .int) wsX1_letFire 2 := ⟨⟨_, rfl⟩, rfl, by decide +kernel, by decide +kernel, by decide +kernel⟩
def F_X1_letFire (C : CS) (q1 : Int32) (q2 : Int32) : Int32 × CS := (bnd (F_X1_resultOf C q1) (fun r1 => (bnd (F_X0_hasFired C q1) (fun r3 => (if r3 = 0 then (bnd (rAt 100 (C.1 6) q1) (fun r6 => (bnd (rAt 100 (C.1 7) q1) (fun r8 => (bnd (rAt 100 (C.1 5) q1) (fun r10 => (bnd (F_X2_enter C q2 q1 r1 r6 r8 r10) (fun u13 => (bnd (F_X0_noteFired u13 q1 r1) (fun u15 => (1, u15))))))))))) else (bnd (F_X0_differsFromFired C q1 r1) (fun r16 => (if r16 = 0 then (if q2 = 0 then (0, C) else (bnd (rAt 100 (C.1 6) q1) (fun r20 => (bnd (rAt 100 (C.1 7) q1) (fun r22 => (bnd (rAt 100 (C.1 5) q1) (fun r24 => (bnd (F_X2_enter C q2 q1 r1 r20 r22 r24) (fun u27 => (bnd (F_X0_noteFired u27 q1 r1) (fun u29 => (1, u29)))))))))))) else (bnd (F_X1_retract C q1) (fun u31 => (bnd (rAt 100 (u31.1 6) q1) (fun r32 => (bnd (rAt 100 (u31.1 7) q1) (fun r34 => (bnd (rAt 100 (u31.1 5) q1) (fun r36 => (bnd (F_X2_enter u31 q2 q1 r1 r32 r34 r36) (fun u39 => (bnd (F_X0_noteFired u39 q1 r1) (fun u41 => (2, u41)))))))))))))))))))))
abbrev rmX1_letFire : Room := { frames := 4, cells := 0, slots := 0, locals := 88 }
set_option maxHeartbeats 4000000 in
set_option maxRecDepth 100000 in
theorem c_X1_letFire (l : Launch) (D : va_G) (cy : Nat → ClassId) (ad : Nat → Nat) (rest : va_W) (C : CS) (q1 : Int32) (q2 : Int32) : GMi l yX1_letFire wsX1_letFire rmX1_letFire D cy [.ref (ad 93), .int q1, .int q2] (CW cy ad C ++ rest) (fun (r : Int32) (u : CS) => r = (F_X1_letFire C q1 q2).1 ∧ u = (F_X1_letFire C q1 q2).2) (fun u => CW cy ad u ++ rest) := by
  refine GMi.intro cX1_letFire 5 RX1 (by decide) rfl rfl (Nat.le_of_ble_eq_true rfl) ?_
  intro p e s m args below meth c A Q ls X hret hl hw
  have hx := X.1
  have hb := X.2.1
  have hl : lv_has ls 5 [(0, .ref (ad 93)), (1, .int q1), (2, .int q2)] := hl
  have inX0 : ∀ w ∈ wsX00, w ∈ wsX1_letFire := fun w h => List.mem_cons_of_mem _ (List.mem_append_left _ (List.mem_append_left _ (List.mem_append_left _ (List.mem_append_left _ (List.mem_append_right _ h)))))
  have inX1 : ∀ w ∈ wsX10, w ∈ wsX1_letFire := fun w h => List.mem_cons_of_mem _ (List.mem_append_left _ (List.mem_append_left _ (List.mem_append_left _ (List.mem_append_left _ (List.mem_append_left _ (List.mem_append_right _ h))))))
  obtain ⟨sp, hsp⟩ : ∃ sp, sp = F_X1_letFire C q1 q2 := ⟨_, rfl⟩
  have hF := hsp.trans (F_X1_letFire.eq_1 C q1 q2)
  refine lv_aload_n hx hb dX1_letFire_0 rfl (lv_at hl 0 rfl) ?_
  refine lv_iload_n hx hb dX1_letFire_1 rfl (lv_at hl 1 rfl) ?_
  refine gcV_i (rest := []) X (c_X1_resultOf l D cy ad rest C q1) gy_X1_resultOf gX1_letFire_X1_resultOf ⟨rfl, rfl, Nat.le_of_ble_eq_true rfl, Nat.le_of_ble_eq_true rfl⟩ 93 rfl rfl rfl hl rfl (Nat.le_of_ble_eq_true rfl) dX1_letFire_2 ⟨Nat.zero_le _, Nat.zero_le _⟩ hw (fun r1 _ H locs hr1 hw => ?_)
  have hr1 : r1 = F_X1_resultOf C q1 := hr1
  have hF := hF.trans (bnd_eq hr1)
  refine lv_istore_n (lv' := [(3, .int r1), (0, .ref (ad 93)), (1, .int q1), (2, .int q2)]) hx hb dX1_letFire_5 rfl hl (by decide) rfl (fun ls hl => ?_)
  refine lv_iconst (v := 1) hx hb dX1_letFire_6 (by decide) ?_
  refine lv_istore (lv' := [(4, .int 1), (3, .int r1), (0, .ref (ad 93)), (1, .int q1), (2, .int q2)]) hx hb dX1_letFire_7 hl (by decide) rfl (fun ls hl => ?_)
  refine lv_aload_n hx hb dX1_letFire_9 rfl (lv_at hl 2 rfl) ?_
  refine g_get (v := .ref (ad 95)) (C := RX1) (T := TX1) (N := 10) (ci := 3) X inX1 hw 93 rfl rfl 3 (by decide) (List.mem_of_getElem? (i := 1) rfl) rfl rfl dX1_letFire_10 ?_
  refine lv_iload_n hx hb dX1_letFire_13 rfl (lv_at hl 3 rfl) ?_
  refine gcV_i (rest := []) X (c_X0_hasFired l D cy ad rest C q1) gy_X0_hasFired gX1_letFire_X0_hasFired ⟨rfl, rfl, Nat.le_of_ble_eq_true rfl, Nat.le_of_ble_eq_true rfl⟩ 95 rfl rfl rfl hl rfl (Nat.le_of_ble_eq_true rfl) dX1_letFire_14 ⟨Nat.zero_le _, Nat.zero_le _⟩ hw (fun r3 _ H locs hr3 hw => ?_)
  obtain ⟨hr3, zr3⟩ : r3 = F_X0_hasFired C q1 ∧ (r3 = 0 ∨ r3 = 1) := hr3
  have hF := hF.trans (bnd_eq hr3)
  refine lv_if_eq (tgt := 49) hx hb dX1_letFire_17 (by decide) (fun c5 => ?_) (fun c5 => ?_)
  · skip
    have hF := hF.trans (if_pos c5)
    refine lv_aload_n hx hb dX1_letFire_49 rfl (lv_at hl 2 rfl) ?_
    refine g_get (v := .ref (ad 96)) (C := RX1) (T := TX1) (N := 10) (ci := 3) X inX1 hw 93 rfl rfl 4 (by decide) (List.mem_of_getElem? (i := 2) rfl) rfl rfl dX1_letFire_50 ?_
    refine lv_iload_n hx hb dX1_letFire_53 rfl (lv_at hl 4 rfl) ?_
    refine lv_iload_n hx hb dX1_letFire_54 rfl (lv_at hl 3 rfl) ?_
    refine lv_iload_n hx hb dX1_letFire_55 rfl (lv_at hl 1 rfl) ?_
    refine lv_aload_n hx hb dX1_letFire_56 rfl (lv_at hl 2 rfl) ?_
    refine g_get (v := .ref (ad 95)) (C := RX1) (T := TX1) (N := 10) (ci := 3) X inX1 hw 93 rfl rfl 3 (by decide) (List.mem_of_getElem? (i := 1) rfl) rfl rfl dX1_letFire_57 ?_
    refine g_get (v := .ref (ad 12)) (C := RX0) (T := TX0) (N := 10) (ci := 2) X inX0 hw 95 rfl rfl 1 (by decide) (List.mem_of_getElem? (i := 3) rfl) rfl rfl dX1_letFire_60 ?_
    refine lv_iload_n hx hb dX1_letFire_63 rfl (lv_at hl 3 rfl) ?_
    refine gcV_i (rest := [.int r1, .int q1, .int q2, .ref (ad 96)]) X (cR_at l D cy ad rest C 6 (by decide) q1) gy_X4_at gX1_letFire_X4_at ⟨rfl, rfl, Nat.le_of_ble_eq_true rfl, Nat.le_of_ble_eq_true rfl⟩ 12 rfl rfl rfl hl rfl (Nat.le_of_ble_eq_true rfl) dX1_letFire_64 ⟨Nat.zero_le _, Nat.zero_le _⟩ hw (fun r6 _ H locs hr6 hw => ?_)
    have hr6 : r6 = rAt 100 (C.1 6) q1 := hr6
    have hF := hF.trans (bnd_eq hr6)
    refine lv_aload_n hx hb dX1_letFire_67 rfl (lv_at hl 2 rfl) ?_
    refine g_get (v := .ref (ad 95)) (C := RX1) (T := TX1) (N := 10) (ci := 3) X inX1 hw 93 rfl rfl 3 (by decide) (List.mem_of_getElem? (i := 1) rfl) rfl rfl dX1_letFire_68 ?_
    refine g_get (v := .ref (ad 14)) (C := RX0) (T := TX0) (N := 10) (ci := 2) X inX0 hw 95 rfl rfl 2 (by decide) (List.mem_of_getElem? (i := 4) rfl) rfl rfl dX1_letFire_71 ?_
    refine lv_iload_n hx hb dX1_letFire_74 rfl (lv_at hl 3 rfl) ?_
    refine gcV_i (rest := [.int r6, .int r1, .int q1, .int q2, .ref (ad 96)]) X (cR_at l D cy ad rest C 7 (by decide) q1) gy_X4_at gX1_letFire_X4_at ⟨rfl, rfl, Nat.le_of_ble_eq_true rfl, Nat.le_of_ble_eq_true rfl⟩ 14 rfl rfl rfl hl rfl (Nat.le_of_ble_eq_true rfl) dX1_letFire_75 ⟨Nat.zero_le _, Nat.zero_le _⟩ hw (fun r8 _ H locs hr8 hw => ?_)
    have hr8 : r8 = rAt 100 (C.1 7) q1 := hr8
    have hF := hF.trans (bnd_eq hr8)
    refine lv_aload_n hx hb dX1_letFire_78 rfl (lv_at hl 2 rfl) ?_
    refine g_get (v := .ref (ad 95)) (C := RX1) (T := TX1) (N := 10) (ci := 3) X inX1 hw 93 rfl rfl 3 (by decide) (List.mem_of_getElem? (i := 1) rfl) rfl rfl dX1_letFire_79 ?_
    refine g_get (v := .ref (ad 10)) (C := RX0) (T := TX0) (N := 10) (ci := 2) X inX0 hw 95 rfl rfl 0 (by decide) (List.mem_of_getElem? (i := 5) rfl) rfl rfl dX1_letFire_82 ?_
    refine lv_iload_n hx hb dX1_letFire_85 rfl (lv_at hl 3 rfl) ?_
    refine gcV_i (rest := [.int r8, .int r6, .int r1, .int q1, .int q2, .ref (ad 96)]) X (cR_at l D cy ad rest C 5 (by decide) q1) gy_X4_at gX1_letFire_X4_at ⟨rfl, rfl, Nat.le_of_ble_eq_true rfl, Nat.le_of_ble_eq_true rfl⟩ 10 rfl rfl rfl hl rfl (Nat.le_of_ble_eq_true rfl) dX1_letFire_86 ⟨Nat.zero_le _, Nat.zero_le _⟩ hw (fun r10 _ H locs hr10 hw => ?_)
    have hr10 : r10 = rAt 100 (C.1 5) q1 := hr10
    have hF := hF.trans (bnd_eq hr10)
    refine gcV_v (rest := []) X (c_X2_enter l D cy ad rest C q2 q1 r1 r6 r8 r10) gy_X2_enter gX1_letFire_X2_enter ⟨rfl, rfl, Nat.le_of_ble_eq_true rfl, Nat.le_of_ble_eq_true rfl⟩ 96 rfl rfl rfl hl rfl (Nat.le_of_ble_eq_true rfl) dX1_letFire_89 ⟨Nat.zero_le _, Nat.zero_le _⟩ hw (fun u13 H locs hu13 hw => ?_)
    have hu13 : u13 = F_X2_enter C q2 q1 r1 r6 r8 r10 := hu13
    have hF := hF.trans (bnd_eq hu13)
    refine lv_aload_n hx hb dX1_letFire_92 rfl (lv_at hl 2 rfl) ?_
    refine g_get (v := .ref (ad 95)) (C := RX1) (T := TX1) (N := 10) (ci := 3) X inX1 hw 93 rfl rfl 3 (by decide) (List.mem_of_getElem? (i := 1) rfl) rfl rfl dX1_letFire_93 ?_
    refine lv_iload_n hx hb dX1_letFire_96 rfl (lv_at hl 3 rfl) ?_
    refine lv_iload_n hx hb dX1_letFire_97 rfl (lv_at hl 1 rfl) ?_
    refine gcV_v (rest := []) X (c_X0_noteFired l D cy ad rest u13 q1 r1) gy_X0_noteFired gX1_letFire_X0_noteFired ⟨rfl, rfl, Nat.le_of_ble_eq_true rfl, Nat.le_of_ble_eq_true rfl⟩ 95 rfl rfl rfl hl rfl (Nat.le_of_ble_eq_true rfl) dX1_letFire_98 ⟨Nat.zero_le _, Nat.zero_le _⟩ hw (fun u15 H locs hu15 hw => ?_)
    have hu15 : u15 = F_X0_noteFired u13 q1 r1 := hu15
    have hF := hF.trans (bnd_eq hu15)
    refine lv_iload hx hb dX1_letFire_101 (lv_at hl 0 rfl) ?_
    exact hret _ _ _ _ _ _ dX1_letFire_103 ⟨congrArg Prod.fst (hF.symm.trans hsp), congrArg Prod.snd (hF.symm.trans hsp)⟩ hw
  · skip
    have hF := hF.trans (if_neg c5)
    refine lv_aload_n hx hb dX1_letFire_20 rfl (lv_at hl 2 rfl) ?_
    refine g_get (v := .ref (ad 95)) (C := RX1) (T := TX1) (N := 10) (ci := 3) X inX1 hw 93 rfl rfl 3 (by decide) (List.mem_of_getElem? (i := 1) rfl) rfl rfl dX1_letFire_21 ?_
    refine lv_iload_n hx hb dX1_letFire_24 rfl (lv_at hl 3 rfl) ?_
    refine lv_iload_n hx hb dX1_letFire_25 rfl (lv_at hl 1 rfl) ?_
    refine gcV_i (rest := []) X (c_X0_differsFromFired l D cy ad rest C q1 r1) gy_X0_differsFromFired gX1_letFire_X0_differsFromFired ⟨rfl, rfl, Nat.le_of_ble_eq_true rfl, Nat.le_of_ble_eq_true rfl⟩ 95 rfl rfl rfl hl rfl (Nat.le_of_ble_eq_true rfl) dX1_letFire_26 ⟨Nat.zero_le _, Nat.zero_le _⟩ hw (fun r16 _ H locs hr16 hw => ?_)
    obtain ⟨hr16, zr16⟩ : r16 = F_X0_differsFromFired C q1 r1 ∧ (r16 = 0 ∨ r16 = 1) := hr16
    have hF := hF.trans (bnd_eq hr16)
    refine lv_if_eq (tgt := 43) hx hb dX1_letFire_29 (by decide) (fun c18 => ?_) (fun c18 => ?_)
    · skip
      have hF := hF.trans (if_pos c18)
      refine lv_iload_n hx hb dX1_letFire_43 rfl (lv_at hl 4 rfl) ?_
      refine lv_if_ne (tgt := 49) hx hb dX1_letFire_44 (by decide) (fun c19 => ?_) (fun c19 => ?_)
      · skip
        have hF := hF.trans (if_neg c19)
        refine lv_aload_n hx hb dX1_letFire_49 rfl (lv_at hl 2 rfl) ?_
        refine g_get (v := .ref (ad 96)) (C := RX1) (T := TX1) (N := 10) (ci := 3) X inX1 hw 93 rfl rfl 4 (by decide) (List.mem_of_getElem? (i := 2) rfl) rfl rfl dX1_letFire_50 ?_
        refine lv_iload_n hx hb dX1_letFire_53 rfl (lv_at hl 4 rfl) ?_
        refine lv_iload_n hx hb dX1_letFire_54 rfl (lv_at hl 3 rfl) ?_
        refine lv_iload_n hx hb dX1_letFire_55 rfl (lv_at hl 1 rfl) ?_
        refine lv_aload_n hx hb dX1_letFire_56 rfl (lv_at hl 2 rfl) ?_
        refine g_get (v := .ref (ad 95)) (C := RX1) (T := TX1) (N := 10) (ci := 3) X inX1 hw 93 rfl rfl 3 (by decide) (List.mem_of_getElem? (i := 1) rfl) rfl rfl dX1_letFire_57 ?_
        refine g_get (v := .ref (ad 12)) (C := RX0) (T := TX0) (N := 10) (ci := 2) X inX0 hw 95 rfl rfl 1 (by decide) (List.mem_of_getElem? (i := 3) rfl) rfl rfl dX1_letFire_60 ?_
        refine lv_iload_n hx hb dX1_letFire_63 rfl (lv_at hl 3 rfl) ?_
        refine gcV_i (rest := [.int r1, .int q1, .int q2, .ref (ad 96)]) X (cR_at l D cy ad rest C 6 (by decide) q1) gy_X4_at gX1_letFire_X4_at ⟨rfl, rfl, Nat.le_of_ble_eq_true rfl, Nat.le_of_ble_eq_true rfl⟩ 12 rfl rfl rfl hl rfl (Nat.le_of_ble_eq_true rfl) dX1_letFire_64 ⟨Nat.zero_le _, Nat.zero_le _⟩ hw (fun r20 _ H locs hr20 hw => ?_)
        have hr20 : r20 = rAt 100 (C.1 6) q1 := hr20
        have hF := hF.trans (bnd_eq hr20)
        refine lv_aload_n hx hb dX1_letFire_67 rfl (lv_at hl 2 rfl) ?_
        refine g_get (v := .ref (ad 95)) (C := RX1) (T := TX1) (N := 10) (ci := 3) X inX1 hw 93 rfl rfl 3 (by decide) (List.mem_of_getElem? (i := 1) rfl) rfl rfl dX1_letFire_68 ?_
        refine g_get (v := .ref (ad 14)) (C := RX0) (T := TX0) (N := 10) (ci := 2) X inX0 hw 95 rfl rfl 2 (by decide) (List.mem_of_getElem? (i := 4) rfl) rfl rfl dX1_letFire_71 ?_
        refine lv_iload_n hx hb dX1_letFire_74 rfl (lv_at hl 3 rfl) ?_
        refine gcV_i (rest := [.int r20, .int r1, .int q1, .int q2, .ref (ad 96)]) X (cR_at l D cy ad rest C 7 (by decide) q1) gy_X4_at gX1_letFire_X4_at ⟨rfl, rfl, Nat.le_of_ble_eq_true rfl, Nat.le_of_ble_eq_true rfl⟩ 14 rfl rfl rfl hl rfl (Nat.le_of_ble_eq_true rfl) dX1_letFire_75 ⟨Nat.zero_le _, Nat.zero_le _⟩ hw (fun r22 _ H locs hr22 hw => ?_)
        have hr22 : r22 = rAt 100 (C.1 7) q1 := hr22
        have hF := hF.trans (bnd_eq hr22)
        refine lv_aload_n hx hb dX1_letFire_78 rfl (lv_at hl 2 rfl) ?_
        refine g_get (v := .ref (ad 95)) (C := RX1) (T := TX1) (N := 10) (ci := 3) X inX1 hw 93 rfl rfl 3 (by decide) (List.mem_of_getElem? (i := 1) rfl) rfl rfl dX1_letFire_79 ?_
        refine g_get (v := .ref (ad 10)) (C := RX0) (T := TX0) (N := 10) (ci := 2) X inX0 hw 95 rfl rfl 0 (by decide) (List.mem_of_getElem? (i := 5) rfl) rfl rfl dX1_letFire_82 ?_
        refine lv_iload_n hx hb dX1_letFire_85 rfl (lv_at hl 3 rfl) ?_
        refine gcV_i (rest := [.int r22, .int r20, .int r1, .int q1, .int q2, .ref (ad 96)]) X (cR_at l D cy ad rest C 5 (by decide) q1) gy_X4_at gX1_letFire_X4_at ⟨rfl, rfl, Nat.le_of_ble_eq_true rfl, Nat.le_of_ble_eq_true rfl⟩ 10 rfl rfl rfl hl rfl (Nat.le_of_ble_eq_true rfl) dX1_letFire_86 ⟨Nat.zero_le _, Nat.zero_le _⟩ hw (fun r24 _ H locs hr24 hw => ?_)
        have hr24 : r24 = rAt 100 (C.1 5) q1 := hr24
        have hF := hF.trans (bnd_eq hr24)
        refine gcV_v (rest := []) X (c_X2_enter l D cy ad rest C q2 q1 r1 r20 r22 r24) gy_X2_enter gX1_letFire_X2_enter ⟨rfl, rfl, Nat.le_of_ble_eq_true rfl, Nat.le_of_ble_eq_true rfl⟩ 96 rfl rfl rfl hl rfl (Nat.le_of_ble_eq_true rfl) dX1_letFire_89 ⟨Nat.zero_le _, Nat.zero_le _⟩ hw (fun u27 H locs hu27 hw => ?_)
        have hu27 : u27 = F_X2_enter C q2 q1 r1 r20 r22 r24 := hu27
        have hF := hF.trans (bnd_eq hu27)
        refine lv_aload_n hx hb dX1_letFire_92 rfl (lv_at hl 2 rfl) ?_
        refine g_get (v := .ref (ad 95)) (C := RX1) (T := TX1) (N := 10) (ci := 3) X inX1 hw 93 rfl rfl 3 (by decide) (List.mem_of_getElem? (i := 1) rfl) rfl rfl dX1_letFire_93 ?_
        refine lv_iload_n hx hb dX1_letFire_96 rfl (lv_at hl 3 rfl) ?_
        refine lv_iload_n hx hb dX1_letFire_97 rfl (lv_at hl 1 rfl) ?_
        refine gcV_v (rest := []) X (c_X0_noteFired l D cy ad rest u27 q1 r1) gy_X0_noteFired gX1_letFire_X0_noteFired ⟨rfl, rfl, Nat.le_of_ble_eq_true rfl, Nat.le_of_ble_eq_true rfl⟩ 95 rfl rfl rfl hl rfl (Nat.le_of_ble_eq_true rfl) dX1_letFire_98 ⟨Nat.zero_le _, Nat.zero_le _⟩ hw (fun u29 H locs hu29 hw => ?_)
        have hu29 : u29 = F_X0_noteFired u27 q1 r1 := hu29
        have hF := hF.trans (bnd_eq hu29)
        refine lv_iload hx hb dX1_letFire_101 (lv_at hl 0 rfl) ?_
        exact hret _ _ _ _ _ _ dX1_letFire_103 ⟨congrArg Prod.fst (hF.symm.trans hsp), congrArg Prod.snd (hF.symm.trans hsp)⟩ hw
      · skip
        have hF := hF.trans (if_pos c19)
        refine lv_iconst (v := 0) hx hb dX1_letFire_47 (by decide) ?_
        exact hret _ _ _ _ _ _ dX1_letFire_48 ⟨congrArg Prod.fst (hF.symm.trans hsp), congrArg Prod.snd (hF.symm.trans hsp)⟩ hw
    · skip
      have hF := hF.trans (if_neg c18)
      refine lv_aload_n hx hb dX1_letFire_32 rfl (lv_at hl 2 rfl) ?_
      refine lv_iload_n hx hb dX1_letFire_33 rfl (lv_at hl 3 rfl) ?_
      refine gcV_v (rest := []) X (c_X1_retract l D cy ad rest C q1) gy_X1_retract gX1_letFire_X1_retract ⟨rfl, rfl, Nat.le_of_ble_eq_true rfl, Nat.le_of_ble_eq_true rfl⟩ 93 rfl rfl rfl hl rfl (Nat.le_of_ble_eq_true rfl) dX1_letFire_34 ⟨Nat.zero_le _, Nat.zero_le _⟩ hw (fun u31 H locs hu31 hw => ?_)
      have hu31 : u31 = F_X1_retract C q1 := hu31
      have hF := hF.trans (bnd_eq hu31)
      refine lv_iconst (v := 2) hx hb dX1_letFire_37 (by decide) ?_
      refine lv_istore (lv' := [(4, .int 2), (3, .int r1), (0, .ref (ad 93)), (1, .int q1), (2, .int q2)]) hx hb dX1_letFire_38 hl (by decide) rfl (fun ls hl => ?_)
      refine lv_goto (tgt := 49) hx hb dX1_letFire_40 (by decide) ?_
      refine lv_aload_n hx hb dX1_letFire_49 rfl (lv_at hl 2 rfl) ?_
      refine g_get (v := .ref (ad 96)) (C := RX1) (T := TX1) (N := 10) (ci := 3) X inX1 hw 93 rfl rfl 4 (by decide) (List.mem_of_getElem? (i := 2) rfl) rfl rfl dX1_letFire_50 ?_
      refine lv_iload_n hx hb dX1_letFire_53 rfl (lv_at hl 4 rfl) ?_
      refine lv_iload_n hx hb dX1_letFire_54 rfl (lv_at hl 3 rfl) ?_
      refine lv_iload_n hx hb dX1_letFire_55 rfl (lv_at hl 1 rfl) ?_
      refine lv_aload_n hx hb dX1_letFire_56 rfl (lv_at hl 2 rfl) ?_
      refine g_get (v := .ref (ad 95)) (C := RX1) (T := TX1) (N := 10) (ci := 3) X inX1 hw 93 rfl rfl 3 (by decide) (List.mem_of_getElem? (i := 1) rfl) rfl rfl dX1_letFire_57 ?_
      refine g_get (v := .ref (ad 12)) (C := RX0) (T := TX0) (N := 10) (ci := 2) X inX0 hw 95 rfl rfl 1 (by decide) (List.mem_of_getElem? (i := 3) rfl) rfl rfl dX1_letFire_60 ?_
      refine lv_iload_n hx hb dX1_letFire_63 rfl (lv_at hl 3 rfl) ?_
      refine gcV_i (rest := [.int r1, .int q1, .int q2, .ref (ad 96)]) X (cR_at l D cy ad rest u31 6 (by decide) q1) gy_X4_at gX1_letFire_X4_at ⟨rfl, rfl, Nat.le_of_ble_eq_true rfl, Nat.le_of_ble_eq_true rfl⟩ 12 rfl rfl rfl hl rfl (Nat.le_of_ble_eq_true rfl) dX1_letFire_64 ⟨Nat.zero_le _, Nat.zero_le _⟩ hw (fun r32 _ H locs hr32 hw => ?_)
      have hr32 : r32 = rAt 100 (u31.1 6) q1 := hr32
      have hF := hF.trans (bnd_eq hr32)
      refine lv_aload_n hx hb dX1_letFire_67 rfl (lv_at hl 2 rfl) ?_
      refine g_get (v := .ref (ad 95)) (C := RX1) (T := TX1) (N := 10) (ci := 3) X inX1 hw 93 rfl rfl 3 (by decide) (List.mem_of_getElem? (i := 1) rfl) rfl rfl dX1_letFire_68 ?_
      refine g_get (v := .ref (ad 14)) (C := RX0) (T := TX0) (N := 10) (ci := 2) X inX0 hw 95 rfl rfl 2 (by decide) (List.mem_of_getElem? (i := 4) rfl) rfl rfl dX1_letFire_71 ?_
      refine lv_iload_n hx hb dX1_letFire_74 rfl (lv_at hl 3 rfl) ?_
      refine gcV_i (rest := [.int r32, .int r1, .int q1, .int q2, .ref (ad 96)]) X (cR_at l D cy ad rest u31 7 (by decide) q1) gy_X4_at gX1_letFire_X4_at ⟨rfl, rfl, Nat.le_of_ble_eq_true rfl, Nat.le_of_ble_eq_true rfl⟩ 14 rfl rfl rfl hl rfl (Nat.le_of_ble_eq_true rfl) dX1_letFire_75 ⟨Nat.zero_le _, Nat.zero_le _⟩ hw (fun r34 _ H locs hr34 hw => ?_)
      have hr34 : r34 = rAt 100 (u31.1 7) q1 := hr34
      have hF := hF.trans (bnd_eq hr34)
      refine lv_aload_n hx hb dX1_letFire_78 rfl (lv_at hl 2 rfl) ?_
      refine g_get (v := .ref (ad 95)) (C := RX1) (T := TX1) (N := 10) (ci := 3) X inX1 hw 93 rfl rfl 3 (by decide) (List.mem_of_getElem? (i := 1) rfl) rfl rfl dX1_letFire_79 ?_
      refine g_get (v := .ref (ad 10)) (C := RX0) (T := TX0) (N := 10) (ci := 2) X inX0 hw 95 rfl rfl 0 (by decide) (List.mem_of_getElem? (i := 5) rfl) rfl rfl dX1_letFire_82 ?_
      refine lv_iload_n hx hb dX1_letFire_85 rfl (lv_at hl 3 rfl) ?_
      refine gcV_i (rest := [.int r34, .int r32, .int r1, .int q1, .int q2, .ref (ad 96)]) X (cR_at l D cy ad rest u31 5 (by decide) q1) gy_X4_at gX1_letFire_X4_at ⟨rfl, rfl, Nat.le_of_ble_eq_true rfl, Nat.le_of_ble_eq_true rfl⟩ 10 rfl rfl rfl hl rfl (Nat.le_of_ble_eq_true rfl) dX1_letFire_86 ⟨Nat.zero_le _, Nat.zero_le _⟩ hw (fun r36 _ H locs hr36 hw => ?_)
      have hr36 : r36 = rAt 100 (u31.1 5) q1 := hr36
      have hF := hF.trans (bnd_eq hr36)
      refine gcV_v (rest := []) X (c_X2_enter l D cy ad rest u31 q2 q1 r1 r32 r34 r36) gy_X2_enter gX1_letFire_X2_enter ⟨rfl, rfl, Nat.le_of_ble_eq_true rfl, Nat.le_of_ble_eq_true rfl⟩ 96 rfl rfl rfl hl rfl (Nat.le_of_ble_eq_true rfl) dX1_letFire_89 ⟨Nat.zero_le _, Nat.zero_le _⟩ hw (fun u39 H locs hu39 hw => ?_)
      have hu39 : u39 = F_X2_enter u31 q2 q1 r1 r32 r34 r36 := hu39
      have hF := hF.trans (bnd_eq hu39)
      refine lv_aload_n hx hb dX1_letFire_92 rfl (lv_at hl 2 rfl) ?_
      refine g_get (v := .ref (ad 95)) (C := RX1) (T := TX1) (N := 10) (ci := 3) X inX1 hw 93 rfl rfl 3 (by decide) (List.mem_of_getElem? (i := 1) rfl) rfl rfl dX1_letFire_93 ?_
      refine lv_iload_n hx hb dX1_letFire_96 rfl (lv_at hl 3 rfl) ?_
      refine lv_iload_n hx hb dX1_letFire_97 rfl (lv_at hl 1 rfl) ?_
      refine gcV_v (rest := []) X (c_X0_noteFired l D cy ad rest u39 q1 r1) gy_X0_noteFired gX1_letFire_X0_noteFired ⟨rfl, rfl, Nat.le_of_ble_eq_true rfl, Nat.le_of_ble_eq_true rfl⟩ 95 rfl rfl rfl hl rfl (Nat.le_of_ble_eq_true rfl) dX1_letFire_98 ⟨Nat.zero_le _, Nat.zero_le _⟩ hw (fun u41 H locs hu41 hw => ?_)
      have hu41 : u41 = F_X0_noteFired u39 q1 r1 := hu41
      have hF := hF.trans (bnd_eq hu41)
      refine lv_iload hx hb dX1_letFire_101 (lv_at hl 0 rfl) ?_
      exact hret _ _ _ _ _ _ dX1_letFire_103 ⟨congrArg Prod.fst (hF.symm.trans hsp), congrArg Prod.snd (hF.symm.trans hsp)⟩ hw
theorem gy_X1_merge : gY yX1_merge RX1 cX1_merge 3 none wsX1_merge 2 := ⟨⟨_, rfl⟩, rfl, by decide +kernel, by decide +kernel, by decide +kernel⟩
def F_X1_merge (C : CS) (q1 : Int32) (q2 : Int32) : CS := (bnd (F_X0_hasFired C q2) (fun r1 => (if r1 = 0 then (bnd (F_X3_moveAll C q2 q1) (fun u5 => (bnd (F_X0_swallow u5 q1 q2) (fun u7 => (bnd (sI u7 4 (u7.2.1 4 + 1)) (fun u8 => u8)))))) else (bnd (F_X1_retract C q2) (fun u10 => (bnd (F_X3_moveAll u10 q2 q1) (fun u12 => (bnd (F_X0_swallow u12 q1 q2) (fun u14 => (bnd (sI u14 4 (u14.2.1 4 + 1)) (fun u15 => u15)))))))))))
abbrev rmX1_merge : Room := { frames := 3, cells := 0, slots := 0, locals := 70 }
set_option maxHeartbeats 4000000 in
set_option maxRecDepth 100000 in
theorem c_X1_merge (l : Launch) (D : va_G) (cy : Nat → ClassId) (ad : Nat → Nat) (rest : va_W) (C : CS) (q1 : Int32) (q2 : Int32) : GMv l yX1_merge wsX1_merge rmX1_merge D cy [.ref (ad 93), .int q1, .int q2] (CW cy ad C ++ rest) (fun (u : CS) => u = F_X1_merge C q1 q2) (fun u => CW cy ad u ++ rest) := by
  refine GMv.intro cX1_merge 3 RX1 (by decide) rfl rfl (Nat.le_of_ble_eq_true rfl) ?_
  intro p e s m args below meth c A Q ls X hret hl hw
  have hx := X.1
  have hb := X.2.1
  have hl : lv_has ls 3 [(0, .ref (ad 93)), (1, .int q1), (2, .int q2)] := hl
  have inX1 : ∀ w ∈ wsX10, w ∈ wsX1_merge := fun w h => List.mem_cons_of_mem _ (List.mem_append_left _ (List.mem_append_left _ (List.mem_append_left _ (List.mem_append_left _ (List.mem_append_left _ (List.mem_append_right _ h))))))
  obtain ⟨sp, hsp⟩ : ∃ sp, sp = F_X1_merge C q1 q2 := ⟨_, rfl⟩
  have hF := hsp.trans (F_X1_merge.eq_1 C q1 q2)
  refine lv_aload_n hx hb dX1_merge_0 rfl (lv_at hl 0 rfl) ?_
  refine g_get (v := .ref (ad 95)) (C := RX1) (T := TX1) (N := 10) (ci := 3) X inX1 hw 93 rfl rfl 3 (by decide) (List.mem_of_getElem? (i := 1) rfl) rfl rfl dX1_merge_1 ?_
  refine lv_iload_n hx hb dX1_merge_4 rfl (lv_at hl 2 rfl) ?_
  refine gcV_i (rest := []) X (c_X0_hasFired l D cy ad rest C q2) gy_X0_hasFired gX1_merge_X0_hasFired ⟨rfl, rfl, Nat.le_of_ble_eq_true rfl, Nat.le_of_ble_eq_true rfl⟩ 95 rfl rfl rfl hl rfl (Nat.le_of_ble_eq_true rfl) dX1_merge_5 ⟨Nat.zero_le _, Nat.zero_le _⟩ hw (fun r1 _ H locs hr1 hw => ?_)
  obtain ⟨hr1, zr1⟩ : r1 = F_X0_hasFired C q2 ∧ (r1 = 0 ∨ r1 = 1) := hr1
  have hF := hF.trans (bnd_eq hr1)
  refine lv_if_eq (tgt := 16) hx hb dX1_merge_8 (by decide) (fun c3 => ?_) (fun c3 => ?_)
  · skip
    have hF := hF.trans (if_pos c3)
    refine lv_aload_n hx hb dX1_merge_16 rfl (lv_at hl 0 rfl) ?_
    refine g_get (v := .ref (ad 94)) (C := RX1) (T := TX1) (N := 10) (ci := 3) X inX1 hw 93 rfl rfl 2 (by decide) (List.mem_of_getElem? (i := 2) rfl) rfl rfl dX1_merge_17 ?_
    refine lv_iload_n hx hb dX1_merge_20 rfl (lv_at hl 2 rfl) ?_
    refine lv_iload_n hx hb dX1_merge_21 rfl (lv_at hl 1 rfl) ?_
    refine gcV_v (rest := []) X (c_X3_moveAll l D cy ad rest C q2 q1) gy_X3_moveAll gX1_merge_X3_moveAll ⟨rfl, rfl, Nat.le_of_ble_eq_true rfl, Nat.le_of_ble_eq_true rfl⟩ 94 rfl rfl rfl hl rfl (Nat.le_of_ble_eq_true rfl) dX1_merge_22 ⟨Nat.zero_le _, Nat.zero_le _⟩ hw (fun u5 H locs hu5 hw => ?_)
    have hu5 : u5 = F_X3_moveAll C q2 q1 := hu5
    have hF := hF.trans (bnd_eq hu5)
    refine lv_aload_n hx hb dX1_merge_25 rfl (lv_at hl 0 rfl) ?_
    refine g_get (v := .ref (ad 95)) (C := RX1) (T := TX1) (N := 10) (ci := 3) X inX1 hw 93 rfl rfl 3 (by decide) (List.mem_of_getElem? (i := 1) rfl) rfl rfl dX1_merge_26 ?_
    refine lv_iload_n hx hb dX1_merge_29 rfl (lv_at hl 1 rfl) ?_
    refine lv_iload_n hx hb dX1_merge_30 rfl (lv_at hl 2 rfl) ?_
    refine gcV_v (rest := []) X (c_X0_swallow l D cy ad rest u5 q1 q2) gy_X0_swallow gX1_merge_X0_swallow ⟨rfl, rfl, Nat.le_of_ble_eq_true rfl, Nat.le_of_ble_eq_true rfl⟩ 95 rfl rfl rfl hl rfl (Nat.le_of_ble_eq_true rfl) dX1_merge_31 ⟨Nat.zero_le _, Nat.zero_le _⟩ hw (fun u7 H locs hu7 hw => ?_)
    have hu7 : u7 = F_X0_swallow u5 q1 q2 := hu7
    have hF := hF.trans (bnd_eq hu7)
    refine lv_aload_n hx hb dX1_merge_34 rfl (lv_at hl 0 rfl) ?_
    refine lv_dup hx hb dX1_merge_35 rfl ?_
    refine g_get (v := .int (u7.2.1 4)) (C := RX1) (T := TX1) (N := 10) (ci := 3) X inX1 hw 93 rfl rfl 9 (by decide) (List.mem_of_getElem? (i := 3) rfl) rfl rfl dX1_merge_36 ?_
    refine lv_iconst (v := 1) hx hb dX1_merge_39 (by decide) ?_
    refine lv_iadd hx hb dX1_merge_40 ?_
    refine g_put (v := .int (u7.2.1 4 + 1)) (C := RX1) (T := TX1) (N := 10) (ci := 3) (w' := CW cy ad (sI u7 4 (u7.2.1 4 + 1)) ++ rest) X inX1 tyX1 tyX1_ok nmX1 hw 93 rfl rfl 9 (by decide) (List.mem_of_getElem? (i := 3) rfl) rfl rfl rfl rfl (Nat.le_of_ble_eq_true rfl) rfl dX1_merge_41 (fun H locs hw => ?_)
    obtain ⟨u8, hu8⟩ : ∃ z, z = sI u7 4 (u7.2.1 4 + 1) := ⟨_, rfl⟩
    rw [← hu8] at hw
    have hF := hF.trans (bnd_eq hu8)
    exact hret _ _ _ _ _ dX1_merge_44 (hF.symm.trans hsp) hw
  · skip
    have hF := hF.trans (if_neg c3)
    refine lv_aload_n hx hb dX1_merge_11 rfl (lv_at hl 0 rfl) ?_
    refine lv_iload_n hx hb dX1_merge_12 rfl (lv_at hl 2 rfl) ?_
    refine gcV_v (rest := []) X (c_X1_retract l D cy ad rest C q2) gy_X1_retract gX1_merge_X1_retract ⟨rfl, rfl, Nat.le_of_ble_eq_true rfl, Nat.le_of_ble_eq_true rfl⟩ 93 rfl rfl rfl hl rfl (Nat.le_of_ble_eq_true rfl) dX1_merge_13 ⟨Nat.zero_le _, Nat.zero_le _⟩ hw (fun u10 H locs hu10 hw => ?_)
    have hu10 : u10 = F_X1_retract C q2 := hu10
    have hF := hF.trans (bnd_eq hu10)
    refine lv_aload_n hx hb dX1_merge_16 rfl (lv_at hl 0 rfl) ?_
    refine g_get (v := .ref (ad 94)) (C := RX1) (T := TX1) (N := 10) (ci := 3) X inX1 hw 93 rfl rfl 2 (by decide) (List.mem_of_getElem? (i := 2) rfl) rfl rfl dX1_merge_17 ?_
    refine lv_iload_n hx hb dX1_merge_20 rfl (lv_at hl 2 rfl) ?_
    refine lv_iload_n hx hb dX1_merge_21 rfl (lv_at hl 1 rfl) ?_
    refine gcV_v (rest := []) X (c_X3_moveAll l D cy ad rest u10 q2 q1) gy_X3_moveAll gX1_merge_X3_moveAll ⟨rfl, rfl, Nat.le_of_ble_eq_true rfl, Nat.le_of_ble_eq_true rfl⟩ 94 rfl rfl rfl hl rfl (Nat.le_of_ble_eq_true rfl) dX1_merge_22 ⟨Nat.zero_le _, Nat.zero_le _⟩ hw (fun u12 H locs hu12 hw => ?_)
    have hu12 : u12 = F_X3_moveAll u10 q2 q1 := hu12
    have hF := hF.trans (bnd_eq hu12)
    refine lv_aload_n hx hb dX1_merge_25 rfl (lv_at hl 0 rfl) ?_
    refine g_get (v := .ref (ad 95)) (C := RX1) (T := TX1) (N := 10) (ci := 3) X inX1 hw 93 rfl rfl 3 (by decide) (List.mem_of_getElem? (i := 1) rfl) rfl rfl dX1_merge_26 ?_
    refine lv_iload_n hx hb dX1_merge_29 rfl (lv_at hl 1 rfl) ?_
    refine lv_iload_n hx hb dX1_merge_30 rfl (lv_at hl 2 rfl) ?_
    refine gcV_v (rest := []) X (c_X0_swallow l D cy ad rest u12 q1 q2) gy_X0_swallow gX1_merge_X0_swallow ⟨rfl, rfl, Nat.le_of_ble_eq_true rfl, Nat.le_of_ble_eq_true rfl⟩ 95 rfl rfl rfl hl rfl (Nat.le_of_ble_eq_true rfl) dX1_merge_31 ⟨Nat.zero_le _, Nat.zero_le _⟩ hw (fun u14 H locs hu14 hw => ?_)
    have hu14 : u14 = F_X0_swallow u12 q1 q2 := hu14
    have hF := hF.trans (bnd_eq hu14)
    refine lv_aload_n hx hb dX1_merge_34 rfl (lv_at hl 0 rfl) ?_
    refine lv_dup hx hb dX1_merge_35 rfl ?_
    refine g_get (v := .int (u14.2.1 4)) (C := RX1) (T := TX1) (N := 10) (ci := 3) X inX1 hw 93 rfl rfl 9 (by decide) (List.mem_of_getElem? (i := 3) rfl) rfl rfl dX1_merge_36 ?_
    refine lv_iconst (v := 1) hx hb dX1_merge_39 (by decide) ?_
    refine lv_iadd hx hb dX1_merge_40 ?_
    refine g_put (v := .int (u14.2.1 4 + 1)) (C := RX1) (T := TX1) (N := 10) (ci := 3) (w' := CW cy ad (sI u14 4 (u14.2.1 4 + 1)) ++ rest) X inX1 tyX1 tyX1_ok nmX1 hw 93 rfl rfl 9 (by decide) (List.mem_of_getElem? (i := 3) rfl) rfl rfl rfl rfl (Nat.le_of_ble_eq_true rfl) rfl dX1_merge_41 (fun H locs hw => ?_)
    obtain ⟨u15, hu15⟩ : ∃ z, z = sI u14 4 (u14.2.1 4 + 1) := ⟨_, rfl⟩
    rw [← hu15] at hw
    have hF := hF.trans (bnd_eq hu15)
    exact hret _ _ _ _ _ dX1_merge_44 (hF.symm.trans hsp) hw
theorem gy_X1_lowerOfNextPair : gY yX1_lowerOfNextPair RX1 cX1_lowerOfNextPair 4 (some .int) wsX1_lowerOfNextPair 2 := ⟨⟨_, rfl⟩, rfl, by decide +kernel, by decide +kernel, by decide +kernel⟩
def st_X1_lowerOfNextPair_2 (q1 : Int32) (q2 : Int32) (C : CS) (v1_3 : Int32) : (Int32) ⊕ Int32 := (if C.2.1 6 ≤ v1_3 then .inr ((-1)) else (bnd (F_X0_isOpenOfKey C v1_3 q1) (fun r3 => (if r3 = 0 then .inl (v1_3 + 1) else (bnd (F_X0_partnerOf C v1_3 q2) (fun r6 => (if r6 = (-1) then .inl (v1_3 + 1) else .inr (v1_3))))))))
def F_X1_lowerOfNextPair (C : CS) (q1 : Int32) (q2 : Int32) : Int32 := lp (fun (z : Int32) => st_X1_lowerOfNextPair_2 q1 q2 C z) 0 (((C.2.1 6).toInt - (0 : Int32).toInt).toNat + 1) 0
abbrev rmX1_lowerOfNextPair : Room := { frames := 3, cells := 0, slots := 0, locals := 67 }
set_option maxHeartbeats 4000000 in
set_option maxRecDepth 100000 in
theorem c_X1_lowerOfNextPair (l : Launch) (D : va_G) (cy : Nat → ClassId) (ad : Nat → Nat) (rest : va_W) (C : CS) (q1 : Int32) (q2 : Int32) : GMi l yX1_lowerOfNextPair wsX1_lowerOfNextPair rmX1_lowerOfNextPair D cy [.ref (ad 93), .int q1, .int q2] (CW cy ad C ++ rest) (fun (r : Int32) (_ : Unit) => r = F_X1_lowerOfNextPair C q1 q2) (fun _ => CW cy ad C ++ rest) := by
  refine GMi.intro cX1_lowerOfNextPair 4 RX1 (by decide) rfl rfl (Nat.le_of_ble_eq_true rfl) ?_
  intro p e s m args below meth c A Q ls X hret hl hw
  have hx := X.1
  have hb := X.2.1
  have hl : lv_has ls 4 [(0, .ref (ad 93)), (1, .int q1), (2, .int q2)] := hl
  have inX0 : ∀ w ∈ wsX00, w ∈ wsX1_lowerOfNextPair := fun w h => List.mem_cons_of_mem _ (List.mem_append_left _ (List.mem_append_left _ (List.mem_append_right _ h)))
  have inX1 : ∀ w ∈ wsX10, w ∈ wsX1_lowerOfNextPair := fun w h => List.mem_cons_of_mem _ (List.mem_append_left _ (List.mem_append_left _ (List.mem_append_left _ (List.mem_append_right _ h))))
  obtain ⟨sp, hsp⟩ : ∃ sp, sp = F_X1_lowerOfNextPair C q1 q2 := ⟨_, rfl⟩
  have hF := hsp.trans (F_X1_lowerOfNextPair.eq_1 C q1 q2)
  refine lv_iconst (v := 0) hx hb dX1_lowerOfNextPair_0 (by decide) ?_
  refine lv_istore_n (lv' := [(3, .int 0), (0, .ref (ad 93)), (1, .int q1), (2, .int q2)]) hx hb dX1_lowerOfNextPair_1 rfl hl (by decide) rfl (fun ls hl => ?_)
  have L1 : ∀ (n1 : Nat) (v1_3 : Int32), sp = lp (fun (z : Int32) => st_X1_lowerOfNextPair_2 q1 q2 C z) 0 n1 v1_3 → ((C.2.1 6).toInt - v1_3.toInt).toNat < n1 → ∀ (H : Heap) (locs : List Loc) (ls : Array Slot), lv_has ls 4 [(3, .int v1_3), (0, .ref (ad 93)), (1, .int q1), (2, .int q2)] → gw D A s.heap (CW cy ad C ++ rest) H locs → W p l e rmX1_lowerOfNextPair s m args below meth c H locs 0 0 Q (F0 m 2 ls []) := by
    intro n1
    induction n1 with
    | zero => intro v1_3 hF hm1; exact absurd hm1 (Nat.not_lt_zero _)
    | succ n1 ih1 =>
      intro v1_3 hF hm1 H locs ls hl hw
      have hT1 := st_X1_lowerOfNextPair_2.eq_1 q1 q2 C v1_3
      refine lv_iload_n hx hb dX1_lowerOfNextPair_2 rfl (lv_at hl 0 rfl) ?_
      refine lv_aload_n hx hb dX1_lowerOfNextPair_3 rfl (lv_at hl 1 rfl) ?_
      refine g_get (v := .ref (ad 95)) (C := RX1) (T := TX1) (N := 10) (ci := 3) X inX1 hw 93 rfl rfl 3 (by decide) (List.mem_of_getElem? (i := 1) rfl) rfl rfl dX1_lowerOfNextPair_4 ?_
      refine g_get (v := .int (C.2.1 6)) (C := RX0) (T := TX0) (N := 10) (ci := 2) X inX0 hw 95 rfl rfl 9 (by decide) (List.mem_of_getElem? (i := 2) rfl) rfl rfl dX1_lowerOfNextPair_7 ?_
      refine lv_icmp_ge (tgt := 46) hx hb dX1_lowerOfNextPair_10 (by decide) (fun c2 => ?_) (fun c2 => ?_)
      · skip
        have hT1 := hT1.trans (if_pos c2)
        refine lv_iconst (v := (-1)) hx hb dX1_lowerOfNextPair_46 (by decide) ?_
        exact hret _ _ () _ _ _ dX1_lowerOfNextPair_47 ((hF.trans (lp_r hT1)).symm.trans hsp) hw
      · skip
        have hT1 := hT1.trans (if_neg c2)
        refine lv_aload_n hx hb dX1_lowerOfNextPair_13 rfl (lv_at hl 1 rfl) ?_
        refine g_get (v := .ref (ad 95)) (C := RX1) (T := TX1) (N := 10) (ci := 3) X inX1 hw 93 rfl rfl 3 (by decide) (List.mem_of_getElem? (i := 1) rfl) rfl rfl dX1_lowerOfNextPair_14 ?_
        refine lv_iload_n hx hb dX1_lowerOfNextPair_17 rfl (lv_at hl 0 rfl) ?_
        refine lv_iload_n hx hb dX1_lowerOfNextPair_18 rfl (lv_at hl 2 rfl) ?_
        refine gcV_i (rest := []) X (c_X0_isOpenOfKey l D cy ad rest C v1_3 q1) gy_X0_isOpenOfKey gX1_lowerOfNextPair_X0_isOpenOfKey ⟨rfl, rfl, Nat.le_of_ble_eq_true rfl, Nat.le_of_ble_eq_true rfl⟩ 95 rfl rfl rfl hl rfl (Nat.le_of_ble_eq_true rfl) dX1_lowerOfNextPair_19 ⟨Nat.zero_le _, Nat.zero_le _⟩ hw (fun r3 _ H locs hr3 hw => ?_)
        obtain ⟨hr3, zr3⟩ : r3 = F_X0_isOpenOfKey C v1_3 q1 ∧ (r3 = 0 ∨ r3 = 1) := hr3
        have hT1 := hT1.trans (bnd_eq hr3)
        refine lv_if_eq (tgt := 40) hx hb dX1_lowerOfNextPair_22 (by decide) (fun c5 => ?_) (fun c5 => ?_)
        · skip
          have hT1 := hT1.trans (if_pos c5)
          refine lv_iinc (v := (v1_3 + 1)) (lv' := [(3, .int (v1_3 + 1)), (0, .ref (ad 93)), (1, .int q1), (2, .int q2)]) hx hb dX1_lowerOfNextPair_40 hl (k := 0) rfl rfl (by decide) rfl (fun ls hl => ?_)
          refine lv_goto (tgt := 2) hx hb dX1_lowerOfNextPair_43 (by decide) ?_
          exact ih1 (v1_3 + 1) (hF.trans (lp_l hT1)) (Nat.lt_of_lt_of_le (by first | exact up_dec (by assumption) | (simp only [*]; exact up_dec (by assumption))) (Nat.le_of_lt_succ hm1)) _ _ ls (lv_sub hl [0, 1, 2, 3] rfl) hw
        · skip
          have hT1 := hT1.trans (if_neg c5)
          refine lv_aload_n hx hb dX1_lowerOfNextPair_25 rfl (lv_at hl 1 rfl) ?_
          refine g_get (v := .ref (ad 95)) (C := RX1) (T := TX1) (N := 10) (ci := 3) X inX1 hw 93 rfl rfl 3 (by decide) (List.mem_of_getElem? (i := 1) rfl) rfl rfl dX1_lowerOfNextPair_26 ?_
          refine lv_iload_n hx hb dX1_lowerOfNextPair_29 rfl (lv_at hl 0 rfl) ?_
          refine lv_iload_n hx hb dX1_lowerOfNextPair_30 rfl (lv_at hl 3 rfl) ?_
          refine gcV_i (rest := []) X (c_X0_partnerOf l D cy ad rest C v1_3 q2) gy_X0_partnerOf gX1_lowerOfNextPair_X0_partnerOf ⟨rfl, rfl, Nat.le_of_ble_eq_true rfl, Nat.le_of_ble_eq_true rfl⟩ 95 rfl rfl rfl hl rfl (Nat.le_of_ble_eq_true rfl) dX1_lowerOfNextPair_31 ⟨Nat.zero_le _, Nat.zero_le _⟩ hw (fun r6 _ H locs hr6 hw => ?_)
          have hr6 : r6 = F_X0_partnerOf C v1_3 q2 := hr6
          have hT1 := hT1.trans (bnd_eq hr6)
          refine lv_iconst (v := (-1)) hx hb dX1_lowerOfNextPair_34 (by decide) ?_
          refine lv_icmp_eq (tgt := 40) hx hb dX1_lowerOfNextPair_35 (by decide) (fun c8 => ?_) (fun c8 => ?_)
          · skip
            have hT1 := hT1.trans (if_pos c8)
            refine lv_iinc (v := (v1_3 + 1)) (lv' := [(3, .int (v1_3 + 1)), (0, .ref (ad 93)), (1, .int q1), (2, .int q2)]) hx hb dX1_lowerOfNextPair_40 hl (k := 0) rfl rfl (by decide) rfl (fun ls hl => ?_)
            refine lv_goto (tgt := 2) hx hb dX1_lowerOfNextPair_43 (by decide) ?_
            exact ih1 (v1_3 + 1) (hF.trans (lp_l hT1)) (Nat.lt_of_lt_of_le (by first | exact up_dec (by assumption) | (simp only [*]; exact up_dec (by assumption))) (Nat.le_of_lt_succ hm1)) _ _ ls (lv_sub hl [0, 1, 2, 3] rfl) hw
          · skip
            have hT1 := hT1.trans (if_neg c8)
            refine lv_iload_n hx hb dX1_lowerOfNextPair_38 rfl (lv_at hl 0 rfl) ?_
            exact hret _ _ () _ _ _ dX1_lowerOfNextPair_39 ((hF.trans (lp_r hT1)).symm.trans hsp) hw
  exact L1 _ 0 hF (Nat.lt_succ_self _) _ _ ls (lv_sub hl [0, 1, 2, 3] rfl) hw
theorem gy_X1_mergeAll : gY yX1_mergeAll RX1 cX1_mergeAll 8 (some .int) wsX1_mergeAll 2 := ⟨⟨_, rfl⟩, rfl, by decide +kernel, by decide +kernel, by decide +kernel⟩
def st_X1_mergeAll_15 (q1 : Int32) (r1 : Int32) (v3_5 : Int32) (v3_3 : Int32) (w3 : CS) : (Int32 × Int32 × CS) ⊕ (Int32 × CS) := (if 100 ≤ v3_5 then .inr ((v3_3, w3)) else (bnd (F_X1_lowerOfNextPair w3 q1 r1) (fun r5 => (if r5 = (-1) then .inr ((v3_3, w3)) else (bnd (F_X0_partnerOf w3 r5 r1) (fun r8 => (bnd (F_X1_merge w3 r5 r8) (fun u11 => (if v3_3 = r8 then .inl ((v3_5 + 1), r5, u11) else .inl ((v3_5 + 1), v3_3, u11))))))))))
def F_X1_mergeAll (C : CS) (q1 : Int32) (q2 : Int32) : Int32 × CS := (bnd (rAt 8 (C.1 0) q1) (fun r1 => lp (fun (z : Int32 × Int32 × CS) => st_X1_mergeAll_15 q1 r1 z.1 z.2.1 z.2.2) (0, C) (((100 : Int32).toInt - (0 : Int32).toInt).toNat + 1) (0, q2, C)))
abbrev rmX1_mergeAll : Room := { frames := 4, cells := 0, slots := 0, locals := 92 }
set_option maxHeartbeats 4000000 in
set_option maxRecDepth 100000 in
theorem c_X1_mergeAll (l : Launch) (D : va_G) (cy : Nat → ClassId) (ad : Nat → Nat) (rest : va_W) (C : CS) (q1 : Int32) (q2 : Int32) : GMi l yX1_mergeAll wsX1_mergeAll rmX1_mergeAll D cy [.ref (ad 93), .int q1, .int q2] (CW cy ad C ++ rest) (fun (r : Int32) (u : CS) => r = (F_X1_mergeAll C q1 q2).1 ∧ u = (F_X1_mergeAll C q1 q2).2) (fun u => CW cy ad u ++ rest) := by
  refine GMi.intro cX1_mergeAll 8 RX1 (by decide) rfl rfl (Nat.le_of_ble_eq_true rfl) ?_
  intro p e s m args below meth c A Q ls X hret hl hw
  have hx := X.1
  have hb := X.2.1
  have hl : lv_has ls 8 [(0, .ref (ad 93)), (1, .int q1), (2, .int q2)] := hl
  have inX1 : ∀ w ∈ wsX10, w ∈ wsX1_mergeAll := fun w h => List.mem_cons_of_mem _ (List.mem_append_left _ (List.mem_append_left _ (List.mem_append_left _ (List.mem_append_left _ (List.mem_append_left _ (List.mem_append_right _ h))))))
  obtain ⟨sp, hsp⟩ : ∃ sp, sp = F_X1_mergeAll C q1 q2 := ⟨_, rfl⟩
  have hF := hsp.trans (F_X1_mergeAll.eq_1 C q1 q2)
  refine lv_iload_n hx hb dX1_mergeAll_0 rfl (lv_at hl 2 rfl) ?_
  refine lv_istore_n (lv' := [(3, .int q2), (0, .ref (ad 93)), (1, .int q1), (2, .int q2)]) hx hb dX1_mergeAll_1 rfl hl (by decide) rfl (fun ls hl => ?_)
  refine lv_aload_n hx hb dX1_mergeAll_2 rfl (lv_at hl 1 rfl) ?_
  refine g_get (v := .ref (ad 0)) (C := RX1) (T := TX1) (N := 10) (ci := 3) X inX1 hw 93 rfl rfl 0 (by decide) (List.mem_of_getElem? (i := 1) rfl) rfl rfl dX1_mergeAll_3 ?_
  refine lv_iload_n hx hb dX1_mergeAll_6 rfl (lv_at hl 2 rfl) ?_
  refine gcV_i (rest := []) X (cR_at l D cy ad rest C 0 (by decide) q1) gy_X4_at gX1_mergeAll_X4_at ⟨rfl, rfl, Nat.le_of_ble_eq_true rfl, Nat.le_of_ble_eq_true rfl⟩ 0 rfl rfl rfl hl rfl (Nat.le_of_ble_eq_true rfl) dX1_mergeAll_7 ⟨Nat.zero_le _, Nat.zero_le _⟩ hw (fun r1 _ H locs hr1 hw => ?_)
  have hr1 : r1 = rAt 8 (C.1 0) q1 := hr1
  have hF := hF.trans (bnd_eq hr1)
  refine lv_istore (lv' := [(4, .int r1), (3, .int q2), (0, .ref (ad 93)), (1, .int q1), (2, .int q2)]) hx hb dX1_mergeAll_10 hl (by decide) rfl (fun ls hl => ?_)
  refine lv_iconst (v := 0) hx hb dX1_mergeAll_12 (by decide) ?_
  refine lv_istore (lv' := [(5, .int 0), (4, .int r1), (3, .int q2), (0, .ref (ad 93)), (1, .int q1), (2, .int q2)]) hx hb dX1_mergeAll_13 hl (by decide) rfl (fun ls hl => ?_)
  have L3 : ∀ (n3 : Nat) (v3_5 : Int32) (v3_3 : Int32) (w3 : CS), sp = lp (fun (z : Int32 × Int32 × CS) => st_X1_mergeAll_15 q1 r1 z.1 z.2.1 z.2.2) (0, C) n3 (v3_5, v3_3, w3) → ((100 : Int32).toInt - v3_5.toInt).toNat < n3 → ∀ (H : Heap) (locs : List Loc) (ls : Array Slot), lv_has ls 8 [(5, .int v3_5), (4, .int r1), (3, .int v3_3), (0, .ref (ad 93)), (1, .int q1), (2, .int q2)] → gw D A s.heap (CW cy ad w3 ++ rest) H locs → W p l e rmX1_mergeAll s m args below meth c H locs 0 0 Q (F0 m 15 ls []) := by
    intro n3
    induction n3 with
    | zero => intro v3_5 v3_3 w3 hF hm3; exact absurd hm3 (Nat.not_lt_zero _)
    | succ n3 ih3 =>
      intro v3_5 v3_3 w3 hF hm3 H locs ls hl hw
      have hT3 := st_X1_mergeAll_15.eq_1 q1 r1 v3_5 v3_3 w3
      refine lv_iload hx hb dX1_mergeAll_15 (lv_at hl 0 rfl) ?_
      refine lv_bipush (v := 100) hx hb dX1_mergeAll_17 (by decide) ?_
      refine lv_icmp_ge (tgt := 79) hx hb dX1_mergeAll_19 (by decide) (fun c4 => ?_) (fun c4 => ?_)
      · skip
        have hT3 := hT3.trans (if_pos c4)
        refine lv_iload_n hx hb dX1_mergeAll_79 rfl (lv_at hl 2 rfl) ?_
        exact hret _ _ _ _ _ _ dX1_mergeAll_80 ⟨congrArg Prod.fst ((hF.trans (lp_r hT3)).symm.trans hsp), congrArg Prod.snd ((hF.trans (lp_r hT3)).symm.trans hsp)⟩ hw
      · skip
        have hT3 := hT3.trans (if_neg c4)
        refine lv_aload_n hx hb dX1_mergeAll_22 rfl (lv_at hl 3 rfl) ?_
        refine lv_iload_n hx hb dX1_mergeAll_23 rfl (lv_at hl 4 rfl) ?_
        refine lv_iload hx hb dX1_mergeAll_24 (lv_at hl 1 rfl) ?_
        refine gcV_i (rest := []) X (c_X1_lowerOfNextPair l D cy ad rest w3 q1 r1) gy_X1_lowerOfNextPair gX1_mergeAll_X1_lowerOfNextPair ⟨rfl, rfl, Nat.le_of_ble_eq_true rfl, Nat.le_of_ble_eq_true rfl⟩ 93 rfl rfl rfl hl rfl (Nat.le_of_ble_eq_true rfl) dX1_mergeAll_26 ⟨Nat.zero_le _, Nat.zero_le _⟩ hw (fun r5 _ H locs hr5 hw => ?_)
        have hr5 : r5 = F_X1_lowerOfNextPair w3 q1 r1 := hr5
        have hT3 := hT3.trans (bnd_eq hr5)
        refine lv_istore (lv' := [(6, .int r5), (5, .int v3_5), (4, .int r1), (3, .int v3_3), (0, .ref (ad 93)), (1, .int q1), (2, .int q2)]) hx hb dX1_mergeAll_29 hl (by decide) rfl (fun ls hl => ?_)
        refine lv_iload hx hb dX1_mergeAll_31 (lv_at hl 0 rfl) ?_
        refine lv_iconst (v := (-1)) hx hb dX1_mergeAll_33 (by decide) ?_
        refine lv_icmp_ne (tgt := 39) hx hb dX1_mergeAll_34 (by decide) (fun c7 => ?_) (fun c7 => ?_)
        · skip
          have hT3 := hT3.trans (if_neg c7)
          refine lv_aload_n hx hb dX1_mergeAll_39 rfl (lv_at hl 4 rfl) ?_
          refine g_get (v := .ref (ad 95)) (C := RX1) (T := TX1) (N := 10) (ci := 3) X inX1 hw 93 rfl rfl 3 (by decide) (List.mem_of_getElem? (i := 2) rfl) rfl rfl dX1_mergeAll_40 ?_
          refine lv_iload hx hb dX1_mergeAll_43 (lv_at hl 0 rfl) ?_
          refine lv_iload hx hb dX1_mergeAll_45 (lv_at hl 2 rfl) ?_
          refine gcV_i (rest := []) X (c_X0_partnerOf l D cy ad rest w3 r5 r1) gy_X0_partnerOf gX1_mergeAll_X0_partnerOf ⟨rfl, rfl, Nat.le_of_ble_eq_true rfl, Nat.le_of_ble_eq_true rfl⟩ 95 rfl rfl rfl hl rfl (Nat.le_of_ble_eq_true rfl) dX1_mergeAll_47 ⟨Nat.zero_le _, Nat.zero_le _⟩ hw (fun r8 _ H locs hr8 hw => ?_)
          have hr8 : r8 = F_X0_partnerOf w3 r5 r1 := hr8
          have hT3 := hT3.trans (bnd_eq hr8)
          refine lv_istore (lv' := [(7, .int r8), (6, .int r5), (5, .int v3_5), (4, .int r1), (3, .int v3_3), (0, .ref (ad 93)), (1, .int q1), (2, .int q2)]) hx hb dX1_mergeAll_50 hl (by decide) rfl (fun ls hl => ?_)
          refine lv_aload_n hx hb dX1_mergeAll_52 rfl (lv_at hl 5 rfl) ?_
          refine lv_iload hx hb dX1_mergeAll_53 (lv_at hl 1 rfl) ?_
          refine lv_iload hx hb dX1_mergeAll_55 (lv_at hl 0 rfl) ?_
          refine gcV_v (rest := []) X (c_X1_merge l D cy ad rest w3 r5 r8) gy_X1_merge gX1_mergeAll_X1_merge ⟨rfl, rfl, Nat.le_of_ble_eq_true rfl, Nat.le_of_ble_eq_true rfl⟩ 93 rfl rfl rfl hl rfl (Nat.le_of_ble_eq_true rfl) dX1_mergeAll_57 ⟨Nat.zero_le _, Nat.zero_le _⟩ hw (fun u11 H locs hu11 hw => ?_)
          have hu11 : u11 = F_X1_merge w3 r5 r8 := hu11
          have hT3 := hT3.trans (bnd_eq hu11)
          refine lv_iload_n hx hb dX1_mergeAll_60 rfl (lv_at hl 4 rfl) ?_
          refine lv_iload hx hb dX1_mergeAll_61 (lv_at hl 0 rfl) ?_
          refine lv_icmp_ne (tgt := 71) hx hb dX1_mergeAll_63 (by decide) (fun c12 => ?_) (fun c12 => ?_)
          · skip
            have hT3 := hT3.trans (if_neg c12)
            refine lv_iload_n hx hb dX1_mergeAll_71 rfl (lv_at hl 4 rfl) ?_
            refine lv_istore_n (lv' := [(3, .int v3_3), (7, .int r8), (6, .int r5), (5, .int v3_5), (4, .int r1), (0, .ref (ad 93)), (1, .int q1), (2, .int q2)]) hx hb dX1_mergeAll_72 rfl hl (by decide) rfl (fun ls hl => ?_)
            refine lv_iinc (v := (v3_5 + 1)) (lv' := [(5, .int (v3_5 + 1)), (3, .int v3_3), (7, .int r8), (6, .int r5), (4, .int r1), (0, .ref (ad 93)), (1, .int q1), (2, .int q2)]) hx hb dX1_mergeAll_73 hl (k := 3) rfl rfl (by decide) rfl (fun ls hl => ?_)
            refine lv_goto (tgt := 15) hx hb dX1_mergeAll_76 (by decide) ?_
            exact ih3 (v3_5 + 1) v3_3 u11 (hF.trans (lp_l hT3)) (Nat.lt_of_lt_of_le (by first | exact up_dec (by assumption) | (simp only [*]; exact up_dec (by assumption))) (Nat.le_of_lt_succ hm3)) _ _ ls (lv_sub hl [0, 4, 1, 5, 6, 7] rfl) hw
          · skip
            have hT3 := hT3.trans (if_pos c12)
            refine lv_iload hx hb dX1_mergeAll_66 (lv_at hl 1 rfl) ?_
            refine lv_goto (tgt := 72) hx hb dX1_mergeAll_68 (by decide) ?_
            refine lv_istore_n (lv' := [(3, .int r5), (7, .int r8), (6, .int r5), (5, .int v3_5), (4, .int r1), (0, .ref (ad 93)), (1, .int q1), (2, .int q2)]) hx hb dX1_mergeAll_72 rfl hl (by decide) rfl (fun ls hl => ?_)
            refine lv_iinc (v := (v3_5 + 1)) (lv' := [(5, .int (v3_5 + 1)), (3, .int r5), (7, .int r8), (6, .int r5), (4, .int r1), (0, .ref (ad 93)), (1, .int q1), (2, .int q2)]) hx hb dX1_mergeAll_73 hl (k := 3) rfl rfl (by decide) rfl (fun ls hl => ?_)
            refine lv_goto (tgt := 15) hx hb dX1_mergeAll_76 (by decide) ?_
            exact ih3 (v3_5 + 1) r5 u11 (hF.trans (lp_l hT3)) (Nat.lt_of_lt_of_le (by first | exact up_dec (by assumption) | (simp only [*]; exact up_dec (by assumption))) (Nat.le_of_lt_succ hm3)) _ _ ls (lv_sub hl [0, 4, 1, 5, 6, 7] rfl) hw
        · skip
          have hT3 := hT3.trans (if_pos c7)
          refine lv_iload_n hx hb dX1_mergeAll_37 rfl (lv_at hl 3 rfl) ?_
          exact hret _ _ _ _ _ _ dX1_mergeAll_38 ⟨congrArg Prod.fst ((hF.trans (lp_r hT3)).symm.trans hsp), congrArg Prod.snd ((hF.trans (lp_r hT3)).symm.trans hsp)⟩ hw
  exact L3 _ 0 q2 C hF (Nat.lt_succ_self _) _ _ ls (lv_sub hl [0, 1, 2, 3, 4, 5] rfl) hw
theorem gy_X1_take : gY yX1_take RX1 cX1_take 6 (some .int) wsX1_take 3 := ⟨⟨_, rfl⟩, rfl, by decide +kernel, by decide +kernel, by decide +kernel⟩
def F_X1_take (C : CS) (q1 : Int32) (q2 : Int32) (q3 : Int32) : Int32 × CS := (bnd (F_X1_comesLate C q2 (C.2.1 2)) (fun r1 => (if r1 = 0 then (bnd ((F_X0_form C q1 q2).2) (fun u5 => (bnd ((F_X0_form C q1 q2).1) (fun r4 => (bnd (F_X3_keep u5 q2 q3 r4) (fun u7 => (bnd ((F_X1_mergeAll u7 q1 r4).2) (fun u9 => (bnd ((F_X1_mergeAll u7 q1 r4).1) (fun r8 => (if u9.2.1 1 ≤ 0 then (r8, u9) else (bnd (F_X3_countOf u9 r8) (fun r11 => (if (r11 - r11 / u9.2.1 1 * u9.2.1 1) = 0 then (bnd ((F_X1_letFire u9 r8 0).2) (fun u15 => (bnd ((F_X1_letFire u9 r8 0).1) (fun r14 => (r8, u15))))) else (r8, u9))))))))))))))) else (bnd (sI C 3 (C.2.1 3 + 1)) (fun u16 => ((-1), u16))))))
abbrev rmX1_take : Room := { frames := 5, cells := 0, slots := 0, locals := 119 }
set_option maxHeartbeats 4000000 in
set_option maxRecDepth 100000 in
theorem c_X1_take (l : Launch) (D : va_G) (cy : Nat → ClassId) (ad : Nat → Nat) (rest : va_W) (C : CS) (q1 : Int32) (q2 : Int32) (q3 : Int32) : GMi l yX1_take wsX1_take rmX1_take D cy [.ref (ad 93), .int q1, .int q2, .int q3] (CW cy ad C ++ rest) (fun (r : Int32) (u : CS) => r = (F_X1_take C q1 q2 q3).1 ∧ u = (F_X1_take C q1 q2 q3).2) (fun u => CW cy ad u ++ rest) := by
  refine GMi.intro cX1_take 6 RX1 (by decide) rfl rfl (Nat.le_of_ble_eq_true rfl) ?_
  intro p e s m args below meth c A Q ls X hret hl hw
  have hx := X.1
  have hb := X.2.1
  have hl : lv_has ls 6 [(0, .ref (ad 93)), (1, .int q1), (2, .int q2), (3, .int q3)] := hl
  have inX1 : ∀ w ∈ wsX10, w ∈ wsX1_take := fun w h => List.mem_cons_of_mem _ (List.mem_append_left _ (List.mem_append_left _ (List.mem_append_left _ (List.mem_append_left _ (List.mem_append_left _ (List.mem_append_left _ (List.mem_append_right _ h)))))))
  obtain ⟨sp, hsp⟩ : ∃ sp, sp = F_X1_take C q1 q2 q3 := ⟨_, rfl⟩
  have hF := hsp.trans (F_X1_take.eq_1 C q1 q2 q3)
  refine lv_aload_n hx hb dX1_take_0 rfl (lv_at hl 0 rfl) ?_
  refine lv_iload_n hx hb dX1_take_1 rfl (lv_at hl 2 rfl) ?_
  refine lv_aload_n hx hb dX1_take_2 rfl (lv_at hl 0 rfl) ?_
  refine g_get (v := .int (C.2.1 2)) (C := RX1) (T := TX1) (N := 10) (ci := 3) X inX1 hw 93 rfl rfl 7 (by decide) (List.mem_of_getElem? (i := 1) rfl) rfl rfl dX1_take_3 ?_
  refine gcV_i (rest := []) X (c_X1_comesLate l D cy ad rest C q2 (C.2.1 2)) gy_X1_comesLate gX1_take_X1_comesLate ⟨rfl, rfl, Nat.le_of_ble_eq_true rfl, Nat.le_of_ble_eq_true rfl⟩ 93 rfl rfl rfl hl rfl (Nat.le_of_ble_eq_true rfl) dX1_take_6 ⟨Nat.zero_le _, Nat.zero_le _⟩ hw (fun r1 _ H locs hr1 hw => ?_)
  obtain ⟨hr1, zr1⟩ : r1 = F_X1_comesLate C q2 (C.2.1 2) ∧ (r1 = 0 ∨ r1 = 1) := hr1
  have hF := hF.trans (bnd_eq hr1)
  refine lv_if_eq (tgt := 24) hx hb dX1_take_9 (by decide) (fun c3 => ?_) (fun c3 => ?_)
  · skip
    have hF := hF.trans (if_pos c3)
    refine lv_aload_n hx hb dX1_take_24 rfl (lv_at hl 0 rfl) ?_
    refine g_get (v := .ref (ad 95)) (C := RX1) (T := TX1) (N := 10) (ci := 3) X inX1 hw 93 rfl rfl 3 (by decide) (List.mem_of_getElem? (i := 3) rfl) rfl rfl dX1_take_25 ?_
    refine lv_iload_n hx hb dX1_take_28 rfl (lv_at hl 1 rfl) ?_
    refine lv_iload_n hx hb dX1_take_29 rfl (lv_at hl 2 rfl) ?_
    refine gcV_i (rest := []) X (c_X0_form l D cy ad rest C q1 q2) gy_X0_form gX1_take_X0_form ⟨rfl, rfl, Nat.le_of_ble_eq_true rfl, Nat.le_of_ble_eq_true rfl⟩ 95 rfl rfl rfl hl rfl (Nat.le_of_ble_eq_true rfl) dX1_take_30 ⟨Nat.zero_le _, Nat.zero_le _⟩ hw (fun r4 u5 H locs hr4 hw => ?_)
    obtain ⟨hr4, hu5⟩ : r4 = (F_X0_form C q1 q2).1 ∧ u5 = (F_X0_form C q1 q2).2 := hr4
    have hF := hF.trans (bnd_eq hu5)
    have hF := hF.trans (bnd_eq hr4)
    refine lv_istore (lv' := [(4, .int r4), (0, .ref (ad 93)), (1, .int q1), (2, .int q2), (3, .int q3)]) hx hb dX1_take_33 hl (by decide) rfl (fun ls hl => ?_)
    refine lv_aload_n hx hb dX1_take_35 rfl (lv_at hl 1 rfl) ?_
    refine g_get (v := .ref (ad 94)) (C := RX1) (T := TX1) (N := 10) (ci := 3) X inX1 hw 93 rfl rfl 2 (by decide) (List.mem_of_getElem? (i := 4) rfl) rfl rfl dX1_take_36 ?_
    refine lv_iload_n hx hb dX1_take_39 rfl (lv_at hl 3 rfl) ?_
    refine lv_iload_n hx hb dX1_take_40 rfl (lv_at hl 4 rfl) ?_
    refine lv_iload hx hb dX1_take_41 (lv_at hl 0 rfl) ?_
    refine gcV_v (rest := []) X (c_X3_keep l D cy ad rest u5 q2 q3 r4) gy_X3_keep gX1_take_X3_keep ⟨rfl, rfl, Nat.le_of_ble_eq_true rfl, Nat.le_of_ble_eq_true rfl⟩ 94 rfl rfl rfl hl rfl (Nat.le_of_ble_eq_true rfl) dX1_take_43 ⟨Nat.zero_le _, Nat.zero_le _⟩ hw (fun u7 H locs hu7 hw => ?_)
    have hu7 : u7 = F_X3_keep u5 q2 q3 r4 := hu7
    have hF := hF.trans (bnd_eq hu7)
    refine lv_aload_n hx hb dX1_take_46 rfl (lv_at hl 1 rfl) ?_
    refine lv_iload_n hx hb dX1_take_47 rfl (lv_at hl 2 rfl) ?_
    refine lv_iload hx hb dX1_take_48 (lv_at hl 0 rfl) ?_
    refine gcV_i (rest := []) X (c_X1_mergeAll l D cy ad rest u7 q1 r4) gy_X1_mergeAll gX1_take_X1_mergeAll ⟨rfl, rfl, Nat.le_of_ble_eq_true rfl, Nat.le_of_ble_eq_true rfl⟩ 93 rfl rfl rfl hl rfl (Nat.le_of_ble_eq_true rfl) dX1_take_50 ⟨Nat.zero_le _, Nat.zero_le _⟩ hw (fun r8 u9 H locs hr8 hw => ?_)
    obtain ⟨hr8, hu9⟩ : r8 = (F_X1_mergeAll u7 q1 r4).1 ∧ u9 = (F_X1_mergeAll u7 q1 r4).2 := hr8
    have hF := hF.trans (bnd_eq hu9)
    have hF := hF.trans (bnd_eq hr8)
    refine lv_istore (lv' := [(5, .int r8), (4, .int r4), (0, .ref (ad 93)), (1, .int q1), (2, .int q2), (3, .int q3)]) hx hb dX1_take_53 hl (by decide) rfl (fun ls hl => ?_)
    refine lv_aload_n hx hb dX1_take_55 rfl (lv_at hl 2 rfl) ?_
    refine g_get (v := .int (u9.2.1 1)) (C := RX1) (T := TX1) (N := 10) (ci := 3) X inX1 hw 93 rfl rfl 6 (by decide) (List.mem_of_getElem? (i := 5) rfl) rfl rfl dX1_take_56 ?_
    refine lv_if_le (tgt := 87) hx hb dX1_take_59 (by decide) (fun c10 => ?_) (fun c10 => ?_)
    · skip
      have hF := hF.trans (if_pos c10)
      refine lv_iload hx hb dX1_take_87 (lv_at hl 0 rfl) ?_
      exact hret _ _ _ _ _ _ dX1_take_89 ⟨congrArg Prod.fst (hF.symm.trans hsp), congrArg Prod.snd (hF.symm.trans hsp)⟩ hw
    · skip
      have hF := hF.trans (if_neg c10)
      refine lv_aload_n hx hb dX1_take_62 rfl (lv_at hl 2 rfl) ?_
      refine g_get (v := .ref (ad 94)) (C := RX1) (T := TX1) (N := 10) (ci := 3) X inX1 hw 93 rfl rfl 2 (by decide) (List.mem_of_getElem? (i := 4) rfl) rfl rfl dX1_take_63 ?_
      refine lv_iload hx hb dX1_take_66 (lv_at hl 0 rfl) ?_
      refine gcV_i (rest := []) X (c_X3_countOf l D cy ad rest u9 r8) gy_X3_countOf gX1_take_X3_countOf ⟨rfl, rfl, Nat.le_of_ble_eq_true rfl, Nat.le_of_ble_eq_true rfl⟩ 94 rfl rfl rfl hl rfl (Nat.le_of_ble_eq_true rfl) dX1_take_68 ⟨Nat.zero_le _, Nat.zero_le _⟩ hw (fun r11 _ H locs hr11 hw => ?_)
      have hr11 : r11 = F_X3_countOf u9 r8 := hr11
      have hF := hF.trans (bnd_eq hr11)
      refine lv_aload_n hx hb dX1_take_71 rfl (lv_at hl 2 rfl) ?_
      refine g_get (v := .int (u9.2.1 1)) (C := RX1) (T := TX1) (N := 10) (ci := 3) X inX1 hw 93 rfl rfl 6 (by decide) (List.mem_of_getElem? (i := 5) rfl) rfl rfl dX1_take_72 ?_
      refine lv_irem hx hb dX1_take_75 (by first | exact ne0_of (by assumption) | assumption) ?_
      refine lv_if_ne (tgt := 87) hx hb dX1_take_76 (by decide) (fun c13 => ?_) (fun c13 => ?_)
      · skip
        have hF := hF.trans (if_neg c13)
        refine lv_iload hx hb dX1_take_87 (lv_at hl 0 rfl) ?_
        exact hret _ _ _ _ _ _ dX1_take_89 ⟨congrArg Prod.fst (hF.symm.trans hsp), congrArg Prod.snd (hF.symm.trans hsp)⟩ hw
      · skip
        have hF := hF.trans (if_pos c13)
        refine lv_aload_n hx hb dX1_take_79 rfl (lv_at hl 2 rfl) ?_
        refine lv_iload hx hb dX1_take_80 (lv_at hl 0 rfl) ?_
        refine lv_iconst (v := 0) hx hb dX1_take_82 (by decide) ?_
        refine gcV_i (rest := []) X (c_X1_letFire l D cy ad rest u9 r8 0) gy_X1_letFire gX1_take_X1_letFire ⟨rfl, rfl, Nat.le_of_ble_eq_true rfl, Nat.le_of_ble_eq_true rfl⟩ 93 rfl rfl rfl hl rfl (Nat.le_of_ble_eq_true rfl) dX1_take_83 ⟨Nat.zero_le _, Nat.zero_le _⟩ hw (fun r14 u15 H locs hr14 hw => ?_)
        obtain ⟨hr14, hu15⟩ : r14 = (F_X1_letFire u9 r8 0).1 ∧ u15 = (F_X1_letFire u9 r8 0).2 := hr14
        have hF := hF.trans (bnd_eq hu15)
        have hF := hF.trans (bnd_eq hr14)
        refine lv_pop hx hb dX1_take_86 rfl ?_
        refine lv_iload hx hb dX1_take_87 (lv_at hl 0 rfl) ?_
        exact hret _ _ _ _ _ _ dX1_take_89 ⟨congrArg Prod.fst (hF.symm.trans hsp), congrArg Prod.snd (hF.symm.trans hsp)⟩ hw
  · skip
    have hF := hF.trans (if_neg c3)
    refine lv_aload_n hx hb dX1_take_12 rfl (lv_at hl 0 rfl) ?_
    refine lv_dup hx hb dX1_take_13 rfl ?_
    refine g_get (v := .int (C.2.1 3)) (C := RX1) (T := TX1) (N := 10) (ci := 3) X inX1 hw 93 rfl rfl 8 (by decide) (List.mem_of_getElem? (i := 2) rfl) rfl rfl dX1_take_14 ?_
    refine lv_iconst (v := 1) hx hb dX1_take_17 (by decide) ?_
    refine lv_iadd hx hb dX1_take_18 ?_
    refine g_put (v := .int (C.2.1 3 + 1)) (C := RX1) (T := TX1) (N := 10) (ci := 3) (w' := CW cy ad (sI C 3 (C.2.1 3 + 1)) ++ rest) X inX1 tyX1 tyX1_ok nmX1 hw 93 rfl rfl 8 (by decide) (List.mem_of_getElem? (i := 2) rfl) rfl rfl rfl rfl (Nat.le_of_ble_eq_true rfl) rfl dX1_take_19 (fun H locs hw => ?_)
    obtain ⟨u16, hu16⟩ : ∃ z, z = sI C 3 (C.2.1 3 + 1) := ⟨_, rfl⟩
    rw [← hu16] at hw
    have hF := hF.trans (bnd_eq hu16)
    refine lv_iconst (v := (-1)) hx hb dX1_take_22 (by decide) ?_
    exact hret _ _ _ _ _ _ dX1_take_23 ⟨congrArg Prod.fst (hF.symm.trans hsp), congrArg Prod.snd (hF.symm.trans hsp)⟩ hw
theorem gy_X1_closingMark : gY yX1_closingMark RX1 cX1_closingMark 2 (some .int) wsX1_closingMark 1 := ⟨⟨_, rfl⟩, rfl, by decide +kernel, by decide +kernel, by decide +kernel⟩
def F_X1_closingMark (C : CS) (q1 : Int32) : Int32 := (bnd (rAt 100 (C.1 7) q1) (fun r1 => (bnd (rAt 100 (C.1 5) q1) (fun r3 => (bnd (rAt 8 (C.1 0) r3) (fun r5 => (((r1 + r5) + C.2.1 0) + 1)))))))
abbrev rmX1_closingMark : Room := { frames := 1, cells := 0, slots := 0, locals := 21 }
set_option maxHeartbeats 4000000 in
set_option maxRecDepth 100000 in
theorem c_X1_closingMark (l : Launch) (D : va_G) (cy : Nat → ClassId) (ad : Nat → Nat) (rest : va_W) (C : CS) (q1 : Int32) : GMi l yX1_closingMark wsX1_closingMark rmX1_closingMark D cy [.ref (ad 93), .int q1] (CW cy ad C ++ rest) (fun (r : Int32) (_ : Unit) => r = F_X1_closingMark C q1) (fun _ => CW cy ad C ++ rest) := by
  refine GMi.intro cX1_closingMark 2 RX1 (by decide) rfl rfl (Nat.le_of_ble_eq_true rfl) ?_
  intro p e s m args below meth c A Q ls X hret hl hw
  have hx := X.1
  have hb := X.2.1
  have hl : lv_has ls 2 [(0, .ref (ad 93)), (1, .int q1)] := hl
  have inX0 : ∀ w ∈ wsX00, w ∈ wsX1_closingMark := fun w h => List.mem_cons_of_mem _ (List.mem_append_left _ (List.mem_append_left _ (List.mem_append_right _ h)))
  have inX1 : ∀ w ∈ wsX10, w ∈ wsX1_closingMark := fun w h => List.mem_cons_of_mem _ (List.mem_append_left _ (List.mem_append_left _ (List.mem_append_left _ (List.mem_append_right _ h))))
  obtain ⟨sp, hsp⟩ : ∃ sp, sp = F_X1_closingMark C q1 := ⟨_, rfl⟩
  have hF := hsp.trans (F_X1_closingMark.eq_1 C q1)
  refine lv_aload_n hx hb dX1_closingMark_0 rfl (lv_at hl 0 rfl) ?_
  refine g_get (v := .ref (ad 95)) (C := RX1) (T := TX1) (N := 10) (ci := 3) X inX1 hw 93 rfl rfl 3 (by decide) (List.mem_of_getElem? (i := 1) rfl) rfl rfl dX1_closingMark_1 ?_
  refine g_get (v := .ref (ad 14)) (C := RX0) (T := TX0) (N := 10) (ci := 2) X inX0 hw 95 rfl rfl 2 (by decide) (List.mem_of_getElem? (i := 2) rfl) rfl rfl dX1_closingMark_4 ?_
  refine lv_iload_n hx hb dX1_closingMark_7 rfl (lv_at hl 1 rfl) ?_
  refine gcV_i (rest := []) X (cR_at l D cy ad rest C 7 (by decide) q1) gy_X4_at gX1_closingMark_X4_at ⟨rfl, rfl, Nat.le_of_ble_eq_true rfl, Nat.le_of_ble_eq_true rfl⟩ 14 rfl rfl rfl hl rfl (Nat.le_of_ble_eq_true rfl) dX1_closingMark_8 ⟨Nat.zero_le _, Nat.zero_le _⟩ hw (fun r1 _ H locs hr1 hw => ?_)
  have hr1 : r1 = rAt 100 (C.1 7) q1 := hr1
  have hF := hF.trans (bnd_eq hr1)
  refine lv_aload_n hx hb dX1_closingMark_11 rfl (lv_at hl 0 rfl) ?_
  refine g_get (v := .ref (ad 0)) (C := RX1) (T := TX1) (N := 10) (ci := 3) X inX1 hw 93 rfl rfl 0 (by decide) (List.mem_of_getElem? (i := 3) rfl) rfl rfl dX1_closingMark_12 ?_
  refine lv_aload_n hx hb dX1_closingMark_15 rfl (lv_at hl 0 rfl) ?_
  refine g_get (v := .ref (ad 95)) (C := RX1) (T := TX1) (N := 10) (ci := 3) X inX1 hw 93 rfl rfl 3 (by decide) (List.mem_of_getElem? (i := 1) rfl) rfl rfl dX1_closingMark_16 ?_
  refine g_get (v := .ref (ad 10)) (C := RX0) (T := TX0) (N := 10) (ci := 2) X inX0 hw 95 rfl rfl 0 (by decide) (List.mem_of_getElem? (i := 4) rfl) rfl rfl dX1_closingMark_19 ?_
  refine lv_iload_n hx hb dX1_closingMark_22 rfl (lv_at hl 1 rfl) ?_
  refine gcV_i (rest := [.ref (ad 0), .int r1]) X (cR_at l D cy ad rest C 5 (by decide) q1) gy_X4_at gX1_closingMark_X4_at ⟨rfl, rfl, Nat.le_of_ble_eq_true rfl, Nat.le_of_ble_eq_true rfl⟩ 10 rfl rfl rfl hl rfl (Nat.le_of_ble_eq_true rfl) dX1_closingMark_23 ⟨Nat.zero_le _, Nat.zero_le _⟩ hw (fun r3 _ H locs hr3 hw => ?_)
  have hr3 : r3 = rAt 100 (C.1 5) q1 := hr3
  have hF := hF.trans (bnd_eq hr3)
  refine gcV_i (rest := [.int r1]) X (cR_at l D cy ad rest C 0 (by decide) r3) gy_X4_at gX1_closingMark_X4_at ⟨rfl, rfl, Nat.le_of_ble_eq_true rfl, Nat.le_of_ble_eq_true rfl⟩ 0 rfl rfl rfl hl rfl (Nat.le_of_ble_eq_true rfl) dX1_closingMark_26 ⟨Nat.zero_le _, Nat.zero_le _⟩ hw (fun r5 _ H locs hr5 hw => ?_)
  have hr5 : r5 = rAt 8 (C.1 0) r3 := hr5
  have hF := hF.trans (bnd_eq hr5)
  refine lv_iadd hx hb dX1_closingMark_29 ?_
  refine lv_aload_n hx hb dX1_closingMark_30 rfl (lv_at hl 0 rfl) ?_
  refine g_get (v := .int (C.2.1 0)) (C := RX1) (T := TX1) (N := 10) (ci := 3) X inX1 hw 93 rfl rfl 5 (by decide) (List.mem_of_getElem? (i := 5) rfl) rfl rfl dX1_closingMark_31 ?_
  refine lv_iadd hx hb dX1_closingMark_34 ?_
  refine lv_iconst (v := 1) hx hb dX1_closingMark_35 (by decide) ?_
  refine lv_iadd hx hb dX1_closingMark_36 ?_
  exact hret _ _ () _ _ _ dX1_closingMark_37 (hF.symm.trans hsp) hw
theorem gy_X1_leastClosingMark : gY yX1_leastClosingMark RX1 cX1_leastClosingMark 3 (some .int) wsX1_leastClosingMark 0 := ⟨⟨_, rfl⟩, rfl, by decide +kernel, by decide +kernel, by decide +kernel⟩
def st_X1_leastClosingMark_5 (C : CS) (v1_2 : Int32) (v1_1 : Int32) : (Int32 × Int32) ⊕ Int32 := (if C.2.1 6 ≤ v1_2 then .inr (v1_1) else (bnd (F_X0_isOpen C v1_2) (fun r3 => (if r3 = 0 then .inl ((v1_2 + 1), v1_1) else (bnd (F_X1_closingMark C v1_2) (fun r6 => .inl ((v1_2 + 1), (if r6 < v1_1 then r6 else v1_1))))))))
def F_X1_leastClosingMark (C : CS) : Int32 := lp (fun (z : Int32 × Int32) => st_X1_leastClosingMark_5 C z.1 z.2) 0 (((C.2.1 6).toInt - (0 : Int32).toInt).toNat + 1) (0, 2147483647)
abbrev rmX1_leastClosingMark : Room := { frames := 2, cells := 0, slots := 0, locals := 42 }
set_option maxHeartbeats 4000000 in
set_option maxRecDepth 100000 in
theorem c_X1_leastClosingMark (l : Launch) (D : va_G) (cy : Nat → ClassId) (ad : Nat → Nat) (rest : va_W) (C : CS) : GMi l yX1_leastClosingMark wsX1_leastClosingMark rmX1_leastClosingMark D cy [.ref (ad 93)] (CW cy ad C ++ rest) (fun (r : Int32) (_ : Unit) => r = F_X1_leastClosingMark C) (fun _ => CW cy ad C ++ rest) := by
  refine GMi.intro cX1_leastClosingMark 3 RX1 (by decide) rfl rfl (Nat.le_of_ble_eq_true rfl) ?_
  intro p e s m args below meth c A Q ls X hret hl hw
  have hx := X.1
  have hb := X.2.1
  have hl : lv_has ls 3 [(0, .ref (ad 93))] := hl
  have inX0 : ∀ w ∈ wsX00, w ∈ wsX1_leastClosingMark := fun w h => List.mem_cons_of_mem _ (List.mem_append_left _ (List.mem_append_left _ (List.mem_append_right _ h)))
  have inX1 : ∀ w ∈ wsX10, w ∈ wsX1_leastClosingMark := fun w h => List.mem_cons_of_mem _ (List.mem_append_left _ (List.mem_append_left _ (List.mem_append_left _ (List.mem_append_right _ h))))
  obtain ⟨sp, hsp⟩ : ∃ sp, sp = F_X1_leastClosingMark C := ⟨_, rfl⟩
  have hF := hsp.trans (F_X1_leastClosingMark.eq_1 C)
  refine lv_ldc (v := 2147483647) hx hb X.2.2.2.2.1 (X.2.2.2.2.2.1 _ (List.mem_of_getElem? (i := 1) rfl)) dX1_leastClosingMark_0 ?_
  refine lv_istore_n (lv' := [(1, .int 2147483647), (0, .ref (ad 93))]) hx hb dX1_leastClosingMark_2 rfl hl (by decide) rfl (fun ls hl => ?_)
  refine lv_iconst (v := 0) hx hb dX1_leastClosingMark_3 (by decide) ?_
  refine lv_istore_n (lv' := [(2, .int 0), (1, .int 2147483647), (0, .ref (ad 93))]) hx hb dX1_leastClosingMark_4 rfl hl (by decide) rfl (fun ls hl => ?_)
  have L1 : ∀ (n1 : Nat) (v1_2 : Int32) (v1_1 : Int32), sp = lp (fun (z : Int32 × Int32) => st_X1_leastClosingMark_5 C z.1 z.2) 0 n1 (v1_2, v1_1) → ((C.2.1 6).toInt - v1_2.toInt).toNat < n1 → ∀ (H : Heap) (locs : List Loc) (ls : Array Slot), lv_has ls 3 [(2, .int v1_2), (1, .int v1_1), (0, .ref (ad 93))] → gw D A s.heap (CW cy ad C ++ rest) H locs → W p l e rmX1_leastClosingMark s m args below meth c H locs 0 0 Q (F0 m 5 ls []) := by
    intro n1
    induction n1 with
    | zero => intro v1_2 v1_1 hF hm1; exact absurd hm1 (Nat.not_lt_zero _)
    | succ n1 ih1 =>
      intro v1_2 v1_1 hF hm1 H locs ls hl hw
      have hT1 := st_X1_leastClosingMark_5.eq_1 C v1_2 v1_1
      refine lv_iload_n hx hb dX1_leastClosingMark_5 rfl (lv_at hl 0 rfl) ?_
      refine lv_aload_n hx hb dX1_leastClosingMark_6 rfl (lv_at hl 2 rfl) ?_
      refine g_get (v := .ref (ad 95)) (C := RX1) (T := TX1) (N := 10) (ci := 3) X inX1 hw 93 rfl rfl 3 (by decide) (List.mem_of_getElem? (i := 2) rfl) rfl rfl dX1_leastClosingMark_7 ?_
      refine g_get (v := .int (C.2.1 6)) (C := RX0) (T := TX0) (N := 10) (ci := 2) X inX0 hw 95 rfl rfl 9 (by decide) (List.mem_of_getElem? (i := 3) rfl) rfl rfl dX1_leastClosingMark_10 ?_
      refine lv_icmp_ge (tgt := 43) hx hb dX1_leastClosingMark_13 (by decide) (fun c2 => ?_) (fun c2 => ?_)
      · skip
        have hT1 := hT1.trans (if_pos c2)
        refine lv_iload_n hx hb dX1_leastClosingMark_43 rfl (lv_at hl 1 rfl) ?_
        exact hret _ _ () _ _ _ dX1_leastClosingMark_44 ((hF.trans (lp_r hT1)).symm.trans hsp) hw
      · skip
        have hT1 := hT1.trans (if_neg c2)
        refine lv_aload_n hx hb dX1_leastClosingMark_16 rfl (lv_at hl 2 rfl) ?_
        refine g_get (v := .ref (ad 95)) (C := RX1) (T := TX1) (N := 10) (ci := 3) X inX1 hw 93 rfl rfl 3 (by decide) (List.mem_of_getElem? (i := 2) rfl) rfl rfl dX1_leastClosingMark_17 ?_
        refine lv_iload_n hx hb dX1_leastClosingMark_20 rfl (lv_at hl 0 rfl) ?_
        refine gcV_i (rest := []) X (c_X0_isOpen l D cy ad rest C v1_2) gy_X0_isOpen gX1_leastClosingMark_X0_isOpen ⟨rfl, rfl, Nat.le_of_ble_eq_true rfl, Nat.le_of_ble_eq_true rfl⟩ 95 rfl rfl rfl hl rfl (Nat.le_of_ble_eq_true rfl) dX1_leastClosingMark_21 ⟨Nat.zero_le _, Nat.zero_le _⟩ hw (fun r3 _ H locs hr3 hw => ?_)
        obtain ⟨hr3, zr3⟩ : r3 = F_X0_isOpen C v1_2 ∧ (r3 = 0 ∨ r3 = 1) := hr3
        have hT1 := hT1.trans (bnd_eq hr3)
        refine lv_if_eq (tgt := 37) hx hb dX1_leastClosingMark_24 (by decide) (fun c5 => ?_) (fun c5 => ?_)
        · skip
          have hT1 := hT1.trans (if_pos c5)
          refine lv_iinc (v := (v1_2 + 1)) (lv' := [(2, .int (v1_2 + 1)), (1, .int v1_1), (0, .ref (ad 93))]) hx hb dX1_leastClosingMark_37 hl (k := 0) rfl rfl (by decide) rfl (fun ls hl => ?_)
          refine lv_goto (tgt := 5) hx hb dX1_leastClosingMark_40 (by decide) ?_
          exact ih1 (v1_2 + 1) v1_1 (hF.trans (lp_l hT1)) (Nat.lt_of_lt_of_le (by first | exact up_dec (by assumption) | (simp only [*]; exact up_dec (by assumption))) (Nat.le_of_lt_succ hm1)) _ _ ls (lv_sub hl [0, 1, 2] rfl) hw
        · skip
          have hT1 := hT1.trans (if_neg c5)
          refine lv_iload_n hx hb dX1_leastClosingMark_27 rfl (lv_at hl 1 rfl) ?_
          refine lv_aload_n hx hb dX1_leastClosingMark_28 rfl (lv_at hl 2 rfl) ?_
          refine lv_iload_n hx hb dX1_leastClosingMark_29 rfl (lv_at hl 0 rfl) ?_
          refine gcV_i (rest := [.int v1_1]) X (c_X1_closingMark l D cy ad rest C v1_2) gy_X1_closingMark gX1_leastClosingMark_X1_closingMark ⟨rfl, rfl, Nat.le_of_ble_eq_true rfl, Nat.le_of_ble_eq_true rfl⟩ 93 rfl rfl rfl hl rfl (Nat.le_of_ble_eq_true rfl) dX1_leastClosingMark_30 ⟨Nat.zero_le _, Nat.zero_le _⟩ hw (fun r6 _ H locs hr6 hw => ?_)
          have hr6 : r6 = F_X1_closingMark C v1_2 := hr6
          have hT1 := hT1.trans (bnd_eq hr6)
          refine va_mmin hx hb (X.2.2.2.1.trans hl.1.symm) X.2.2.2.2.1 (X.2.2.2.2.2.1 _ (List.mem_of_getElem? (i := 4) rfl)) (X.2.2.2.2.2.1 _ (List.mem_of_getElem? (i := 5) rfl)) (X.2.2.2.2.2.1 _ (List.mem_of_getElem? (i := 6) rfl)) (X.2.2.2.2.2.1 _ (List.mem_of_getElem? (i := 7) rfl)) (Nat.le_of_ble_eq_true rfl) (Nat.le_of_ble_eq_true rfl) (Nat.zero_le _) (Nat.zero_le _) dX1_leastClosingMark_33 ?_
          refine lv_istore_n (lv' := [(1, .int (if r6 < v1_1 then r6 else v1_1)), (2, .int v1_2), (0, .ref (ad 93))]) hx hb dX1_leastClosingMark_36 rfl hl (by decide) rfl (fun ls hl => ?_)
          refine lv_iinc (v := (v1_2 + 1)) (lv' := [(2, .int (v1_2 + 1)), (1, .int (if r6 < v1_1 then r6 else v1_1)), (0, .ref (ad 93))]) hx hb dX1_leastClosingMark_37 hl (k := 1) rfl rfl (by decide) rfl (fun ls hl => ?_)
          refine lv_goto (tgt := 5) hx hb dX1_leastClosingMark_40 (by decide) ?_
          exact ih1 (v1_2 + 1) (if r6 < v1_1 then r6 else v1_1) (hF.trans (lp_l hT1)) (Nat.lt_of_lt_of_le (by first | exact up_dec (by assumption) | (simp only [*]; exact up_dec (by assumption))) (Nat.le_of_lt_succ hm1)) _ _ ls (lv_sub hl [0, 1, 2] rfl) hw
  exact L1 _ 0 2147483647 hF (Nat.lt_succ_self _) _ _ ls (lv_sub hl [0, 1, 2] rfl) hw
theorem gy_X1_firstToClose : gY yX1_firstToClose RX1 cX1_firstToClose 4 (some .int) wsX1_firstToClose 1 := ⟨⟨_, rfl⟩, rfl, by decide +kernel, by decide +kernel, by decide +kernel⟩
def st_X1_firstToClose_4 (q1 : Int32) (C : CS) (v1_3 : Int32) (v1_2 : Int32) : (Int32 × Int32) ⊕ Int32 := (if C.2.1 6 ≤ v1_3 then .inr (v1_2) else (bnd (F_X0_isOpen C v1_3) (fun r3 => (if r3 = 0 then .inl ((v1_3 + 1), v1_2) else (bnd (F_X1_closingMark C v1_3) (fun r6 => (if q1 < r6 then .inl ((v1_3 + 1), v1_2) else (if v1_2 = (-1) then .inl ((v1_3 + 1), v1_3) else (bnd (rAt 100 (C.1 7) v1_3) (fun r10 => (bnd (rAt 100 (C.1 7) v1_2) (fun r12 => (if r12 ≤ r10 then .inl ((v1_3 + 1), v1_2) else .inl ((v1_3 + 1), v1_3))))))))))))))
def F_X1_firstToClose (C : CS) (q1 : Int32) : Int32 := lp (fun (z : Int32 × Int32) => st_X1_firstToClose_4 q1 C z.1 z.2) 0 (((C.2.1 6).toInt - (0 : Int32).toInt).toNat + 1) (0, (-1))
abbrev rmX1_firstToClose : Room := { frames := 2, cells := 0, slots := 0, locals := 42 }
set_option maxHeartbeats 4000000 in
set_option maxRecDepth 100000 in
theorem c_X1_firstToClose (l : Launch) (D : va_G) (cy : Nat → ClassId) (ad : Nat → Nat) (rest : va_W) (C : CS) (q1 : Int32) : GMi l yX1_firstToClose wsX1_firstToClose rmX1_firstToClose D cy [.ref (ad 93), .int q1] (CW cy ad C ++ rest) (fun (r : Int32) (_ : Unit) => r = F_X1_firstToClose C q1) (fun _ => CW cy ad C ++ rest) := by
  refine GMi.intro cX1_firstToClose 4 RX1 (by decide) rfl rfl (Nat.le_of_ble_eq_true rfl) ?_
  intro p e s m args below meth c A Q ls X hret hl hw
  have hx := X.1
  have hb := X.2.1
  have hl : lv_has ls 4 [(0, .ref (ad 93)), (1, .int q1)] := hl
  have inX0 : ∀ w ∈ wsX00, w ∈ wsX1_firstToClose := fun w h => List.mem_cons_of_mem _ (List.mem_append_left _ (List.mem_append_left _ (List.mem_append_right _ h)))
  have inX1 : ∀ w ∈ wsX10, w ∈ wsX1_firstToClose := fun w h => List.mem_cons_of_mem _ (List.mem_append_left _ (List.mem_append_left _ (List.mem_append_left _ (List.mem_append_right _ h))))
  obtain ⟨sp, hsp⟩ : ∃ sp, sp = F_X1_firstToClose C q1 := ⟨_, rfl⟩
  have hF := hsp.trans (F_X1_firstToClose.eq_1 C q1)
  refine lv_iconst (v := (-1)) hx hb dX1_firstToClose_0 (by decide) ?_
  refine lv_istore_n (lv' := [(2, .int (-1)), (0, .ref (ad 93)), (1, .int q1)]) hx hb dX1_firstToClose_1 rfl hl (by decide) rfl (fun ls hl => ?_)
  refine lv_iconst (v := 0) hx hb dX1_firstToClose_2 (by decide) ?_
  refine lv_istore_n (lv' := [(3, .int 0), (2, .int (-1)), (0, .ref (ad 93)), (1, .int q1)]) hx hb dX1_firstToClose_3 rfl hl (by decide) rfl (fun ls hl => ?_)
  have L1 : ∀ (n1 : Nat) (v1_3 : Int32) (v1_2 : Int32), sp = lp (fun (z : Int32 × Int32) => st_X1_firstToClose_4 q1 C z.1 z.2) 0 n1 (v1_3, v1_2) → ((C.2.1 6).toInt - v1_3.toInt).toNat < n1 → ∀ (H : Heap) (locs : List Loc) (ls : Array Slot), lv_has ls 4 [(3, .int v1_3), (2, .int v1_2), (0, .ref (ad 93)), (1, .int q1)] → gw D A s.heap (CW cy ad C ++ rest) H locs → W p l e rmX1_firstToClose s m args below meth c H locs 0 0 Q (F0 m 4 ls []) := by
    intro n1
    induction n1 with
    | zero => intro v1_3 v1_2 hF hm1; exact absurd hm1 (Nat.not_lt_zero _)
    | succ n1 ih1 =>
      intro v1_3 v1_2 hF hm1 H locs ls hl hw
      have hT1 := st_X1_firstToClose_4.eq_1 q1 C v1_3 v1_2
      refine lv_iload_n hx hb dX1_firstToClose_4 rfl (lv_at hl 0 rfl) ?_
      refine lv_aload_n hx hb dX1_firstToClose_5 rfl (lv_at hl 2 rfl) ?_
      refine g_get (v := .ref (ad 95)) (C := RX1) (T := TX1) (N := 10) (ci := 3) X inX1 hw 93 rfl rfl 3 (by decide) (List.mem_of_getElem? (i := 1) rfl) rfl rfl dX1_firstToClose_6 ?_
      refine g_get (v := .int (C.2.1 6)) (C := RX0) (T := TX0) (N := 10) (ci := 2) X inX0 hw 95 rfl rfl 9 (by decide) (List.mem_of_getElem? (i := 2) rfl) rfl rfl dX1_firstToClose_9 ?_
      refine lv_icmp_ge (tgt := 73) hx hb dX1_firstToClose_12 (by decide) (fun c2 => ?_) (fun c2 => ?_)
      · skip
        have hT1 := hT1.trans (if_pos c2)
        refine lv_iload_n hx hb dX1_firstToClose_73 rfl (lv_at hl 1 rfl) ?_
        exact hret _ _ () _ _ _ dX1_firstToClose_74 ((hF.trans (lp_r hT1)).symm.trans hsp) hw
      · skip
        have hT1 := hT1.trans (if_neg c2)
        refine lv_aload_n hx hb dX1_firstToClose_15 rfl (lv_at hl 2 rfl) ?_
        refine g_get (v := .ref (ad 95)) (C := RX1) (T := TX1) (N := 10) (ci := 3) X inX1 hw 93 rfl rfl 3 (by decide) (List.mem_of_getElem? (i := 1) rfl) rfl rfl dX1_firstToClose_16 ?_
        refine lv_iload_n hx hb dX1_firstToClose_19 rfl (lv_at hl 0 rfl) ?_
        refine gcV_i (rest := []) X (c_X0_isOpen l D cy ad rest C v1_3) gy_X0_isOpen gX1_firstToClose_X0_isOpen ⟨rfl, rfl, Nat.le_of_ble_eq_true rfl, Nat.le_of_ble_eq_true rfl⟩ 95 rfl rfl rfl hl rfl (Nat.le_of_ble_eq_true rfl) dX1_firstToClose_20 ⟨Nat.zero_le _, Nat.zero_le _⟩ hw (fun r3 _ H locs hr3 hw => ?_)
        obtain ⟨hr3, zr3⟩ : r3 = F_X0_isOpen C v1_3 ∧ (r3 = 0 ∨ r3 = 1) := hr3
        have hT1 := hT1.trans (bnd_eq hr3)
        refine lv_if_eq (tgt := 67) hx hb dX1_firstToClose_23 (by decide) (fun c5 => ?_) (fun c5 => ?_)
        · skip
          have hT1 := hT1.trans (if_pos c5)
          refine lv_iinc (v := (v1_3 + 1)) (lv' := [(3, .int (v1_3 + 1)), (2, .int v1_2), (0, .ref (ad 93)), (1, .int q1)]) hx hb dX1_firstToClose_67 hl (k := 0) rfl rfl (by decide) rfl (fun ls hl => ?_)
          refine lv_goto (tgt := 4) hx hb dX1_firstToClose_70 (by decide) ?_
          exact ih1 (v1_3 + 1) v1_2 (hF.trans (lp_l hT1)) (Nat.lt_of_lt_of_le (by first | exact up_dec (by assumption) | (simp only [*]; exact up_dec (by assumption))) (Nat.le_of_lt_succ hm1)) _ _ ls (lv_sub hl [0, 1, 2, 3] rfl) hw
        · skip
          have hT1 := hT1.trans (if_neg c5)
          refine lv_aload_n hx hb dX1_firstToClose_26 rfl (lv_at hl 2 rfl) ?_
          refine lv_iload_n hx hb dX1_firstToClose_27 rfl (lv_at hl 0 rfl) ?_
          refine gcV_i (rest := []) X (c_X1_closingMark l D cy ad rest C v1_3) gy_X1_closingMark gX1_firstToClose_X1_closingMark ⟨rfl, rfl, Nat.le_of_ble_eq_true rfl, Nat.le_of_ble_eq_true rfl⟩ 93 rfl rfl rfl hl rfl (Nat.le_of_ble_eq_true rfl) dX1_firstToClose_28 ⟨Nat.zero_le _, Nat.zero_le _⟩ hw (fun r6 _ H locs hr6 hw => ?_)
          have hr6 : r6 = F_X1_closingMark C v1_3 := hr6
          have hT1 := hT1.trans (bnd_eq hr6)
          refine lv_iload_n hx hb dX1_firstToClose_31 rfl (lv_at hl 3 rfl) ?_
          refine lv_icmp_gt (tgt := 67) hx hb dX1_firstToClose_32 (by decide) (fun c8 => ?_) (fun c8 => ?_)
          · skip
            have hT1 := hT1.trans (if_pos c8)
            refine lv_iinc (v := (v1_3 + 1)) (lv' := [(3, .int (v1_3 + 1)), (2, .int v1_2), (0, .ref (ad 93)), (1, .int q1)]) hx hb dX1_firstToClose_67 hl (k := 0) rfl rfl (by decide) rfl (fun ls hl => ?_)
            refine lv_goto (tgt := 4) hx hb dX1_firstToClose_70 (by decide) ?_
            exact ih1 (v1_3 + 1) v1_2 (hF.trans (lp_l hT1)) (Nat.lt_of_lt_of_le (by first | exact up_dec (by assumption) | (simp only [*]; exact up_dec (by assumption))) (Nat.le_of_lt_succ hm1)) _ _ ls (lv_sub hl [0, 1, 2, 3] rfl) hw
          · skip
            have hT1 := hT1.trans (if_neg c8)
            refine lv_iload_n hx hb dX1_firstToClose_35 rfl (lv_at hl 1 rfl) ?_
            refine lv_iconst (v := (-1)) hx hb dX1_firstToClose_36 (by decide) ?_
            refine lv_icmp_eq (tgt := 65) hx hb dX1_firstToClose_37 (by decide) (fun c9 => ?_) (fun c9 => ?_)
            · skip
              have hT1 := hT1.trans (if_pos c9)
              refine lv_iload_n hx hb dX1_firstToClose_65 rfl (lv_at hl 0 rfl) ?_
              refine lv_istore_n (lv' := [(2, .int v1_3), (3, .int v1_3), (0, .ref (ad 93)), (1, .int q1)]) hx hb dX1_firstToClose_66 rfl hl (by decide) rfl (fun ls hl => ?_)
              refine lv_iinc (v := (v1_3 + 1)) (lv' := [(3, .int (v1_3 + 1)), (2, .int v1_3), (0, .ref (ad 93)), (1, .int q1)]) hx hb dX1_firstToClose_67 hl (k := 1) rfl rfl (by decide) rfl (fun ls hl => ?_)
              refine lv_goto (tgt := 4) hx hb dX1_firstToClose_70 (by decide) ?_
              exact ih1 (v1_3 + 1) v1_3 (hF.trans (lp_l hT1)) (Nat.lt_of_lt_of_le (by first | exact up_dec (by assumption) | (simp only [*]; exact up_dec (by assumption))) (Nat.le_of_lt_succ hm1)) _ _ ls (lv_sub hl [0, 1, 2, 3] rfl) hw
            · skip
              have hT1 := hT1.trans (if_neg c9)
              refine lv_aload_n hx hb dX1_firstToClose_40 rfl (lv_at hl 2 rfl) ?_
              refine g_get (v := .ref (ad 95)) (C := RX1) (T := TX1) (N := 10) (ci := 3) X inX1 hw 93 rfl rfl 3 (by decide) (List.mem_of_getElem? (i := 1) rfl) rfl rfl dX1_firstToClose_41 ?_
              refine g_get (v := .ref (ad 14)) (C := RX0) (T := TX0) (N := 10) (ci := 2) X inX0 hw 95 rfl rfl 2 (by decide) (List.mem_of_getElem? (i := 3) rfl) rfl rfl dX1_firstToClose_44 ?_
              refine lv_iload_n hx hb dX1_firstToClose_47 rfl (lv_at hl 0 rfl) ?_
              refine gcV_i (rest := []) X (cR_at l D cy ad rest C 7 (by decide) v1_3) gy_X4_at gX1_firstToClose_X4_at ⟨rfl, rfl, Nat.le_of_ble_eq_true rfl, Nat.le_of_ble_eq_true rfl⟩ 14 rfl rfl rfl hl rfl (Nat.le_of_ble_eq_true rfl) dX1_firstToClose_48 ⟨Nat.zero_le _, Nat.zero_le _⟩ hw (fun r10 _ H locs hr10 hw => ?_)
              have hr10 : r10 = rAt 100 (C.1 7) v1_3 := hr10
              have hT1 := hT1.trans (bnd_eq hr10)
              refine lv_aload_n hx hb dX1_firstToClose_51 rfl (lv_at hl 2 rfl) ?_
              refine g_get (v := .ref (ad 95)) (C := RX1) (T := TX1) (N := 10) (ci := 3) X inX1 hw 93 rfl rfl 3 (by decide) (List.mem_of_getElem? (i := 1) rfl) rfl rfl dX1_firstToClose_52 ?_
              refine g_get (v := .ref (ad 14)) (C := RX0) (T := TX0) (N := 10) (ci := 2) X inX0 hw 95 rfl rfl 2 (by decide) (List.mem_of_getElem? (i := 3) rfl) rfl rfl dX1_firstToClose_55 ?_
              refine lv_iload_n hx hb dX1_firstToClose_58 rfl (lv_at hl 1 rfl) ?_
              refine gcV_i (rest := [.int r10]) X (cR_at l D cy ad rest C 7 (by decide) v1_2) gy_X4_at gX1_firstToClose_X4_at ⟨rfl, rfl, Nat.le_of_ble_eq_true rfl, Nat.le_of_ble_eq_true rfl⟩ 14 rfl rfl rfl hl rfl (Nat.le_of_ble_eq_true rfl) dX1_firstToClose_59 ⟨Nat.zero_le _, Nat.zero_le _⟩ hw (fun r12 _ H locs hr12 hw => ?_)
              have hr12 : r12 = rAt 100 (C.1 7) v1_2 := hr12
              have hT1 := hT1.trans (bnd_eq hr12)
              refine lv_icmp_ge (tgt := 67) hx hb dX1_firstToClose_62 (by decide) (fun c14 => ?_) (fun c14 => ?_)
              · skip
                have hT1 := hT1.trans (if_pos c14)
                refine lv_iinc (v := (v1_3 + 1)) (lv' := [(3, .int (v1_3 + 1)), (2, .int v1_2), (0, .ref (ad 93)), (1, .int q1)]) hx hb dX1_firstToClose_67 hl (k := 0) rfl rfl (by decide) rfl (fun ls hl => ?_)
                refine lv_goto (tgt := 4) hx hb dX1_firstToClose_70 (by decide) ?_
                exact ih1 (v1_3 + 1) v1_2 (hF.trans (lp_l hT1)) (Nat.lt_of_lt_of_le (by first | exact up_dec (by assumption) | (simp only [*]; exact up_dec (by assumption))) (Nat.le_of_lt_succ hm1)) _ _ ls (lv_sub hl [0, 1, 2, 3] rfl) hw
              · skip
                have hT1 := hT1.trans (if_neg c14)
                refine lv_iload_n hx hb dX1_firstToClose_65 rfl (lv_at hl 0 rfl) ?_
                refine lv_istore_n (lv' := [(2, .int v1_3), (3, .int v1_3), (0, .ref (ad 93)), (1, .int q1)]) hx hb dX1_firstToClose_66 rfl hl (by decide) rfl (fun ls hl => ?_)
                refine lv_iinc (v := (v1_3 + 1)) (lv' := [(3, .int (v1_3 + 1)), (2, .int v1_3), (0, .ref (ad 93)), (1, .int q1)]) hx hb dX1_firstToClose_67 hl (k := 1) rfl rfl (by decide) rfl (fun ls hl => ?_)
                refine lv_goto (tgt := 4) hx hb dX1_firstToClose_70 (by decide) ?_
                exact ih1 (v1_3 + 1) v1_3 (hF.trans (lp_l hT1)) (Nat.lt_of_lt_of_le (by first | exact up_dec (by assumption) | (simp only [*]; exact up_dec (by assumption))) (Nat.le_of_lt_succ hm1)) _ _ ls (lv_sub hl [0, 1, 2, 3] rfl) hw
  exact L1 _ 0 (-1) hF (Nat.lt_succ_self _) _ _ ls (lv_sub hl [0, 1, 2, 3] rfl) hw
theorem gy_X1_moveMark : gY yX1_moveMark RX1 cX1_moveMark 5 (some .int) wsX1_moveMark 1 := ⟨⟨_, rfl⟩, rfl, by decide +kernel, by decide +kernel, by decide +kernel⟩
def st_X1_moveMark_9 (v2_3 : Int32) (v2_2 : Int32) (w2 : CS) : (Int32 × Int32 × CS) ⊕ (Int32 × CS) := (if 100 ≤ v2_3 then .inr ((v2_2, w2)) else (bnd (F_X1_firstToClose w2 (w2.2.1 2)) (fun r4 => (if r4 = (-1) then .inr ((v2_2, w2)) else (bnd ((F_X1_letFire w2 r4 1).2) (fun u8 => (bnd ((F_X1_letFire w2 r4 1).1) (fun r7 => (bnd (sR u8 8 (rPut 100 (u8.1 8) r4 1)) (fun u10 => .inl ((v2_3 + 1), (v2_2 + 1), u10)))))))))))
def F_X1_moveMark (C : CS) (q1 : Int32) : Int32 × CS := (bnd (sI C 2 q1) (fun u1 => lp (fun (z : Int32 × Int32 × CS) => st_X1_moveMark_9 z.1 z.2.1 z.2.2) (0, C) (((100 : Int32).toInt - (0 : Int32).toInt).toNat + 1) (0, 0, u1)))
abbrev rmX1_moveMark : Room := { frames := 5, cells := 0, slots := 0, locals := 112 }
set_option maxHeartbeats 4000000 in
set_option maxRecDepth 100000 in
theorem c_X1_moveMark (l : Launch) (D : va_G) (cy : Nat → ClassId) (ad : Nat → Nat) (rest : va_W) (C : CS) (q1 : Int32) : GMi l yX1_moveMark wsX1_moveMark rmX1_moveMark D cy [.ref (ad 93), .int q1] (CW cy ad C ++ rest) (fun (r : Int32) (u : CS) => r = (F_X1_moveMark C q1).1 ∧ u = (F_X1_moveMark C q1).2) (fun u => CW cy ad u ++ rest) := by
  refine GMi.intro cX1_moveMark 5 RX1 (by decide) rfl rfl (Nat.le_of_ble_eq_true rfl) ?_
  intro p e s m args below meth c A Q ls X hret hl hw
  have hx := X.1
  have hb := X.2.1
  have hl : lv_has ls 5 [(0, .ref (ad 93)), (1, .int q1)] := hl
  have inX0 : ∀ w ∈ wsX00, w ∈ wsX1_moveMark := fun w h => List.mem_cons_of_mem _ (List.mem_append_left _ (List.mem_append_left _ (List.mem_append_left _ (List.mem_append_left _ (List.mem_append_right _ h)))))
  have inX1 : ∀ w ∈ wsX10, w ∈ wsX1_moveMark := fun w h => List.mem_cons_of_mem _ (List.mem_append_left _ (List.mem_append_left _ (List.mem_append_left _ (List.mem_append_left _ (List.mem_append_left _ (List.mem_append_right _ h))))))
  obtain ⟨sp, hsp⟩ : ∃ sp, sp = F_X1_moveMark C q1 := ⟨_, rfl⟩
  have hF := hsp.trans (F_X1_moveMark.eq_1 C q1)
  refine lv_aload_n hx hb dX1_moveMark_0 rfl (lv_at hl 0 rfl) ?_
  refine lv_iload_n hx hb dX1_moveMark_1 rfl (lv_at hl 1 rfl) ?_
  refine g_put (v := .int q1) (C := RX1) (T := TX1) (N := 10) (ci := 3) (w' := CW cy ad (sI C 2 q1) ++ rest) X inX1 tyX1 tyX1_ok nmX1 hw 93 rfl rfl 7 (by decide) (List.mem_of_getElem? (i := 1) rfl) rfl rfl rfl rfl (Nat.le_of_ble_eq_true rfl) rfl dX1_moveMark_2 (fun H locs hw => ?_)
  obtain ⟨u1, hu1⟩ : ∃ z, z = sI C 2 q1 := ⟨_, rfl⟩
  rw [← hu1] at hw
  have hF := hF.trans (bnd_eq hu1)
  refine lv_iconst (v := 0) hx hb dX1_moveMark_5 (by decide) ?_
  refine lv_istore_n (lv' := [(2, .int 0), (0, .ref (ad 93)), (1, .int q1)]) hx hb dX1_moveMark_6 rfl hl (by decide) rfl (fun ls hl => ?_)
  refine lv_iconst (v := 0) hx hb dX1_moveMark_7 (by decide) ?_
  refine lv_istore_n (lv' := [(3, .int 0), (2, .int 0), (0, .ref (ad 93)), (1, .int q1)]) hx hb dX1_moveMark_8 rfl hl (by decide) rfl (fun ls hl => ?_)
  have L2 : ∀ (n2 : Nat) (v2_3 : Int32) (v2_2 : Int32) (w2 : CS), sp = lp (fun (z : Int32 × Int32 × CS) => st_X1_moveMark_9 z.1 z.2.1 z.2.2) (0, C) n2 (v2_3, v2_2, w2) → ((100 : Int32).toInt - v2_3.toInt).toNat < n2 → ∀ (H : Heap) (locs : List Loc) (ls : Array Slot), lv_has ls 5 [(3, .int v2_3), (2, .int v2_2), (0, .ref (ad 93)), (1, .int q1)] → gw D A s.heap (CW cy ad w2 ++ rest) H locs → W p l e rmX1_moveMark s m args below meth c H locs 0 0 Q (F0 m 9 ls []) := by
    intro n2
    induction n2 with
    | zero => intro v2_3 v2_2 w2 hF hm2; exact absurd hm2 (Nat.not_lt_zero _)
    | succ n2 ih2 =>
      intro v2_3 v2_2 w2 hF hm2 H locs ls hl hw
      have hT2 := st_X1_moveMark_9.eq_1 v2_3 v2_2 w2
      refine lv_iload_n hx hb dX1_moveMark_9 rfl (lv_at hl 0 rfl) ?_
      refine lv_bipush (v := 100) hx hb dX1_moveMark_10 (by decide) ?_
      refine lv_icmp_ge (tgt := 63) hx hb dX1_moveMark_12 (by decide) (fun c3 => ?_) (fun c3 => ?_)
      · skip
        have hT2 := hT2.trans (if_pos c3)
        refine lv_iload_n hx hb dX1_moveMark_63 rfl (lv_at hl 1 rfl) ?_
        exact hret _ _ _ _ _ _ dX1_moveMark_64 ⟨congrArg Prod.fst ((hF.trans (lp_r hT2)).symm.trans hsp), congrArg Prod.snd ((hF.trans (lp_r hT2)).symm.trans hsp)⟩ hw
      · skip
        have hT2 := hT2.trans (if_neg c3)
        refine lv_aload_n hx hb dX1_moveMark_15 rfl (lv_at hl 2 rfl) ?_
        refine lv_aload_n hx hb dX1_moveMark_16 rfl (lv_at hl 2 rfl) ?_
        refine g_get (v := .int (w2.2.1 2)) (C := RX1) (T := TX1) (N := 10) (ci := 3) X inX1 hw 93 rfl rfl 7 (by decide) (List.mem_of_getElem? (i := 1) rfl) rfl rfl dX1_moveMark_17 ?_
        refine gcV_i (rest := []) X (c_X1_firstToClose l D cy ad rest w2 (w2.2.1 2)) gy_X1_firstToClose gX1_moveMark_X1_firstToClose ⟨rfl, rfl, Nat.le_of_ble_eq_true rfl, Nat.le_of_ble_eq_true rfl⟩ 93 rfl rfl rfl hl rfl (Nat.le_of_ble_eq_true rfl) dX1_moveMark_20 ⟨Nat.zero_le _, Nat.zero_le _⟩ hw (fun r4 _ H locs hr4 hw => ?_)
        have hr4 : r4 = F_X1_firstToClose w2 (w2.2.1 2) := hr4
        have hT2 := hT2.trans (bnd_eq hr4)
        refine lv_istore (lv' := [(4, .int r4), (3, .int v2_3), (2, .int v2_2), (0, .ref (ad 93)), (1, .int q1)]) hx hb dX1_moveMark_23 hl (by decide) rfl (fun ls hl => ?_)
        refine lv_iload hx hb dX1_moveMark_25 (lv_at hl 0 rfl) ?_
        refine lv_iconst (v := (-1)) hx hb dX1_moveMark_27 (by decide) ?_
        refine lv_icmp_ne (tgt := 33) hx hb dX1_moveMark_28 (by decide) (fun c6 => ?_) (fun c6 => ?_)
        · skip
          have hT2 := hT2.trans (if_neg c6)
          refine lv_aload_n hx hb dX1_moveMark_33 rfl (lv_at hl 3 rfl) ?_
          refine lv_iload hx hb dX1_moveMark_34 (lv_at hl 0 rfl) ?_
          refine lv_iconst (v := 1) hx hb dX1_moveMark_36 (by decide) ?_
          refine gcV_i (rest := []) X (c_X1_letFire l D cy ad rest w2 r4 1) gy_X1_letFire gX1_moveMark_X1_letFire ⟨rfl, rfl, Nat.le_of_ble_eq_true rfl, Nat.le_of_ble_eq_true rfl⟩ 93 rfl rfl rfl hl rfl (Nat.le_of_ble_eq_true rfl) dX1_moveMark_37 ⟨Nat.zero_le _, Nat.zero_le _⟩ hw (fun r7 u8 H locs hr7 hw => ?_)
          obtain ⟨hr7, hu8⟩ : r7 = (F_X1_letFire w2 r4 1).1 ∧ u8 = (F_X1_letFire w2 r4 1).2 := hr7
          have hT2 := hT2.trans (bnd_eq hu8)
          have hT2 := hT2.trans (bnd_eq hr7)
          refine lv_pop hx hb dX1_moveMark_40 rfl ?_
          refine lv_aload_n hx hb dX1_moveMark_41 rfl (lv_at hl 3 rfl) ?_
          refine g_get (v := .ref (ad 95)) (C := RX1) (T := TX1) (N := 10) (ci := 3) X inX1 hw 93 rfl rfl 3 (by decide) (List.mem_of_getElem? (i := 2) rfl) rfl rfl dX1_moveMark_42 ?_
          refine g_get (v := .ref (ad 16)) (C := RX0) (T := TX0) (N := 10) (ci := 2) X inX0 hw 95 rfl rfl 3 (by decide) (List.mem_of_getElem? (i := 3) rfl) rfl rfl dX1_moveMark_45 ?_
          refine lv_iload hx hb dX1_moveMark_48 (lv_at hl 0 rfl) ?_
          refine lv_iconst (v := 1) hx hb dX1_moveMark_50 (by decide) ?_
          refine gcV_v (rest := []) X (cR_put l D cy ad rest u8 8 (by decide) r4 1) gy_X4_put gX1_moveMark_X4_put ⟨rfl, rfl, Nat.le_of_ble_eq_true rfl, Nat.le_of_ble_eq_true rfl⟩ 16 rfl rfl rfl hl rfl (Nat.le_of_ble_eq_true rfl) dX1_moveMark_51 ⟨Nat.zero_le _, Nat.zero_le _⟩ hw (fun u10 H locs hu10 hw => ?_)
          have hu10 : u10 = sR u8 8 (rPut 100 (u8.1 8) r4 1) := hu10
          have hT2 := hT2.trans (bnd_eq hu10)
          refine lv_iinc (v := (v2_2 + 1)) (lv' := [(2, .int (v2_2 + 1)), (4, .int r4), (3, .int v2_3), (0, .ref (ad 93)), (1, .int q1)]) hx hb dX1_moveMark_54 hl (k := 2) rfl rfl (by decide) rfl (fun ls hl => ?_)
          refine lv_iinc (v := (v2_3 + 1)) (lv' := [(3, .int (v2_3 + 1)), (2, .int (v2_2 + 1)), (4, .int r4), (0, .ref (ad 93)), (1, .int q1)]) hx hb dX1_moveMark_57 hl (k := 2) rfl rfl (by decide) rfl (fun ls hl => ?_)
          refine lv_goto (tgt := 9) hx hb dX1_moveMark_60 (by decide) ?_
          exact ih2 (v2_3 + 1) (v2_2 + 1) u10 (hF.trans (lp_l hT2)) (Nat.lt_of_lt_of_le (by first | exact up_dec (by assumption) | (simp only [*]; exact up_dec (by assumption))) (Nat.le_of_lt_succ hm2)) _ _ ls (lv_sub hl [0, 1, 3, 4] rfl) hw
        · skip
          have hT2 := hT2.trans (if_pos c6)
          refine lv_iload_n hx hb dX1_moveMark_31 rfl (lv_at hl 2 rfl) ?_
          exact hret _ _ _ _ _ _ dX1_moveMark_32 ⟨congrArg Prod.fst ((hF.trans (lp_r hT2)).symm.trans hsp), congrArg Prod.snd ((hF.trans (lp_r hT2)).symm.trans hsp)⟩ hw
  exact L2 _ 0 0 u1 hF (Nat.lt_succ_self _) _ _ ls (lv_sub hl [0, 1, 2, 3] rfl) hw
theorem gy_X1_groupAnew : gY yX1_groupAnew RX1 cX1_groupAnew 6 (some .int) wsX1_groupAnew 1 := ⟨⟨_, rfl⟩, rfl, by decide +kernel, by decide +kernel, by decide +kernel⟩
def st_X1_groupAnew_7 (q1 : Int32) (C : CS) (v1_4 : Int32) (v1_3 : Int32) (v1_2 : Int32) : (Int32 × Int32 × Int32) ⊕ Int32 := (if C.2.1 5 ≤ v1_4 then .inr (v1_2) else (bnd (rAt 100 (C.1 4) v1_4) (fun r3 => (bnd (rAt 100 (C.1 5) r3) (fun r5 => (if r5 = q1 then (bnd (rAt 100 (C.1 2) v1_4) (fun r8 => (if v1_2 = 0 then .inl ((v1_4 + 1), r8, (v1_2 + 1)) else (bnd (rAt 8 (C.1 0) q1) (fun r11 => (if r8 ≤ (v1_3 + r11) then .inl ((v1_4 + 1), r8, v1_2) else .inl ((v1_4 + 1), r8, (v1_2 + 1)))))))) else .inl ((v1_4 + 1), v1_3, v1_2)))))))
def F_X1_groupAnew (C : CS) (q1 : Int32) : Int32 := lp (fun (z : Int32 × Int32 × Int32) => st_X1_groupAnew_7 q1 C z.1 z.2.1 z.2.2) 0 (((C.2.1 5).toInt - (0 : Int32).toInt).toNat + 1) (0, 0, 0)
abbrev rmX1_groupAnew : Room := { frames := 1, cells := 0, slots := 0, locals := 21 }
set_option maxHeartbeats 4000000 in
set_option maxRecDepth 100000 in
theorem c_X1_groupAnew (l : Launch) (D : va_G) (cy : Nat → ClassId) (ad : Nat → Nat) (rest : va_W) (C : CS) (q1 : Int32) : GMi l yX1_groupAnew wsX1_groupAnew rmX1_groupAnew D cy [.ref (ad 93), .int q1] (CW cy ad C ++ rest) (fun (r : Int32) (_ : Unit) => r = F_X1_groupAnew C q1) (fun _ => CW cy ad C ++ rest) := by
  refine GMi.intro cX1_groupAnew 6 RX1 (by decide) rfl rfl (Nat.le_of_ble_eq_true rfl) ?_
  intro p e s m args below meth c A Q ls X hret hl hw
  have hx := X.1
  have hb := X.2.1
  have hl : lv_has ls 6 [(0, .ref (ad 93)), (1, .int q1)] := hl
  have inX0 : ∀ w ∈ wsX00, w ∈ wsX1_groupAnew := fun w h => List.mem_cons_of_mem _ (List.mem_append_left _ (List.mem_append_left _ (List.mem_append_right _ h)))
  have inX1 : ∀ w ∈ wsX10, w ∈ wsX1_groupAnew := fun w h => List.mem_cons_of_mem _ (List.mem_append_left _ (List.mem_append_left _ (List.mem_append_left _ (List.mem_append_left _ (List.mem_append_right _ h)))))
  have inX3 : ∀ w ∈ wsX30, w ∈ wsX1_groupAnew := fun w h => List.mem_cons_of_mem _ (List.mem_append_left _ (List.mem_append_left _ (List.mem_append_left _ (List.mem_append_right _ h))))
  obtain ⟨sp, hsp⟩ : ∃ sp, sp = F_X1_groupAnew C q1 := ⟨_, rfl⟩
  have hF := hsp.trans (F_X1_groupAnew.eq_1 C q1)
  refine lv_iconst (v := 0) hx hb dX1_groupAnew_0 (by decide) ?_
  refine lv_istore_n (lv' := [(2, .int 0), (0, .ref (ad 93)), (1, .int q1)]) hx hb dX1_groupAnew_1 rfl hl (by decide) rfl (fun ls hl => ?_)
  refine lv_iconst (v := 0) hx hb dX1_groupAnew_2 (by decide) ?_
  refine lv_istore_n (lv' := [(3, .int 0), (2, .int 0), (0, .ref (ad 93)), (1, .int q1)]) hx hb dX1_groupAnew_3 rfl hl (by decide) rfl (fun ls hl => ?_)
  refine lv_iconst (v := 0) hx hb dX1_groupAnew_4 (by decide) ?_
  refine lv_istore (lv' := [(4, .int 0), (3, .int 0), (2, .int 0), (0, .ref (ad 93)), (1, .int q1)]) hx hb dX1_groupAnew_5 hl (by decide) rfl (fun ls hl => ?_)
  have L1 : ∀ (n1 : Nat) (v1_4 : Int32) (v1_3 : Int32) (v1_2 : Int32), sp = lp (fun (z : Int32 × Int32 × Int32) => st_X1_groupAnew_7 q1 C z.1 z.2.1 z.2.2) 0 n1 (v1_4, v1_3, v1_2) → ((C.2.1 5).toInt - v1_4.toInt).toNat < n1 → ∀ (H : Heap) (locs : List Loc) (ls : Array Slot), lv_has ls 6 [(4, .int v1_4), (3, .int v1_3), (2, .int v1_2), (0, .ref (ad 93)), (1, .int q1)] → gw D A s.heap (CW cy ad C ++ rest) H locs → W p l e rmX1_groupAnew s m args below meth c H locs 0 0 Q (F0 m 7 ls []) := by
    intro n1
    induction n1 with
    | zero => intro v1_4 v1_3 v1_2 hF hm1; exact absurd hm1 (Nat.not_lt_zero _)
    | succ n1 ih1 =>
      intro v1_4 v1_3 v1_2 hF hm1 H locs ls hl hw
      have hT1 := st_X1_groupAnew_7.eq_1 q1 C v1_4 v1_3 v1_2
      refine lv_iload hx hb dX1_groupAnew_7 (lv_at hl 0 rfl) ?_
      refine lv_aload_n hx hb dX1_groupAnew_9 rfl (lv_at hl 3 rfl) ?_
      refine g_get (v := .ref (ad 94)) (C := RX1) (T := TX1) (N := 10) (ci := 3) X inX1 hw 93 rfl rfl 2 (by decide) (List.mem_of_getElem? (i := 1) rfl) rfl rfl dX1_groupAnew_10 ?_
      refine g_get (v := .int (C.2.1 5)) (C := RX3) (T := TX3) (N := 4) (ci := 5) X inX3 hw 94 rfl rfl 3 (by decide) (List.mem_of_getElem? (i := 2) rfl) rfl rfl dX1_groupAnew_13 ?_
      refine lv_icmp_ge (tgt := 90) hx hb dX1_groupAnew_16 (by decide) (fun c2 => ?_) (fun c2 => ?_)
      · skip
        have hT1 := hT1.trans (if_pos c2)
        refine lv_iload_n hx hb dX1_groupAnew_90 rfl (lv_at hl 2 rfl) ?_
        exact hret _ _ () _ _ _ dX1_groupAnew_91 ((hF.trans (lp_r hT1)).symm.trans hsp) hw
      · skip
        have hT1 := hT1.trans (if_neg c2)
        refine lv_aload_n hx hb dX1_groupAnew_19 rfl (lv_at hl 3 rfl) ?_
        refine g_get (v := .ref (ad 95)) (C := RX1) (T := TX1) (N := 10) (ci := 3) X inX1 hw 93 rfl rfl 3 (by decide) (List.mem_of_getElem? (i := 3) rfl) rfl rfl dX1_groupAnew_20 ?_
        refine g_get (v := .ref (ad 10)) (C := RX0) (T := TX0) (N := 10) (ci := 2) X inX0 hw 95 rfl rfl 0 (by decide) (List.mem_of_getElem? (i := 4) rfl) rfl rfl dX1_groupAnew_23 ?_
        refine lv_aload_n hx hb dX1_groupAnew_26 rfl (lv_at hl 3 rfl) ?_
        refine g_get (v := .ref (ad 94)) (C := RX1) (T := TX1) (N := 10) (ci := 3) X inX1 hw 93 rfl rfl 2 (by decide) (List.mem_of_getElem? (i := 1) rfl) rfl rfl dX1_groupAnew_27 ?_
        refine g_get (v := .ref (ad 8)) (C := RX3) (T := TX3) (N := 4) (ci := 5) X inX3 hw 94 rfl rfl 2 (by decide) (List.mem_of_getElem? (i := 5) rfl) rfl rfl dX1_groupAnew_30 ?_
        refine lv_iload hx hb dX1_groupAnew_33 (lv_at hl 0 rfl) ?_
        refine gcV_i (rest := [.ref (ad 10)]) X (cR_at l D cy ad rest C 4 (by decide) v1_4) gy_X4_at gX1_groupAnew_X4_at ⟨rfl, rfl, Nat.le_of_ble_eq_true rfl, Nat.le_of_ble_eq_true rfl⟩ 8 rfl rfl rfl hl rfl (Nat.le_of_ble_eq_true rfl) dX1_groupAnew_35 ⟨Nat.zero_le _, Nat.zero_le _⟩ hw (fun r3 _ H locs hr3 hw => ?_)
        have hr3 : r3 = rAt 100 (C.1 4) v1_4 := hr3
        have hT1 := hT1.trans (bnd_eq hr3)
        refine gcV_i (rest := []) X (cR_at l D cy ad rest C 5 (by decide) r3) gy_X4_at gX1_groupAnew_X4_at ⟨rfl, rfl, Nat.le_of_ble_eq_true rfl, Nat.le_of_ble_eq_true rfl⟩ 10 rfl rfl rfl hl rfl (Nat.le_of_ble_eq_true rfl) dX1_groupAnew_38 ⟨Nat.zero_le _, Nat.zero_le _⟩ hw (fun r5 _ H locs hr5 hw => ?_)
        have hr5 : r5 = rAt 100 (C.1 5) r3 := hr5
        have hT1 := hT1.trans (bnd_eq hr5)
        refine lv_iload_n hx hb dX1_groupAnew_41 rfl (lv_at hl 4 rfl) ?_
        refine lv_icmp_ne (tgt := 84) hx hb dX1_groupAnew_42 (by decide) (fun c7 => ?_) (fun c7 => ?_)
        · skip
          have hT1 := hT1.trans (if_neg c7)
          refine lv_iinc (v := (v1_4 + 1)) (lv' := [(4, .int (v1_4 + 1)), (3, .int v1_3), (2, .int v1_2), (0, .ref (ad 93)), (1, .int q1)]) hx hb dX1_groupAnew_84 hl (k := 0) rfl rfl (by decide) rfl (fun ls hl => ?_)
          refine lv_goto (tgt := 7) hx hb dX1_groupAnew_87 (by decide) ?_
          exact ih1 (v1_4 + 1) v1_3 v1_2 (hF.trans (lp_l hT1)) (Nat.lt_of_lt_of_le (by first | exact up_dec (by assumption) | (simp only [*]; exact up_dec (by assumption))) (Nat.le_of_lt_succ hm1)) _ _ ls (lv_sub hl [0, 1, 2, 3, 4] rfl) hw
        · skip
          have hT1 := hT1.trans (if_pos c7)
          refine lv_aload_n hx hb dX1_groupAnew_45 rfl (lv_at hl 3 rfl) ?_
          refine g_get (v := .ref (ad 94)) (C := RX1) (T := TX1) (N := 10) (ci := 3) X inX1 hw 93 rfl rfl 2 (by decide) (List.mem_of_getElem? (i := 1) rfl) rfl rfl dX1_groupAnew_46 ?_
          refine g_get (v := .ref (ad 4)) (C := RX3) (T := TX3) (N := 4) (ci := 5) X inX3 hw 94 rfl rfl 0 (by decide) (List.mem_of_getElem? (i := 6) rfl) rfl rfl dX1_groupAnew_49 ?_
          refine lv_iload hx hb dX1_groupAnew_52 (lv_at hl 0 rfl) ?_
          refine gcV_i (rest := []) X (cR_at l D cy ad rest C 2 (by decide) v1_4) gy_X4_at gX1_groupAnew_X4_at ⟨rfl, rfl, Nat.le_of_ble_eq_true rfl, Nat.le_of_ble_eq_true rfl⟩ 4 rfl rfl rfl hl rfl (Nat.le_of_ble_eq_true rfl) dX1_groupAnew_54 ⟨Nat.zero_le _, Nat.zero_le _⟩ hw (fun r8 _ H locs hr8 hw => ?_)
          have hr8 : r8 = rAt 100 (C.1 2) v1_4 := hr8
          have hT1 := hT1.trans (bnd_eq hr8)
          refine lv_istore (lv' := [(5, .int r8), (4, .int v1_4), (3, .int v1_3), (2, .int v1_2), (0, .ref (ad 93)), (1, .int q1)]) hx hb dX1_groupAnew_57 hl (by decide) rfl (fun ls hl => ?_)
          refine lv_iload_n hx hb dX1_groupAnew_59 rfl (lv_at hl 3 rfl) ?_
          refine lv_if_eq (tgt := 78) hx hb dX1_groupAnew_60 (by decide) (fun c10 => ?_) (fun c10 => ?_)
          · skip
            have hT1 := hT1.trans (if_pos c10)
            refine lv_iinc (v := (v1_2 + 1)) (lv' := [(2, .int (v1_2 + 1)), (5, .int r8), (4, .int v1_4), (3, .int v1_3), (0, .ref (ad 93)), (1, .int q1)]) hx hb dX1_groupAnew_78 hl (k := 3) rfl rfl (by decide) rfl (fun ls hl => ?_)
            refine lv_iload hx hb dX1_groupAnew_81 (lv_at hl 1 rfl) ?_
            refine lv_istore_n (lv' := [(3, .int r8), (2, .int (v1_2 + 1)), (5, .int r8), (4, .int v1_4), (0, .ref (ad 93)), (1, .int q1)]) hx hb dX1_groupAnew_83 rfl hl (by decide) rfl (fun ls hl => ?_)
            refine lv_iinc (v := (v1_4 + 1)) (lv' := [(4, .int (v1_4 + 1)), (3, .int r8), (2, .int (v1_2 + 1)), (5, .int r8), (0, .ref (ad 93)), (1, .int q1)]) hx hb dX1_groupAnew_84 hl (k := 3) rfl rfl (by decide) rfl (fun ls hl => ?_)
            refine lv_goto (tgt := 7) hx hb dX1_groupAnew_87 (by decide) ?_
            exact ih1 (v1_4 + 1) r8 (v1_2 + 1) (hF.trans (lp_l hT1)) (Nat.lt_of_lt_of_le (by first | exact up_dec (by assumption) | (simp only [*]; exact up_dec (by assumption))) (Nat.le_of_lt_succ hm1)) _ _ ls (lv_sub hl [0, 1, 2, 4, 5] rfl) hw
          · skip
            have hT1 := hT1.trans (if_neg c10)
            refine lv_iload hx hb dX1_groupAnew_63 (lv_at hl 0 rfl) ?_
            refine lv_iload_n hx hb dX1_groupAnew_65 rfl (lv_at hl 2 rfl) ?_
            refine lv_aload_n hx hb dX1_groupAnew_66 rfl (lv_at hl 4 rfl) ?_
            refine g_get (v := .ref (ad 0)) (C := RX1) (T := TX1) (N := 10) (ci := 3) X inX1 hw 93 rfl rfl 0 (by decide) (List.mem_of_getElem? (i := 7) rfl) rfl rfl dX1_groupAnew_67 ?_
            refine lv_iload_n hx hb dX1_groupAnew_70 rfl (lv_at hl 5 rfl) ?_
            refine gcV_i (rest := [.int v1_3, .int r8]) X (cR_at l D cy ad rest C 0 (by decide) q1) gy_X4_at gX1_groupAnew_X4_at ⟨rfl, rfl, Nat.le_of_ble_eq_true rfl, Nat.le_of_ble_eq_true rfl⟩ 0 rfl rfl rfl hl rfl (Nat.le_of_ble_eq_true rfl) dX1_groupAnew_71 ⟨Nat.zero_le _, Nat.zero_le _⟩ hw (fun r11 _ H locs hr11 hw => ?_)
            have hr11 : r11 = rAt 8 (C.1 0) q1 := hr11
            have hT1 := hT1.trans (bnd_eq hr11)
            refine lv_iadd hx hb dX1_groupAnew_74 ?_
            refine lv_icmp_le (tgt := 81) hx hb dX1_groupAnew_75 (by decide) (fun c13 => ?_) (fun c13 => ?_)
            · skip
              have hT1 := hT1.trans (if_pos c13)
              refine lv_iload hx hb dX1_groupAnew_81 (lv_at hl 0 rfl) ?_
              refine lv_istore_n (lv' := [(3, .int r8), (5, .int r8), (4, .int v1_4), (2, .int v1_2), (0, .ref (ad 93)), (1, .int q1)]) hx hb dX1_groupAnew_83 rfl hl (by decide) rfl (fun ls hl => ?_)
              refine lv_iinc (v := (v1_4 + 1)) (lv' := [(4, .int (v1_4 + 1)), (3, .int r8), (5, .int r8), (2, .int v1_2), (0, .ref (ad 93)), (1, .int q1)]) hx hb dX1_groupAnew_84 hl (k := 2) rfl rfl (by decide) rfl (fun ls hl => ?_)
              refine lv_goto (tgt := 7) hx hb dX1_groupAnew_87 (by decide) ?_
              exact ih1 (v1_4 + 1) r8 v1_2 (hF.trans (lp_l hT1)) (Nat.lt_of_lt_of_le (by first | exact up_dec (by assumption) | (simp only [*]; exact up_dec (by assumption))) (Nat.le_of_lt_succ hm1)) _ _ ls (lv_sub hl [0, 1, 3, 4, 5] rfl) hw
            · skip
              have hT1 := hT1.trans (if_neg c13)
              refine lv_iinc (v := (v1_2 + 1)) (lv' := [(2, .int (v1_2 + 1)), (5, .int r8), (4, .int v1_4), (3, .int v1_3), (0, .ref (ad 93)), (1, .int q1)]) hx hb dX1_groupAnew_78 hl (k := 3) rfl rfl (by decide) rfl (fun ls hl => ?_)
              refine lv_iload hx hb dX1_groupAnew_81 (lv_at hl 1 rfl) ?_
              refine lv_istore_n (lv' := [(3, .int r8), (2, .int (v1_2 + 1)), (5, .int r8), (4, .int v1_4), (0, .ref (ad 93)), (1, .int q1)]) hx hb dX1_groupAnew_83 rfl hl (by decide) rfl (fun ls hl => ?_)
              refine lv_iinc (v := (v1_4 + 1)) (lv' := [(4, .int (v1_4 + 1)), (3, .int r8), (2, .int (v1_2 + 1)), (5, .int r8), (0, .ref (ad 93)), (1, .int q1)]) hx hb dX1_groupAnew_84 hl (k := 3) rfl rfl (by decide) rfl (fun ls hl => ?_)
              refine lv_goto (tgt := 7) hx hb dX1_groupAnew_87 (by decide) ?_
              exact ih1 (v1_4 + 1) r8 (v1_2 + 1) (hF.trans (lp_l hT1)) (Nat.lt_of_lt_of_le (by first | exact up_dec (by assumption) | (simp only [*]; exact up_dec (by assumption))) (Nat.le_of_lt_succ hm1)) _ _ ls (lv_sub hl [0, 1, 2, 4, 5] rfl) hw
  exact L1 _ 0 0 0 hF (Nat.lt_succ_self _) _ _ ls (lv_sub hl [0, 1, 2, 3, 4] rfl) hw
theorem gy_X1_canCarryOut : gY yX1_canCarryOut RX1 cX1_canCarryOut 6 (some .boolean) wsX1_canCarryOut 1 := ⟨⟨_, rfl⟩, rfl, by decide +kernel, by decide +kernel, by decide +kernel⟩
def st_X1_canCarryOut_22 (C : CS) (v1_4 : Int32) (v1_3 : Int32) (v1_2 : Int32) : (Int32 × Int32 × Int32) ⊕ Int32 := (if C.2.1 20 ≤ v1_4 then .inr (1) else (bnd (rAt 14 (C.1 44) v1_4) (fun r3 => (bnd (rAt 14 (C.1 43) v1_4) (fun r5 => (if r5 = (-1) then (if v1_2 ≤ r3 then .inl ((v1_4 + 1), v1_3, r3) else .inr (0)) else (bnd (F_X1_comesLate C r3 v1_2) (fun r8 => (if r8 = 0 then (if v1_3 < 100 then .inl ((v1_4 + 1), (v1_3 + 1), v1_2) else .inr (0)) else .inl ((v1_4 + 1), v1_3, v1_2))))))))))
def F_X1_canCarryOut (C : CS) : Int32 := lp (fun (z : Int32 × Int32 × Int32) => st_X1_canCarryOut_22 C z.1 z.2.1 z.2.2) 0 (((C.2.1 20).toInt - (0 : Int32).toInt).toNat + 1) (0, C.2.1 5, C.2.1 2)
abbrev rmX1_canCarryOut : Room := { frames := 1, cells := 0, slots := 0, locals := 22 }
set_option maxHeartbeats 4000000 in
set_option maxRecDepth 100000 in
theorem c_X1_canCarryOut (l : Launch) (D : va_G) (cy : Nat → ClassId) (ad : Nat → Nat) (rest : va_W) (C : CS) : GMi l yX1_canCarryOut wsX1_canCarryOut rmX1_canCarryOut D cy [.ref (ad 93), .ref (ad 101)] (CW cy ad C ++ rest) (fun (r : Int32) (_ : Unit) => r = F_X1_canCarryOut C ∧ (r = 0 ∨ r = 1)) (fun _ => CW cy ad C ++ rest) := by
  refine GMz.intro cX1_canCarryOut 6 RX1 (by decide) rfl rfl (Nat.le_of_ble_eq_true rfl) ?_
  intro p e s m args below meth c A Q ls X hret hl hw
  have hx := X.1
  have hb := X.2.1
  have hl : lv_has ls 6 [(0, .ref (ad 93)), (1, .ref (ad 101))] := hl
  have inX1 : ∀ w ∈ wsX10, w ∈ wsX1_canCarryOut := fun w h => List.mem_cons_of_mem _ (List.mem_append_left _ (List.mem_append_left _ (List.mem_append_left _ (List.mem_append_left _ (List.mem_append_right _ h)))))
  have inX3 : ∀ w ∈ wsX30, w ∈ wsX1_canCarryOut := fun w h => List.mem_cons_of_mem _ (List.mem_append_left _ (List.mem_append_left _ (List.mem_append_left _ (List.mem_append_right _ h))))
  have inX5 : ∀ w ∈ wsX50, w ∈ wsX1_canCarryOut := fun w h => List.mem_cons_of_mem _ (List.mem_append_left _ (List.mem_append_left _ (List.mem_append_right _ h)))
  obtain ⟨sp, hsp⟩ : ∃ sp, sp = F_X1_canCarryOut C := ⟨_, rfl⟩
  have hF := hsp.trans (F_X1_canCarryOut.eq_1 C)
  refine lv_aload_n hx hb dX1_canCarryOut_0 rfl (lv_at hl 1 rfl) ?_
  refine lv_ifnonnull (tgt := 6) hx hb dX1_canCarryOut_1 (by decide) ?_
  refine lv_aload_n hx hb dX1_canCarryOut_6 rfl (lv_at hl 0 rfl) ?_
  refine g_get (v := .int (C.2.1 2)) (C := RX1) (T := TX1) (N := 10) (ci := 3) X inX1 hw 93 rfl rfl 7 (by decide) (List.mem_of_getElem? (i := 1) rfl) rfl rfl dX1_canCarryOut_7 ?_
  refine lv_istore_n (lv' := [(2, .int (C.2.1 2)), (0, .ref (ad 93)), (1, .ref (ad 101))]) hx hb dX1_canCarryOut_10 rfl hl (by decide) rfl (fun ls hl => ?_)
  refine lv_aload_n hx hb dX1_canCarryOut_11 rfl (lv_at hl 1 rfl) ?_
  refine g_get (v := .ref (ad 94)) (C := RX1) (T := TX1) (N := 10) (ci := 3) X inX1 hw 93 rfl rfl 2 (by decide) (List.mem_of_getElem? (i := 2) rfl) rfl rfl dX1_canCarryOut_12 ?_
  refine g_get (v := .int (C.2.1 5)) (C := RX3) (T := TX3) (N := 4) (ci := 5) X inX3 hw 94 rfl rfl 3 (by decide) (List.mem_of_getElem? (i := 3) rfl) rfl rfl dX1_canCarryOut_15 ?_
  refine lv_istore_n (lv' := [(3, .int (C.2.1 5)), (2, .int (C.2.1 2)), (0, .ref (ad 93)), (1, .ref (ad 101))]) hx hb dX1_canCarryOut_18 rfl hl (by decide) rfl (fun ls hl => ?_)
  refine lv_iconst (v := 0) hx hb dX1_canCarryOut_19 (by decide) ?_
  refine lv_istore (lv' := [(4, .int 0), (3, .int (C.2.1 5)), (2, .int (C.2.1 2)), (0, .ref (ad 93)), (1, .ref (ad 101))]) hx hb dX1_canCarryOut_20 hl (by decide) rfl (fun ls hl => ?_)
  have L1 : ∀ (n1 : Nat) (v1_4 : Int32) (v1_3 : Int32) (v1_2 : Int32), sp = lp (fun (z : Int32 × Int32 × Int32) => st_X1_canCarryOut_22 C z.1 z.2.1 z.2.2) 0 n1 (v1_4, v1_3, v1_2) → ((C.2.1 20).toInt - v1_4.toInt).toNat < n1 → ∀ (H : Heap) (locs : List Loc) (ls : Array Slot), lv_has ls 6 [(4, .int v1_4), (3, .int v1_3), (2, .int v1_2), (0, .ref (ad 93)), (1, .ref (ad 101))] → gw D A s.heap (CW cy ad C ++ rest) H locs → W p l e rmX1_canCarryOut s m args below meth c H locs 0 0 Q (F0 m 22 ls []) := by
    intro n1
    induction n1 with
    | zero => intro v1_4 v1_3 v1_2 hF hm1; exact absurd hm1 (Nat.not_lt_zero _)
    | succ n1 ih1 =>
      intro v1_4 v1_3 v1_2 hF hm1 H locs ls hl hw
      have hT1 := st_X1_canCarryOut_22.eq_1 C v1_4 v1_3 v1_2
      refine lv_iload hx hb dX1_canCarryOut_22 (lv_at hl 0 rfl) ?_
      refine lv_aload_n hx hb dX1_canCarryOut_24 rfl (lv_at hl 4 rfl) ?_
      refine g_get (v := .int (C.2.1 20)) (C := RX5) (T := TX5) (N := 7) (ci := 7) X inX5 hw 101 rfl rfl 6 (by decide) (List.mem_of_getElem? (i := 4) rfl) rfl rfl dX1_canCarryOut_25 ?_
      refine lv_icmp_ge (tgt := 96) hx hb dX1_canCarryOut_28 (by decide) (fun c2 => ?_) (fun c2 => ?_)
      · skip
        have hT1 := hT1.trans (if_pos c2)
        refine lv_iconst (v := 1) hx hb dX1_canCarryOut_96 (by decide) ?_
        exact hret _ _ () _ _ _ dX1_canCarryOut_97 (Or.inr rfl) ⟨(hF.trans (lp_r hT1)).symm.trans hsp, (Or.inr rfl)⟩ hw
      · skip
        have hT1 := hT1.trans (if_neg c2)
        refine lv_aload_n hx hb dX1_canCarryOut_31 rfl (lv_at hl 4 rfl) ?_
        refine g_get (v := .ref (ad 88)) (C := RX5) (T := TX5) (N := 7) (ci := 7) X inX5 hw 101 rfl rfl 4 (by decide) (List.mem_of_getElem? (i := 5) rfl) rfl rfl dX1_canCarryOut_32 ?_
        refine lv_iload hx hb dX1_canCarryOut_35 (lv_at hl 0 rfl) ?_
        refine gcV_i (rest := []) X (cR_at l D cy ad rest C 44 (by decide) v1_4) gy_X4_at gX1_canCarryOut_X4_at ⟨rfl, rfl, Nat.le_of_ble_eq_true rfl, Nat.le_of_ble_eq_true rfl⟩ 88 rfl rfl rfl hl rfl (Nat.le_of_ble_eq_true rfl) dX1_canCarryOut_37 ⟨Nat.zero_le _, Nat.zero_le _⟩ hw (fun r3 _ H locs hr3 hw => ?_)
        have hr3 : r3 = rAt 14 (C.1 44) v1_4 := hr3
        have hT1 := hT1.trans (bnd_eq hr3)
        refine lv_istore (lv' := [(5, .int r3), (4, .int v1_4), (3, .int v1_3), (2, .int v1_2), (0, .ref (ad 93)), (1, .ref (ad 101))]) hx hb dX1_canCarryOut_40 hl (by decide) rfl (fun ls hl => ?_)
        refine lv_aload_n hx hb dX1_canCarryOut_42 rfl (lv_at hl 5 rfl) ?_
        refine g_get (v := .ref (ad 86)) (C := RX5) (T := TX5) (N := 7) (ci := 7) X inX5 hw 101 rfl rfl 3 (by decide) (List.mem_of_getElem? (i := 6) rfl) rfl rfl dX1_canCarryOut_43 ?_
        refine lv_iload hx hb dX1_canCarryOut_46 (lv_at hl 1 rfl) ?_
        refine gcV_i (rest := []) X (cR_at l D cy ad rest C 43 (by decide) v1_4) gy_X4_at gX1_canCarryOut_X4_at ⟨rfl, rfl, Nat.le_of_ble_eq_true rfl, Nat.le_of_ble_eq_true rfl⟩ 86 rfl rfl rfl hl rfl (Nat.le_of_ble_eq_true rfl) dX1_canCarryOut_48 ⟨Nat.zero_le _, Nat.zero_le _⟩ hw (fun r5 _ H locs hr5 hw => ?_)
        have hr5 : r5 = rAt 14 (C.1 43) v1_4 := hr5
        have hT1 := hT1.trans (bnd_eq hr5)
        refine lv_iconst (v := (-1)) hx hb dX1_canCarryOut_51 (by decide) ?_
        refine lv_icmp_ne (tgt := 69) hx hb dX1_canCarryOut_52 (by decide) (fun c7 => ?_) (fun c7 => ?_)
        · skip
          have hT1 := hT1.trans (if_neg c7)
          refine lv_aload_n hx hb dX1_canCarryOut_69 rfl (lv_at hl 4 rfl) ?_
          refine lv_iload hx hb dX1_canCarryOut_70 (lv_at hl 0 rfl) ?_
          refine lv_iload_n hx hb dX1_canCarryOut_72 rfl (lv_at hl 3 rfl) ?_
          refine gcV_i (rest := []) X (c_X1_comesLate l D cy ad rest C r3 v1_2) gy_X1_comesLate gX1_canCarryOut_X1_comesLate ⟨rfl, rfl, Nat.le_of_ble_eq_true rfl, Nat.le_of_ble_eq_true rfl⟩ 93 rfl rfl rfl hl rfl (Nat.le_of_ble_eq_true rfl) dX1_canCarryOut_73 ⟨Nat.zero_le _, Nat.zero_le _⟩ hw (fun r8 _ H locs hr8 hw => ?_)
          obtain ⟨hr8, zr8⟩ : r8 = F_X1_comesLate C r3 v1_2 ∧ (r8 = 0 ∨ r8 = 1) := hr8
          have hT1 := hT1.trans (bnd_eq hr8)
          refine lv_if_ne (tgt := 90) hx hb dX1_canCarryOut_76 (by decide) (fun c10 => ?_) (fun c10 => ?_)
          · skip
            have hT1 := hT1.trans (if_neg c10)
            refine lv_iinc (v := (v1_4 + 1)) (lv' := [(4, .int (v1_4 + 1)), (5, .int r3), (3, .int v1_3), (2, .int v1_2), (0, .ref (ad 93)), (1, .ref (ad 101))]) hx hb dX1_canCarryOut_90 hl (k := 1) rfl rfl (by decide) rfl (fun ls hl => ?_)
            refine lv_goto (tgt := 22) hx hb dX1_canCarryOut_93 (by decide) ?_
            exact ih1 (v1_4 + 1) v1_3 v1_2 (hF.trans (lp_l hT1)) (Nat.lt_of_lt_of_le (by first | exact up_dec (by assumption) | (simp only [*]; exact up_dec (by assumption))) (Nat.le_of_lt_succ hm1)) _ _ ls (lv_sub hl [0, 2, 3, 4, 5] rfl) hw
          · skip
            have hT1 := hT1.trans (if_pos c10)
            refine lv_iload_n hx hb dX1_canCarryOut_79 rfl (lv_at hl 2 rfl) ?_
            refine lv_bipush (v := 100) hx hb dX1_canCarryOut_80 (by decide) ?_
            refine lv_icmp_lt (tgt := 87) hx hb dX1_canCarryOut_82 (by decide) (fun c11 => ?_) (fun c11 => ?_)
            · skip
              have hT1 := hT1.trans (if_pos c11)
              refine lv_iinc (v := (v1_3 + 1)) (lv' := [(3, .int (v1_3 + 1)), (5, .int r3), (4, .int v1_4), (2, .int v1_2), (0, .ref (ad 93)), (1, .ref (ad 101))]) hx hb dX1_canCarryOut_87 hl (k := 2) rfl rfl (by decide) rfl (fun ls hl => ?_)
              refine lv_iinc (v := (v1_4 + 1)) (lv' := [(4, .int (v1_4 + 1)), (3, .int (v1_3 + 1)), (5, .int r3), (2, .int v1_2), (0, .ref (ad 93)), (1, .ref (ad 101))]) hx hb dX1_canCarryOut_90 hl (k := 2) rfl rfl (by decide) rfl (fun ls hl => ?_)
              refine lv_goto (tgt := 22) hx hb dX1_canCarryOut_93 (by decide) ?_
              exact ih1 (v1_4 + 1) (v1_3 + 1) v1_2 (hF.trans (lp_l hT1)) (Nat.lt_of_lt_of_le (by first | exact up_dec (by assumption) | (simp only [*]; exact up_dec (by assumption))) (Nat.le_of_lt_succ hm1)) _ _ ls (lv_sub hl [0, 1, 3, 4, 5] rfl) hw
            · skip
              have hT1 := hT1.trans (if_neg c11)
              refine lv_iconst (v := 0) hx hb dX1_canCarryOut_85 (by decide) ?_
              exact hret _ _ () _ _ _ dX1_canCarryOut_86 (Or.inl rfl) ⟨(hF.trans (lp_r hT1)).symm.trans hsp, (Or.inl rfl)⟩ hw
        · skip
          have hT1 := hT1.trans (if_pos c7)
          refine lv_iload hx hb dX1_canCarryOut_55 (lv_at hl 0 rfl) ?_
          refine lv_iload_n hx hb dX1_canCarryOut_57 rfl (lv_at hl 3 rfl) ?_
          refine lv_icmp_ge (tgt := 63) hx hb dX1_canCarryOut_58 (by decide) (fun c12 => ?_) (fun c12 => ?_)
          · skip
            have hT1 := hT1.trans (if_pos c12)
            refine lv_iload hx hb dX1_canCarryOut_63 (lv_at hl 0 rfl) ?_
            refine lv_istore_n (lv' := [(2, .int r3), (5, .int r3), (4, .int v1_4), (3, .int v1_3), (0, .ref (ad 93)), (1, .ref (ad 101))]) hx hb dX1_canCarryOut_65 rfl hl (by decide) rfl (fun ls hl => ?_)
            refine lv_goto (tgt := 90) hx hb dX1_canCarryOut_66 (by decide) ?_
            refine lv_iinc (v := (v1_4 + 1)) (lv' := [(4, .int (v1_4 + 1)), (2, .int r3), (5, .int r3), (3, .int v1_3), (0, .ref (ad 93)), (1, .ref (ad 101))]) hx hb dX1_canCarryOut_90 hl (k := 2) rfl rfl (by decide) rfl (fun ls hl => ?_)
            refine lv_goto (tgt := 22) hx hb dX1_canCarryOut_93 (by decide) ?_
            exact ih1 (v1_4 + 1) v1_3 r3 (hF.trans (lp_l hT1)) (Nat.lt_of_lt_of_le (by first | exact up_dec (by assumption) | (simp only [*]; exact up_dec (by assumption))) (Nat.le_of_lt_succ hm1)) _ _ ls (lv_sub hl [0, 3, 1, 4, 5] rfl) hw
          · skip
            have hT1 := hT1.trans (if_neg c12)
            refine lv_iconst (v := 0) hx hb dX1_canCarryOut_61 (by decide) ?_
            exact hret _ _ () _ _ _ dX1_canCarryOut_62 (Or.inl rfl) ⟨(hF.trans (lp_r hT1)).symm.trans hsp, (Or.inl rfl)⟩ hw
  exact L1 _ 0 (C.2.1 5) (C.2.1 2) hF (Nat.lt_succ_self _) _ _ ls (lv_sub hl [0, 1, 2, 3, 4] rfl) hw
theorem gy_X1_copyFrom : gY yX1_copyFrom RX1 cX1_copyFrom 2 none wsX1_copyFrom 1 := ⟨⟨_, rfl⟩, rfl, by decide +kernel, by decide +kernel, by decide +kernel⟩
def F_X1_copyFrom_nk (C : CS) : CS := (bnd (sR C 0 (rCopy 8 (C.1 0) 8 (C.1 21))) (fun u2 => (bnd (sR u2 1 (rCopy 8 (u2.1 1) 8 (u2.1 22))) (fun u4 => (bnd (F_X3_copyFrom_nk u4) (fun u6 => (bnd (F_X0_copyFrom_nk u6) (fun u8 => (bnd (F_X2_copyFrom_nk u8) (fun u10 => (bnd (sI u10 0 (u10.2.1 9)) (fun u11 => (bnd (sI u11 1 (u11.2.1 10)) (fun u12 => (bnd (sI u12 2 (u12.2.1 11)) (fun u13 => (bnd (sI u13 3 (u13.2.1 12)) (fun u14 => (bnd (sI u14 4 (u14.2.1 13)) (fun u15 => u15))))))))))))))))))))
abbrev rmX1_copyFrom_nk : Room := { frames := 3, cells := 0, slots := 0, locals := 64 }
set_option maxHeartbeats 4000000 in
set_option maxRecDepth 100000 in
theorem c_X1_copyFrom_nk (l : Launch) (D : va_G) (cy : Nat → ClassId) (ad : Nat → Nat) (rest : va_W) (C : CS) : GMv l yX1_copyFrom wsX1_copyFrom rmX1_copyFrom_nk D cy [.ref (ad 93), .ref (ad 97)] (CW cy ad C ++ rest) (fun (u : CS) => u = F_X1_copyFrom_nk C) (fun u => CW cy ad u ++ rest) := by
  refine GMv.intro cX1_copyFrom 2 RX1 (by decide) rfl rfl (Nat.le_of_ble_eq_true rfl) ?_
  intro p e s m args below meth c A Q ls X hret hl hw
  have hx := X.1
  have hb := X.2.1
  have hl : lv_has ls 2 [(0, .ref (ad 93)), (1, .ref (ad 97))] := hl
  have inX1 : ∀ w ∈ wsX10, w ∈ wsX1_copyFrom := fun w h => List.mem_cons_of_mem _ (List.mem_append_left _ (List.mem_append_left _ (List.mem_append_left _ (List.mem_append_left _ (List.mem_append_left _ (List.mem_append_right _ h))))))
  obtain ⟨sp, hsp⟩ : ∃ sp, sp = F_X1_copyFrom_nk C := ⟨_, rfl⟩
  have hF := hsp.trans (F_X1_copyFrom_nk.eq_1 C)
  refine lv_aload_n hx hb dX1_copyFrom_0 rfl (lv_at hl 1 rfl) ?_
  refine lv_ifnonnull (tgt := 5) hx hb dX1_copyFrom_1 (by decide) ?_
  refine lv_aload_n hx hb dX1_copyFrom_5 rfl (lv_at hl 0 rfl) ?_
  refine g_get (v := .ref (ad 0)) (C := RX1) (T := TX1) (N := 10) (ci := 3) X inX1 hw 93 rfl rfl 0 (by decide) (List.mem_of_getElem? (i := 1) rfl) rfl rfl dX1_copyFrom_6 ?_
  refine lv_aload_n hx hb dX1_copyFrom_9 rfl (lv_at hl 1 rfl) ?_
  refine g_get (v := .ref (ad 42)) (C := RX1) (T := TX1) (N := 10) (ci := 3) X inX1 hw 97 rfl rfl 0 (by decide) (List.mem_of_getElem? (i := 1) rfl) rfl rfl dX1_copyFrom_10 ?_
  refine gcV_v (rest := []) X (cR_copyFrom l D cy ad rest C 0 21 (by decide) (by decide) (by decide)) gy_X4_copyFrom gX1_copyFrom_X4_copyFrom ⟨rfl, rfl, Nat.le_of_ble_eq_true rfl, Nat.le_of_ble_eq_true rfl⟩ 0 rfl rfl rfl hl rfl (Nat.le_of_ble_eq_true rfl) dX1_copyFrom_13 ⟨Nat.zero_le _, Nat.zero_le _⟩ hw (fun u2 H locs hu2 hw => ?_)
  have hu2 : u2 = sR C 0 (rCopy 8 (C.1 0) 8 (C.1 21)) := hu2
  have hF := hF.trans (bnd_eq hu2)
  refine lv_aload_n hx hb dX1_copyFrom_16 rfl (lv_at hl 0 rfl) ?_
  refine g_get (v := .ref (ad 2)) (C := RX1) (T := TX1) (N := 10) (ci := 3) X inX1 hw 93 rfl rfl 1 (by decide) (List.mem_of_getElem? (i := 2) rfl) rfl rfl dX1_copyFrom_17 ?_
  refine lv_aload_n hx hb dX1_copyFrom_20 rfl (lv_at hl 1 rfl) ?_
  refine g_get (v := .ref (ad 44)) (C := RX1) (T := TX1) (N := 10) (ci := 3) X inX1 hw 97 rfl rfl 1 (by decide) (List.mem_of_getElem? (i := 2) rfl) rfl rfl dX1_copyFrom_21 ?_
  refine gcV_v (rest := []) X (cR_copyFrom l D cy ad rest u2 1 22 (by decide) (by decide) (by decide)) gy_X4_copyFrom gX1_copyFrom_X4_copyFrom ⟨rfl, rfl, Nat.le_of_ble_eq_true rfl, Nat.le_of_ble_eq_true rfl⟩ 2 rfl rfl rfl hl rfl (Nat.le_of_ble_eq_true rfl) dX1_copyFrom_24 ⟨Nat.zero_le _, Nat.zero_le _⟩ hw (fun u4 H locs hu4 hw => ?_)
  have hu4 : u4 = sR u2 1 (rCopy 8 (u2.1 1) 8 (u2.1 22)) := hu4
  have hF := hF.trans (bnd_eq hu4)
  refine lv_aload_n hx hb dX1_copyFrom_27 rfl (lv_at hl 0 rfl) ?_
  refine g_get (v := .ref (ad 94)) (C := RX1) (T := TX1) (N := 10) (ci := 3) X inX1 hw 93 rfl rfl 2 (by decide) (List.mem_of_getElem? (i := 3) rfl) rfl rfl dX1_copyFrom_28 ?_
  refine lv_aload_n hx hb dX1_copyFrom_31 rfl (lv_at hl 1 rfl) ?_
  refine g_get (v := .ref (ad 98)) (C := RX1) (T := TX1) (N := 10) (ci := 3) X inX1 hw 97 rfl rfl 2 (by decide) (List.mem_of_getElem? (i := 3) rfl) rfl rfl dX1_copyFrom_32 ?_
  refine gcV_v (rest := []) X (c_X3_copyFrom_nk l D cy ad rest u4) gy_X3_copyFrom gX1_copyFrom_X3_copyFrom ⟨rfl, rfl, Nat.le_of_ble_eq_true rfl, Nat.le_of_ble_eq_true rfl⟩ 94 rfl rfl rfl hl rfl (Nat.le_of_ble_eq_true rfl) dX1_copyFrom_35 ⟨Nat.zero_le _, Nat.zero_le _⟩ hw (fun u6 H locs hu6 hw => ?_)
  have hu6 : u6 = F_X3_copyFrom_nk u4 := hu6
  have hF := hF.trans (bnd_eq hu6)
  refine lv_aload_n hx hb dX1_copyFrom_38 rfl (lv_at hl 0 rfl) ?_
  refine g_get (v := .ref (ad 95)) (C := RX1) (T := TX1) (N := 10) (ci := 3) X inX1 hw 93 rfl rfl 3 (by decide) (List.mem_of_getElem? (i := 4) rfl) rfl rfl dX1_copyFrom_39 ?_
  refine lv_aload_n hx hb dX1_copyFrom_42 rfl (lv_at hl 1 rfl) ?_
  refine g_get (v := .ref (ad 99)) (C := RX1) (T := TX1) (N := 10) (ci := 3) X inX1 hw 97 rfl rfl 3 (by decide) (List.mem_of_getElem? (i := 4) rfl) rfl rfl dX1_copyFrom_43 ?_
  refine gcV_v (rest := []) X (c_X0_copyFrom_nk l D cy ad rest u6) gy_X0_copyFrom gX1_copyFrom_X0_copyFrom ⟨rfl, rfl, Nat.le_of_ble_eq_true rfl, Nat.le_of_ble_eq_true rfl⟩ 95 rfl rfl rfl hl rfl (Nat.le_of_ble_eq_true rfl) dX1_copyFrom_46 ⟨Nat.zero_le _, Nat.zero_le _⟩ hw (fun u8 H locs hu8 hw => ?_)
  have hu8 : u8 = F_X0_copyFrom_nk u6 := hu8
  have hF := hF.trans (bnd_eq hu8)
  refine lv_aload_n hx hb dX1_copyFrom_49 rfl (lv_at hl 0 rfl) ?_
  refine g_get (v := .ref (ad 96)) (C := RX1) (T := TX1) (N := 10) (ci := 3) X inX1 hw 93 rfl rfl 4 (by decide) (List.mem_of_getElem? (i := 5) rfl) rfl rfl dX1_copyFrom_50 ?_
  refine lv_aload_n hx hb dX1_copyFrom_53 rfl (lv_at hl 1 rfl) ?_
  refine g_get (v := .ref (ad 100)) (C := RX1) (T := TX1) (N := 10) (ci := 3) X inX1 hw 97 rfl rfl 4 (by decide) (List.mem_of_getElem? (i := 5) rfl) rfl rfl dX1_copyFrom_54 ?_
  refine gcV_v (rest := []) X (c_X2_copyFrom_nk l D cy ad rest u8) gy_X2_copyFrom gX1_copyFrom_X2_copyFrom ⟨rfl, rfl, Nat.le_of_ble_eq_true rfl, Nat.le_of_ble_eq_true rfl⟩ 96 rfl rfl rfl hl rfl (Nat.le_of_ble_eq_true rfl) dX1_copyFrom_57 ⟨Nat.zero_le _, Nat.zero_le _⟩ hw (fun u10 H locs hu10 hw => ?_)
  have hu10 : u10 = F_X2_copyFrom_nk u8 := hu10
  have hF := hF.trans (bnd_eq hu10)
  refine lv_aload_n hx hb dX1_copyFrom_60 rfl (lv_at hl 0 rfl) ?_
  refine lv_aload_n hx hb dX1_copyFrom_61 rfl (lv_at hl 1 rfl) ?_
  refine g_get (v := .int (u10.2.1 9)) (C := RX1) (T := TX1) (N := 10) (ci := 3) X inX1 hw 97 rfl rfl 5 (by decide) (List.mem_of_getElem? (i := 6) rfl) rfl rfl dX1_copyFrom_62 ?_
  refine g_put (v := .int (u10.2.1 9)) (C := RX1) (T := TX1) (N := 10) (ci := 3) (w' := CW cy ad (sI u10 0 (u10.2.1 9)) ++ rest) X inX1 tyX1 tyX1_ok nmX1 hw 93 rfl rfl 5 (by decide) (List.mem_of_getElem? (i := 6) rfl) rfl rfl rfl rfl (Nat.le_of_ble_eq_true rfl) rfl dX1_copyFrom_65 (fun H locs hw => ?_)
  obtain ⟨u11, hu11⟩ : ∃ z, z = sI u10 0 (u10.2.1 9) := ⟨_, rfl⟩
  rw [← hu11] at hw
  have hF := hF.trans (bnd_eq hu11)
  refine lv_aload_n hx hb dX1_copyFrom_68 rfl (lv_at hl 0 rfl) ?_
  refine lv_aload_n hx hb dX1_copyFrom_69 rfl (lv_at hl 1 rfl) ?_
  refine g_get (v := .int (u11.2.1 10)) (C := RX1) (T := TX1) (N := 10) (ci := 3) X inX1 hw 97 rfl rfl 6 (by decide) (List.mem_of_getElem? (i := 7) rfl) rfl rfl dX1_copyFrom_70 ?_
  refine g_put (v := .int (u11.2.1 10)) (C := RX1) (T := TX1) (N := 10) (ci := 3) (w' := CW cy ad (sI u11 1 (u11.2.1 10)) ++ rest) X inX1 tyX1 tyX1_ok nmX1 hw 93 rfl rfl 6 (by decide) (List.mem_of_getElem? (i := 7) rfl) rfl rfl rfl rfl (Nat.le_of_ble_eq_true rfl) rfl dX1_copyFrom_73 (fun H locs hw => ?_)
  obtain ⟨u12, hu12⟩ : ∃ z, z = sI u11 1 (u11.2.1 10) := ⟨_, rfl⟩
  rw [← hu12] at hw
  have hF := hF.trans (bnd_eq hu12)
  refine lv_aload_n hx hb dX1_copyFrom_76 rfl (lv_at hl 0 rfl) ?_
  refine lv_aload_n hx hb dX1_copyFrom_77 rfl (lv_at hl 1 rfl) ?_
  refine g_get (v := .int (u12.2.1 11)) (C := RX1) (T := TX1) (N := 10) (ci := 3) X inX1 hw 97 rfl rfl 7 (by decide) (List.mem_of_getElem? (i := 8) rfl) rfl rfl dX1_copyFrom_78 ?_
  refine g_put (v := .int (u12.2.1 11)) (C := RX1) (T := TX1) (N := 10) (ci := 3) (w' := CW cy ad (sI u12 2 (u12.2.1 11)) ++ rest) X inX1 tyX1 tyX1_ok nmX1 hw 93 rfl rfl 7 (by decide) (List.mem_of_getElem? (i := 8) rfl) rfl rfl rfl rfl (Nat.le_of_ble_eq_true rfl) rfl dX1_copyFrom_81 (fun H locs hw => ?_)
  obtain ⟨u13, hu13⟩ : ∃ z, z = sI u12 2 (u12.2.1 11) := ⟨_, rfl⟩
  rw [← hu13] at hw
  have hF := hF.trans (bnd_eq hu13)
  refine lv_aload_n hx hb dX1_copyFrom_84 rfl (lv_at hl 0 rfl) ?_
  refine lv_aload_n hx hb dX1_copyFrom_85 rfl (lv_at hl 1 rfl) ?_
  refine g_get (v := .int (u13.2.1 12)) (C := RX1) (T := TX1) (N := 10) (ci := 3) X inX1 hw 97 rfl rfl 8 (by decide) (List.mem_of_getElem? (i := 9) rfl) rfl rfl dX1_copyFrom_86 ?_
  refine g_put (v := .int (u13.2.1 12)) (C := RX1) (T := TX1) (N := 10) (ci := 3) (w' := CW cy ad (sI u13 3 (u13.2.1 12)) ++ rest) X inX1 tyX1 tyX1_ok nmX1 hw 93 rfl rfl 8 (by decide) (List.mem_of_getElem? (i := 9) rfl) rfl rfl rfl rfl (Nat.le_of_ble_eq_true rfl) rfl dX1_copyFrom_89 (fun H locs hw => ?_)
  obtain ⟨u14, hu14⟩ : ∃ z, z = sI u13 3 (u13.2.1 12) := ⟨_, rfl⟩
  rw [← hu14] at hw
  have hF := hF.trans (bnd_eq hu14)
  refine lv_aload_n hx hb dX1_copyFrom_92 rfl (lv_at hl 0 rfl) ?_
  refine lv_aload_n hx hb dX1_copyFrom_93 rfl (lv_at hl 1 rfl) ?_
  refine g_get (v := .int (u14.2.1 13)) (C := RX1) (T := TX1) (N := 10) (ci := 3) X inX1 hw 97 rfl rfl 9 (by decide) (List.mem_of_getElem? (i := 10) rfl) rfl rfl dX1_copyFrom_94 ?_
  refine g_put (v := .int (u14.2.1 13)) (C := RX1) (T := TX1) (N := 10) (ci := 3) (w' := CW cy ad (sI u14 4 (u14.2.1 13)) ++ rest) X inX1 tyX1 tyX1_ok nmX1 hw 93 rfl rfl 9 (by decide) (List.mem_of_getElem? (i := 10) rfl) rfl rfl rfl rfl (Nat.le_of_ble_eq_true rfl) rfl dX1_copyFrom_97 (fun H locs hw => ?_)
  obtain ⟨u15, hu15⟩ : ∃ z, z = sI u14 4 (u14.2.1 13) := ⟨_, rfl⟩
  rw [← hu15] at hw
  have hF := hF.trans (bnd_eq hu15)
  exact hret _ _ _ _ _ dX1_copyFrom_100 (hF.symm.trans hsp) hw
def F_X1_copyFrom_kn (C : CS) : CS := (bnd (sR C 21 (rCopy 8 (C.1 21) 8 (C.1 0))) (fun u2 => (bnd (sR u2 22 (rCopy 8 (u2.1 22) 8 (u2.1 1))) (fun u4 => (bnd (F_X3_copyFrom_kn u4) (fun u6 => (bnd (F_X0_copyFrom_kn u6) (fun u8 => (bnd (F_X2_copyFrom_kn u8) (fun u10 => (bnd (sI u10 9 (u10.2.1 0)) (fun u11 => (bnd (sI u11 10 (u11.2.1 1)) (fun u12 => (bnd (sI u12 11 (u12.2.1 2)) (fun u13 => (bnd (sI u13 12 (u13.2.1 3)) (fun u14 => (bnd (sI u14 13 (u14.2.1 4)) (fun u15 => u15))))))))))))))))))))
abbrev rmX1_copyFrom_kn : Room := { frames := 3, cells := 0, slots := 0, locals := 64 }
set_option maxHeartbeats 4000000 in
set_option maxRecDepth 100000 in
theorem c_X1_copyFrom_kn (l : Launch) (D : va_G) (cy : Nat → ClassId) (ad : Nat → Nat) (rest : va_W) (C : CS) : GMv l yX1_copyFrom wsX1_copyFrom rmX1_copyFrom_kn D cy [.ref (ad 97), .ref (ad 93)] (CW cy ad C ++ rest) (fun (u : CS) => u = F_X1_copyFrom_kn C) (fun u => CW cy ad u ++ rest) := by
  refine GMv.intro cX1_copyFrom 2 RX1 (by decide) rfl rfl (Nat.le_of_ble_eq_true rfl) ?_
  intro p e s m args below meth c A Q ls X hret hl hw
  have hx := X.1
  have hb := X.2.1
  have hl : lv_has ls 2 [(0, .ref (ad 97)), (1, .ref (ad 93))] := hl
  have inX1 : ∀ w ∈ wsX10, w ∈ wsX1_copyFrom := fun w h => List.mem_cons_of_mem _ (List.mem_append_left _ (List.mem_append_left _ (List.mem_append_left _ (List.mem_append_left _ (List.mem_append_left _ (List.mem_append_right _ h))))))
  obtain ⟨sp, hsp⟩ : ∃ sp, sp = F_X1_copyFrom_kn C := ⟨_, rfl⟩
  have hF := hsp.trans (F_X1_copyFrom_kn.eq_1 C)
  refine lv_aload_n hx hb dX1_copyFrom_0 rfl (lv_at hl 1 rfl) ?_
  refine lv_ifnonnull (tgt := 5) hx hb dX1_copyFrom_1 (by decide) ?_
  refine lv_aload_n hx hb dX1_copyFrom_5 rfl (lv_at hl 0 rfl) ?_
  refine g_get (v := .ref (ad 42)) (C := RX1) (T := TX1) (N := 10) (ci := 3) X inX1 hw 97 rfl rfl 0 (by decide) (List.mem_of_getElem? (i := 1) rfl) rfl rfl dX1_copyFrom_6 ?_
  refine lv_aload_n hx hb dX1_copyFrom_9 rfl (lv_at hl 1 rfl) ?_
  refine g_get (v := .ref (ad 0)) (C := RX1) (T := TX1) (N := 10) (ci := 3) X inX1 hw 93 rfl rfl 0 (by decide) (List.mem_of_getElem? (i := 1) rfl) rfl rfl dX1_copyFrom_10 ?_
  refine gcV_v (rest := []) X (cR_copyFrom l D cy ad rest C 21 0 (by decide) (by decide) (by decide)) gy_X4_copyFrom gX1_copyFrom_X4_copyFrom ⟨rfl, rfl, Nat.le_of_ble_eq_true rfl, Nat.le_of_ble_eq_true rfl⟩ 42 rfl rfl rfl hl rfl (Nat.le_of_ble_eq_true rfl) dX1_copyFrom_13 ⟨Nat.zero_le _, Nat.zero_le _⟩ hw (fun u2 H locs hu2 hw => ?_)
  have hu2 : u2 = sR C 21 (rCopy 8 (C.1 21) 8 (C.1 0)) := hu2
  have hF := hF.trans (bnd_eq hu2)
  refine lv_aload_n hx hb dX1_copyFrom_16 rfl (lv_at hl 0 rfl) ?_
  refine g_get (v := .ref (ad 44)) (C := RX1) (T := TX1) (N := 10) (ci := 3) X inX1 hw 97 rfl rfl 1 (by decide) (List.mem_of_getElem? (i := 2) rfl) rfl rfl dX1_copyFrom_17 ?_
  refine lv_aload_n hx hb dX1_copyFrom_20 rfl (lv_at hl 1 rfl) ?_
  refine g_get (v := .ref (ad 2)) (C := RX1) (T := TX1) (N := 10) (ci := 3) X inX1 hw 93 rfl rfl 1 (by decide) (List.mem_of_getElem? (i := 2) rfl) rfl rfl dX1_copyFrom_21 ?_
  refine gcV_v (rest := []) X (cR_copyFrom l D cy ad rest u2 22 1 (by decide) (by decide) (by decide)) gy_X4_copyFrom gX1_copyFrom_X4_copyFrom ⟨rfl, rfl, Nat.le_of_ble_eq_true rfl, Nat.le_of_ble_eq_true rfl⟩ 44 rfl rfl rfl hl rfl (Nat.le_of_ble_eq_true rfl) dX1_copyFrom_24 ⟨Nat.zero_le _, Nat.zero_le _⟩ hw (fun u4 H locs hu4 hw => ?_)
  have hu4 : u4 = sR u2 22 (rCopy 8 (u2.1 22) 8 (u2.1 1)) := hu4
  have hF := hF.trans (bnd_eq hu4)
  refine lv_aload_n hx hb dX1_copyFrom_27 rfl (lv_at hl 0 rfl) ?_
  refine g_get (v := .ref (ad 98)) (C := RX1) (T := TX1) (N := 10) (ci := 3) X inX1 hw 97 rfl rfl 2 (by decide) (List.mem_of_getElem? (i := 3) rfl) rfl rfl dX1_copyFrom_28 ?_
  refine lv_aload_n hx hb dX1_copyFrom_31 rfl (lv_at hl 1 rfl) ?_
  refine g_get (v := .ref (ad 94)) (C := RX1) (T := TX1) (N := 10) (ci := 3) X inX1 hw 93 rfl rfl 2 (by decide) (List.mem_of_getElem? (i := 3) rfl) rfl rfl dX1_copyFrom_32 ?_
  refine gcV_v (rest := []) X (c_X3_copyFrom_kn l D cy ad rest u4) gy_X3_copyFrom gX1_copyFrom_X3_copyFrom ⟨rfl, rfl, Nat.le_of_ble_eq_true rfl, Nat.le_of_ble_eq_true rfl⟩ 98 rfl rfl rfl hl rfl (Nat.le_of_ble_eq_true rfl) dX1_copyFrom_35 ⟨Nat.zero_le _, Nat.zero_le _⟩ hw (fun u6 H locs hu6 hw => ?_)
  have hu6 : u6 = F_X3_copyFrom_kn u4 := hu6
  have hF := hF.trans (bnd_eq hu6)
  refine lv_aload_n hx hb dX1_copyFrom_38 rfl (lv_at hl 0 rfl) ?_
  refine g_get (v := .ref (ad 99)) (C := RX1) (T := TX1) (N := 10) (ci := 3) X inX1 hw 97 rfl rfl 3 (by decide) (List.mem_of_getElem? (i := 4) rfl) rfl rfl dX1_copyFrom_39 ?_
  refine lv_aload_n hx hb dX1_copyFrom_42 rfl (lv_at hl 1 rfl) ?_
  refine g_get (v := .ref (ad 95)) (C := RX1) (T := TX1) (N := 10) (ci := 3) X inX1 hw 93 rfl rfl 3 (by decide) (List.mem_of_getElem? (i := 4) rfl) rfl rfl dX1_copyFrom_43 ?_
  refine gcV_v (rest := []) X (c_X0_copyFrom_kn l D cy ad rest u6) gy_X0_copyFrom gX1_copyFrom_X0_copyFrom ⟨rfl, rfl, Nat.le_of_ble_eq_true rfl, Nat.le_of_ble_eq_true rfl⟩ 99 rfl rfl rfl hl rfl (Nat.le_of_ble_eq_true rfl) dX1_copyFrom_46 ⟨Nat.zero_le _, Nat.zero_le _⟩ hw (fun u8 H locs hu8 hw => ?_)
  have hu8 : u8 = F_X0_copyFrom_kn u6 := hu8
  have hF := hF.trans (bnd_eq hu8)
  refine lv_aload_n hx hb dX1_copyFrom_49 rfl (lv_at hl 0 rfl) ?_
  refine g_get (v := .ref (ad 100)) (C := RX1) (T := TX1) (N := 10) (ci := 3) X inX1 hw 97 rfl rfl 4 (by decide) (List.mem_of_getElem? (i := 5) rfl) rfl rfl dX1_copyFrom_50 ?_
  refine lv_aload_n hx hb dX1_copyFrom_53 rfl (lv_at hl 1 rfl) ?_
  refine g_get (v := .ref (ad 96)) (C := RX1) (T := TX1) (N := 10) (ci := 3) X inX1 hw 93 rfl rfl 4 (by decide) (List.mem_of_getElem? (i := 5) rfl) rfl rfl dX1_copyFrom_54 ?_
  refine gcV_v (rest := []) X (c_X2_copyFrom_kn l D cy ad rest u8) gy_X2_copyFrom gX1_copyFrom_X2_copyFrom ⟨rfl, rfl, Nat.le_of_ble_eq_true rfl, Nat.le_of_ble_eq_true rfl⟩ 100 rfl rfl rfl hl rfl (Nat.le_of_ble_eq_true rfl) dX1_copyFrom_57 ⟨Nat.zero_le _, Nat.zero_le _⟩ hw (fun u10 H locs hu10 hw => ?_)
  have hu10 : u10 = F_X2_copyFrom_kn u8 := hu10
  have hF := hF.trans (bnd_eq hu10)
  refine lv_aload_n hx hb dX1_copyFrom_60 rfl (lv_at hl 0 rfl) ?_
  refine lv_aload_n hx hb dX1_copyFrom_61 rfl (lv_at hl 1 rfl) ?_
  refine g_get (v := .int (u10.2.1 0)) (C := RX1) (T := TX1) (N := 10) (ci := 3) X inX1 hw 93 rfl rfl 5 (by decide) (List.mem_of_getElem? (i := 6) rfl) rfl rfl dX1_copyFrom_62 ?_
  refine g_put (v := .int (u10.2.1 0)) (C := RX1) (T := TX1) (N := 10) (ci := 3) (w' := CW cy ad (sI u10 9 (u10.2.1 0)) ++ rest) X inX1 tyX1 tyX1_ok nmX1 hw 97 rfl rfl 5 (by decide) (List.mem_of_getElem? (i := 6) rfl) rfl rfl rfl rfl (Nat.le_of_ble_eq_true rfl) rfl dX1_copyFrom_65 (fun H locs hw => ?_)
  obtain ⟨u11, hu11⟩ : ∃ z, z = sI u10 9 (u10.2.1 0) := ⟨_, rfl⟩
  rw [← hu11] at hw
  have hF := hF.trans (bnd_eq hu11)
  refine lv_aload_n hx hb dX1_copyFrom_68 rfl (lv_at hl 0 rfl) ?_
  refine lv_aload_n hx hb dX1_copyFrom_69 rfl (lv_at hl 1 rfl) ?_
  refine g_get (v := .int (u11.2.1 1)) (C := RX1) (T := TX1) (N := 10) (ci := 3) X inX1 hw 93 rfl rfl 6 (by decide) (List.mem_of_getElem? (i := 7) rfl) rfl rfl dX1_copyFrom_70 ?_
  refine g_put (v := .int (u11.2.1 1)) (C := RX1) (T := TX1) (N := 10) (ci := 3) (w' := CW cy ad (sI u11 10 (u11.2.1 1)) ++ rest) X inX1 tyX1 tyX1_ok nmX1 hw 97 rfl rfl 6 (by decide) (List.mem_of_getElem? (i := 7) rfl) rfl rfl rfl rfl (Nat.le_of_ble_eq_true rfl) rfl dX1_copyFrom_73 (fun H locs hw => ?_)
  obtain ⟨u12, hu12⟩ : ∃ z, z = sI u11 10 (u11.2.1 1) := ⟨_, rfl⟩
  rw [← hu12] at hw
  have hF := hF.trans (bnd_eq hu12)
  refine lv_aload_n hx hb dX1_copyFrom_76 rfl (lv_at hl 0 rfl) ?_
  refine lv_aload_n hx hb dX1_copyFrom_77 rfl (lv_at hl 1 rfl) ?_
  refine g_get (v := .int (u12.2.1 2)) (C := RX1) (T := TX1) (N := 10) (ci := 3) X inX1 hw 93 rfl rfl 7 (by decide) (List.mem_of_getElem? (i := 8) rfl) rfl rfl dX1_copyFrom_78 ?_
  refine g_put (v := .int (u12.2.1 2)) (C := RX1) (T := TX1) (N := 10) (ci := 3) (w' := CW cy ad (sI u12 11 (u12.2.1 2)) ++ rest) X inX1 tyX1 tyX1_ok nmX1 hw 97 rfl rfl 7 (by decide) (List.mem_of_getElem? (i := 8) rfl) rfl rfl rfl rfl (Nat.le_of_ble_eq_true rfl) rfl dX1_copyFrom_81 (fun H locs hw => ?_)
  obtain ⟨u13, hu13⟩ : ∃ z, z = sI u12 11 (u12.2.1 2) := ⟨_, rfl⟩
  rw [← hu13] at hw
  have hF := hF.trans (bnd_eq hu13)
  refine lv_aload_n hx hb dX1_copyFrom_84 rfl (lv_at hl 0 rfl) ?_
  refine lv_aload_n hx hb dX1_copyFrom_85 rfl (lv_at hl 1 rfl) ?_
  refine g_get (v := .int (u13.2.1 3)) (C := RX1) (T := TX1) (N := 10) (ci := 3) X inX1 hw 93 rfl rfl 8 (by decide) (List.mem_of_getElem? (i := 9) rfl) rfl rfl dX1_copyFrom_86 ?_
  refine g_put (v := .int (u13.2.1 3)) (C := RX1) (T := TX1) (N := 10) (ci := 3) (w' := CW cy ad (sI u13 12 (u13.2.1 3)) ++ rest) X inX1 tyX1 tyX1_ok nmX1 hw 97 rfl rfl 8 (by decide) (List.mem_of_getElem? (i := 9) rfl) rfl rfl rfl rfl (Nat.le_of_ble_eq_true rfl) rfl dX1_copyFrom_89 (fun H locs hw => ?_)
  obtain ⟨u14, hu14⟩ : ∃ z, z = sI u13 12 (u13.2.1 3) := ⟨_, rfl⟩
  rw [← hu14] at hw
  have hF := hF.trans (bnd_eq hu14)
  refine lv_aload_n hx hb dX1_copyFrom_92 rfl (lv_at hl 0 rfl) ?_
  refine lv_aload_n hx hb dX1_copyFrom_93 rfl (lv_at hl 1 rfl) ?_
  refine g_get (v := .int (u14.2.1 4)) (C := RX1) (T := TX1) (N := 10) (ci := 3) X inX1 hw 93 rfl rfl 9 (by decide) (List.mem_of_getElem? (i := 10) rfl) rfl rfl dX1_copyFrom_94 ?_
  refine g_put (v := .int (u14.2.1 4)) (C := RX1) (T := TX1) (N := 10) (ci := 3) (w' := CW cy ad (sI u14 13 (u14.2.1 4)) ++ rest) X inX1 tyX1 tyX1_ok nmX1 hw 97 rfl rfl 9 (by decide) (List.mem_of_getElem? (i := 10) rfl) rfl rfl rfl rfl (Nat.le_of_ble_eq_true rfl) rfl dX1_copyFrom_97 (fun H locs hw => ?_)
  obtain ⟨u15, hu15⟩ : ∃ z, z = sI u14 13 (u14.2.1 4) := ⟨_, rfl⟩
  rw [← hu15] at hw
  have hF := hF.trans (bnd_eq hu15)
  exact hret _ _ _ _ _ dX1_copyFrom_100 (hF.symm.trans hsp) hw
