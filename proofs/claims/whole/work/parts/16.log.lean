theorem gy_X2_placeOf : gY yX2_placeOf RX2 cX2_placeOf 3 (some .int) wsX2_placeOf 1 := ⟨⟨_, rfl⟩, rfl, by decide +kernel, by decide +kernel, by decide +kernel⟩
def F_X2_placeOf (C : CS) (q1 : Int32) : Int32 := (if 60 ≤ (C.2.1 7 + q1) then ((C.2.1 7 + q1) - 60) else (C.2.1 7 + q1))
abbrev rmX2_placeOf : Room := { frames := 0, cells := 0, slots := 0, locals := 0 }
set_option maxHeartbeats 4000000 in
set_option maxRecDepth 100000 in
theorem c_X2_placeOf (l : Launch) (D : va_G) (cy : Nat → ClassId) (ad : Nat → Nat) (rest : va_W) (C : CS) (q1 : Int32) : GMi l yX2_placeOf wsX2_placeOf rmX2_placeOf D cy [.ref (ad 96), .int q1] (CW cy ad C ++ rest) (fun (r : Int32) (_ : Unit) => r = F_X2_placeOf C q1) (fun _ => CW cy ad C ++ rest) := by
  refine GMi.intro cX2_placeOf 3 RX2 (by decide) rfl rfl (Nat.le_of_ble_eq_true rfl) ?_
  intro p e s m args below meth c A Q ls X hret hl hw
  have hx := X.1
  have hb := X.2.1
  have hl : lv_has ls 3 [(0, .ref (ad 96)), (1, .int q1)] := hl
  have inX2 : ∀ w ∈ wsX20, w ∈ wsX2_placeOf := fun w h => List.mem_cons_of_mem _ (List.mem_append_right _ h)
  obtain ⟨sp, hsp⟩ : ∃ sp, sp = F_X2_placeOf C q1 := ⟨_, rfl⟩
  have hF := hsp.trans (F_X2_placeOf.eq_1 C q1)
  refine lv_aload_n hx hb dX2_placeOf_0 rfl (lv_at hl 0 rfl) ?_
  refine g_get (v := .int (C.2.1 7)) (C := RX2) (T := TX2) (N := 10) (ci := 4) X inX2 hw 96 rfl rfl 6 (by decide) (List.mem_of_getElem? (i := 1) rfl) rfl rfl dX2_placeOf_1 ?_
  refine lv_iload_n hx hb dX2_placeOf_4 rfl (lv_at hl 1 rfl) ?_
  refine lv_iadd hx hb dX2_placeOf_5 ?_
  refine lv_istore_n (lv' := [(2, .int (C.2.1 7 + q1)), (0, .ref (ad 96)), (1, .int q1)]) hx hb dX2_placeOf_6 rfl hl (by decide) rfl (fun ls hl => ?_)
  refine lv_iload_n hx hb dX2_placeOf_7 rfl (lv_at hl 0 rfl) ?_
  refine lv_bipush (v := 60) hx hb dX2_placeOf_8 (by decide) ?_
  refine lv_icmp_ge (tgt := 17) hx hb dX2_placeOf_10 (by decide) (fun c1 => ?_) (fun c1 => ?_)
  · skip
    have hF := hF.trans (if_pos c1)
    refine lv_iload_n hx hb dX2_placeOf_17 rfl (lv_at hl 0 rfl) ?_
    refine lv_bipush (v := 60) hx hb dX2_placeOf_18 (by decide) ?_
    refine lv_isub hx hb dX2_placeOf_20 ?_
    exact hret _ _ () _ _ _ dX2_placeOf_21 (hF.symm.trans hsp) hw
  · skip
    have hF := hF.trans (if_neg c1)
    refine lv_iload_n hx hb dX2_placeOf_13 rfl (lv_at hl 0 rfl) ?_
    refine lv_goto (tgt := 21) hx hb dX2_placeOf_14 (by decide) ?_
    exact hret _ _ () _ _ _ dX2_placeOf_21 (hF.symm.trans hsp) hw
theorem gy_X2_enter : gY yX2_enter RX2 cX2_enter 8 none wsX2_enter 6 := ⟨⟨_, rfl⟩, rfl, by decide +kernel, by decide +kernel, by decide +kernel⟩
def F_X2_enter (C : CS) (q1 : Int32) (q2 : Int32) (q3 : Int32) (q4 : Int32) (q5 : Int32) (q6 : Int32) : CS := (bnd (F_X2_placeOf C (C.2.1 8)) (fun r1 => (bnd (sR C 14 (rPut 60 (C.1 14) r1 q1)) (fun u4 => (bnd (sR u4 15 (rPut 60 (u4.1 15) r1 q2)) (fun u6 => (bnd (sR u6 16 (rPut 60 (u6.1 16) r1 q3)) (fun u8 => (bnd (sR u8 17 (rPut 60 (u8.1 17) r1 q4)) (fun u10 => (bnd (sR u10 18 (rPut 60 (u10.1 18) r1 q5)) (fun u12 => (bnd (sR u12 19 (rPut 60 (u12.1 19) r1 q6)) (fun u14 => (if 60 ≤ u14.2.1 8 then (bnd (F_X2_placeOf u14 1) (fun r16 => (bnd (sI u14 7 r16) (fun u18 => (bnd (rAt 3 (u18.1 20) q1) (fun r19 => (bnd (sR u18 20 (rPut 3 (u18.1 20) q1 (r19 + 1))) (fun u22 => (if q1 = 2 then (bnd (sL u22 0 (u22.2.2 0 + (-q3.toInt64))) (fun u25 => u25)) else (bnd (sL u22 0 (u22.2.2 0 + q3.toInt64)) (fun u24 => u24))))))))))) else (bnd (sI u14 8 (u14.2.1 8 + 1)) (fun u26 => (bnd (rAt 3 (u26.1 20) q1) (fun r27 => (bnd (sR u26 20 (rPut 3 (u26.1 20) q1 (r27 + 1))) (fun u30 => (if q1 = 2 then (bnd (sL u30 0 (u30.2.2 0 + (-q3.toInt64))) (fun u33 => u33)) else (bnd (sL u30 0 (u30.2.2 0 + q3.toInt64)) (fun u32 => u32))))))))))))))))))))))))
abbrev rmX2_enter : Room := { frames := 1, cells := 0, slots := 0, locals := 22 }
set_option maxHeartbeats 4000000 in
set_option maxRecDepth 100000 in
theorem c_X2_enter (l : Launch) (D : va_G) (cy : Nat → ClassId) (ad : Nat → Nat) (rest : va_W) (C : CS) (q1 : Int32) (q2 : Int32) (q3 : Int32) (q4 : Int32) (q5 : Int32) (q6 : Int32) : GMv l yX2_enter wsX2_enter rmX2_enter D cy [.ref (ad 96), .int q1, .int q2, .int q3, .int q4, .int q5, .int q6] (CW cy ad C ++ rest) (fun (u : CS) => u = F_X2_enter C q1 q2 q3 q4 q5 q6) (fun u => CW cy ad u ++ rest) := by
  refine GMv.intro cX2_enter 8 RX2 (by decide) rfl rfl (Nat.le_of_ble_eq_true rfl) ?_
  intro p e s m args below meth c A Q ls X hret hl hw
  have hx := X.1
  have hb := X.2.1
  have hl : lv_has ls 8 [(0, .ref (ad 96)), (1, .int q1), (2, .int q2), (3, .int q3), (4, .int q4), (5, .int q5), (6, .int q6)] := hl
  have inX2 : ∀ w ∈ wsX20, w ∈ wsX2_enter := fun w h => List.mem_cons_of_mem _ (List.mem_append_left _ (List.mem_append_left _ (List.mem_append_right _ h)))
  obtain ⟨sp, hsp⟩ : ∃ sp, sp = F_X2_enter C q1 q2 q3 q4 q5 q6 := ⟨_, rfl⟩
  have hF := hsp.trans (F_X2_enter.eq_1 C q1 q2 q3 q4 q5 q6)
  refine lv_aload_n hx hb dX2_enter_0 rfl (lv_at hl 0 rfl) ?_
  refine lv_aload_n hx hb dX2_enter_1 rfl (lv_at hl 0 rfl) ?_
  refine g_get (v := .int (C.2.1 8)) (C := RX2) (T := TX2) (N := 10) (ci := 4) X inX2 hw 96 rfl rfl 8 (by decide) (List.mem_of_getElem? (i := 1) rfl) rfl rfl dX2_enter_2 ?_
  refine gcV_i (rest := []) X (c_X2_placeOf l D cy ad rest C (C.2.1 8)) gy_X2_placeOf gX2_enter_X2_placeOf ⟨rfl, rfl, Nat.le_of_ble_eq_true rfl, Nat.le_of_ble_eq_true rfl⟩ 96 rfl rfl rfl hl rfl (Nat.le_of_ble_eq_true rfl) dX2_enter_5 ⟨Nat.zero_le _, Nat.zero_le _⟩ hw (fun r1 _ H locs hr1 hw => ?_)
  have hr1 : r1 = F_X2_placeOf C (C.2.1 8) := hr1
  have hF := hF.trans (bnd_eq hr1)
  refine lv_istore (lv' := [(7, .int r1), (0, .ref (ad 96)), (1, .int q1), (2, .int q2), (3, .int q3), (4, .int q4), (5, .int q5), (6, .int q6)]) hx hb dX2_enter_8 hl (by decide) rfl (fun ls hl => ?_)
  refine lv_aload_n hx hb dX2_enter_10 rfl (lv_at hl 1 rfl) ?_
  refine g_get (v := .ref (ad 28)) (C := RX2) (T := TX2) (N := 10) (ci := 4) X inX2 hw 96 rfl rfl 0 (by decide) (List.mem_of_getElem? (i := 2) rfl) rfl rfl dX2_enter_11 ?_
  refine lv_iload hx hb dX2_enter_14 (lv_at hl 0 rfl) ?_
  refine lv_iload_n hx hb dX2_enter_16 rfl (lv_at hl 2 rfl) ?_
  refine gcV_v (rest := []) X (cR_put l D cy ad rest C 14 (by decide) r1 q1) gy_X4_put gX2_enter_X4_put ⟨rfl, rfl, Nat.le_of_ble_eq_true rfl, Nat.le_of_ble_eq_true rfl⟩ 28 rfl rfl rfl hl rfl (Nat.le_of_ble_eq_true rfl) dX2_enter_17 ⟨Nat.zero_le _, Nat.zero_le _⟩ hw (fun u4 H locs hu4 hw => ?_)
  have hu4 : u4 = sR C 14 (rPut 60 (C.1 14) r1 q1) := hu4
  have hF := hF.trans (bnd_eq hu4)
  refine lv_aload_n hx hb dX2_enter_20 rfl (lv_at hl 1 rfl) ?_
  refine g_get (v := .ref (ad 30)) (C := RX2) (T := TX2) (N := 10) (ci := 4) X inX2 hw 96 rfl rfl 1 (by decide) (List.mem_of_getElem? (i := 3) rfl) rfl rfl dX2_enter_21 ?_
  refine lv_iload hx hb dX2_enter_24 (lv_at hl 0 rfl) ?_
  refine lv_iload_n hx hb dX2_enter_26 rfl (lv_at hl 3 rfl) ?_
  refine gcV_v (rest := []) X (cR_put l D cy ad rest u4 15 (by decide) r1 q2) gy_X4_put gX2_enter_X4_put ⟨rfl, rfl, Nat.le_of_ble_eq_true rfl, Nat.le_of_ble_eq_true rfl⟩ 30 rfl rfl rfl hl rfl (Nat.le_of_ble_eq_true rfl) dX2_enter_27 ⟨Nat.zero_le _, Nat.zero_le _⟩ hw (fun u6 H locs hu6 hw => ?_)
  have hu6 : u6 = sR u4 15 (rPut 60 (u4.1 15) r1 q2) := hu6
  have hF := hF.trans (bnd_eq hu6)
  refine lv_aload_n hx hb dX2_enter_30 rfl (lv_at hl 1 rfl) ?_
  refine g_get (v := .ref (ad 32)) (C := RX2) (T := TX2) (N := 10) (ci := 4) X inX2 hw 96 rfl rfl 2 (by decide) (List.mem_of_getElem? (i := 4) rfl) rfl rfl dX2_enter_31 ?_
  refine lv_iload hx hb dX2_enter_34 (lv_at hl 0 rfl) ?_
  refine lv_iload_n hx hb dX2_enter_36 rfl (lv_at hl 4 rfl) ?_
  refine gcV_v (rest := []) X (cR_put l D cy ad rest u6 16 (by decide) r1 q3) gy_X4_put gX2_enter_X4_put ⟨rfl, rfl, Nat.le_of_ble_eq_true rfl, Nat.le_of_ble_eq_true rfl⟩ 32 rfl rfl rfl hl rfl (Nat.le_of_ble_eq_true rfl) dX2_enter_37 ⟨Nat.zero_le _, Nat.zero_le _⟩ hw (fun u8 H locs hu8 hw => ?_)
  have hu8 : u8 = sR u6 16 (rPut 60 (u6.1 16) r1 q3) := hu8
  have hF := hF.trans (bnd_eq hu8)
  refine lv_aload_n hx hb dX2_enter_40 rfl (lv_at hl 1 rfl) ?_
  refine g_get (v := .ref (ad 34)) (C := RX2) (T := TX2) (N := 10) (ci := 4) X inX2 hw 96 rfl rfl 3 (by decide) (List.mem_of_getElem? (i := 5) rfl) rfl rfl dX2_enter_41 ?_
  refine lv_iload hx hb dX2_enter_44 (lv_at hl 0 rfl) ?_
  refine lv_iload hx hb dX2_enter_46 (lv_at hl 5 rfl) ?_
  refine gcV_v (rest := []) X (cR_put l D cy ad rest u8 17 (by decide) r1 q4) gy_X4_put gX2_enter_X4_put ⟨rfl, rfl, Nat.le_of_ble_eq_true rfl, Nat.le_of_ble_eq_true rfl⟩ 34 rfl rfl rfl hl rfl (Nat.le_of_ble_eq_true rfl) dX2_enter_48 ⟨Nat.zero_le _, Nat.zero_le _⟩ hw (fun u10 H locs hu10 hw => ?_)
  have hu10 : u10 = sR u8 17 (rPut 60 (u8.1 17) r1 q4) := hu10
  have hF := hF.trans (bnd_eq hu10)
  refine lv_aload_n hx hb dX2_enter_51 rfl (lv_at hl 1 rfl) ?_
  refine g_get (v := .ref (ad 36)) (C := RX2) (T := TX2) (N := 10) (ci := 4) X inX2 hw 96 rfl rfl 4 (by decide) (List.mem_of_getElem? (i := 6) rfl) rfl rfl dX2_enter_52 ?_
  refine lv_iload hx hb dX2_enter_55 (lv_at hl 0 rfl) ?_
  refine lv_iload hx hb dX2_enter_57 (lv_at hl 6 rfl) ?_
  refine gcV_v (rest := []) X (cR_put l D cy ad rest u10 18 (by decide) r1 q5) gy_X4_put gX2_enter_X4_put ⟨rfl, rfl, Nat.le_of_ble_eq_true rfl, Nat.le_of_ble_eq_true rfl⟩ 36 rfl rfl rfl hl rfl (Nat.le_of_ble_eq_true rfl) dX2_enter_59 ⟨Nat.zero_le _, Nat.zero_le _⟩ hw (fun u12 H locs hu12 hw => ?_)
  have hu12 : u12 = sR u10 18 (rPut 60 (u10.1 18) r1 q5) := hu12
  have hF := hF.trans (bnd_eq hu12)
  refine lv_aload_n hx hb dX2_enter_62 rfl (lv_at hl 1 rfl) ?_
  refine g_get (v := .ref (ad 38)) (C := RX2) (T := TX2) (N := 10) (ci := 4) X inX2 hw 96 rfl rfl 5 (by decide) (List.mem_of_getElem? (i := 7) rfl) rfl rfl dX2_enter_63 ?_
  refine lv_iload hx hb dX2_enter_66 (lv_at hl 0 rfl) ?_
  refine lv_iload hx hb dX2_enter_68 (lv_at hl 7 rfl) ?_
  refine gcV_v (rest := []) X (cR_put l D cy ad rest u12 19 (by decide) r1 q6) gy_X4_put gX2_enter_X4_put ⟨rfl, rfl, Nat.le_of_ble_eq_true rfl, Nat.le_of_ble_eq_true rfl⟩ 38 rfl rfl rfl hl rfl (Nat.le_of_ble_eq_true rfl) dX2_enter_70 ⟨Nat.zero_le _, Nat.zero_le _⟩ hw (fun u14 H locs hu14 hw => ?_)
  have hu14 : u14 = sR u12 19 (rPut 60 (u12.1 19) r1 q6) := hu14
  have hF := hF.trans (bnd_eq hu14)
  refine lv_aload_n hx hb dX2_enter_73 rfl (lv_at hl 1 rfl) ?_
  refine g_get (v := .int (u14.2.1 8)) (C := RX2) (T := TX2) (N := 10) (ci := 4) X inX2 hw 96 rfl rfl 8 (by decide) (List.mem_of_getElem? (i := 1) rfl) rfl rfl dX2_enter_74 ?_
  refine lv_bipush (v := 60) hx hb dX2_enter_77 (by decide) ?_
  refine lv_icmp_ge (tgt := 95) hx hb dX2_enter_79 (by decide) (fun c15 => ?_) (fun c15 => ?_)
  · skip
    have hF := hF.trans (if_pos c15)
    refine lv_aload_n hx hb dX2_enter_95 rfl (lv_at hl 1 rfl) ?_
    refine lv_aload_n hx hb dX2_enter_96 rfl (lv_at hl 1 rfl) ?_
    refine lv_iconst (v := 1) hx hb dX2_enter_97 (by decide) ?_
    refine gcV_i (rest := [.ref (ad 96)]) X (c_X2_placeOf l D cy ad rest u14 1) gy_X2_placeOf gX2_enter_X2_placeOf ⟨rfl, rfl, Nat.le_of_ble_eq_true rfl, Nat.le_of_ble_eq_true rfl⟩ 96 rfl rfl rfl hl rfl (Nat.le_of_ble_eq_true rfl) dX2_enter_98 ⟨Nat.zero_le _, Nat.zero_le _⟩ hw (fun r16 _ H locs hr16 hw => ?_)
    have hr16 : r16 = F_X2_placeOf u14 1 := hr16
    have hF := hF.trans (bnd_eq hr16)
    refine g_put (v := .int r16) (C := RX2) (T := TX2) (N := 10) (ci := 4) (w' := CW cy ad (sI u14 7 r16) ++ rest) X inX2 tyX2 tyX2_ok nmX2 hw 96 rfl rfl 6 (by decide) (List.mem_of_getElem? (i := 8) rfl) rfl rfl rfl rfl (Nat.le_of_ble_eq_true rfl) rfl dX2_enter_101 (fun H locs hw => ?_)
    obtain ⟨u18, hu18⟩ : ∃ z, z = sI u14 7 r16 := ⟨_, rfl⟩
    rw [← hu18] at hw
    have hF := hF.trans (bnd_eq hu18)
    refine lv_aload_n hx hb dX2_enter_104 rfl (lv_at hl 1 rfl) ?_
    refine g_get (v := .ref (ad 40)) (C := RX2) (T := TX2) (N := 10) (ci := 4) X inX2 hw 96 rfl rfl 7 (by decide) (List.mem_of_getElem? (i := 9) rfl) rfl rfl dX2_enter_105 ?_
    refine lv_iload_n hx hb dX2_enter_108 rfl (lv_at hl 2 rfl) ?_
    refine lv_aload_n hx hb dX2_enter_109 rfl (lv_at hl 1 rfl) ?_
    refine g_get (v := .ref (ad 40)) (C := RX2) (T := TX2) (N := 10) (ci := 4) X inX2 hw 96 rfl rfl 7 (by decide) (List.mem_of_getElem? (i := 9) rfl) rfl rfl dX2_enter_110 ?_
    refine lv_iload_n hx hb dX2_enter_113 rfl (lv_at hl 2 rfl) ?_
    refine gcV_i (rest := [.int q1, .ref (ad 40)]) X (cR_at l D cy ad rest u18 20 (by decide) q1) gy_X4_at gX2_enter_X4_at ⟨rfl, rfl, Nat.le_of_ble_eq_true rfl, Nat.le_of_ble_eq_true rfl⟩ 40 rfl rfl rfl hl rfl (Nat.le_of_ble_eq_true rfl) dX2_enter_114 ⟨Nat.zero_le _, Nat.zero_le _⟩ hw (fun r19 _ H locs hr19 hw => ?_)
    have hr19 : r19 = rAt 3 (u18.1 20) q1 := hr19
    have hF := hF.trans (bnd_eq hr19)
    refine lv_iconst (v := 1) hx hb dX2_enter_117 (by decide) ?_
    refine lv_iadd hx hb dX2_enter_118 ?_
    refine gcV_v (rest := []) X (cR_put l D cy ad rest u18 20 (by decide) q1 (r19 + 1)) gy_X4_put gX2_enter_X4_put ⟨rfl, rfl, Nat.le_of_ble_eq_true rfl, Nat.le_of_ble_eq_true rfl⟩ 40 rfl rfl rfl hl rfl (Nat.le_of_ble_eq_true rfl) dX2_enter_119 ⟨Nat.zero_le _, Nat.zero_le _⟩ hw (fun u22 H locs hu22 hw => ?_)
    have hu22 : u22 = sR u18 20 (rPut 3 (u18.1 20) q1 (r19 + 1)) := hu22
    have hF := hF.trans (bnd_eq hu22)
    refine lv_aload_n hx hb dX2_enter_122 rfl (lv_at hl 1 rfl) ?_
    refine lv_dup hx hb dX2_enter_123 rfl ?_
    refine g_get (v := .long (u22.2.2 0)) (C := RX2) (T := TX2) (N := 10) (ci := 4) X inX2 hw 96 rfl rfl 9 (by decide) (List.mem_of_getElem? (i := 10) rfl) rfl rfl dX2_enter_124 ?_
    refine lv_iload_n hx hb dX2_enter_127 rfl (lv_at hl 2 rfl) ?_
    refine lv_iconst (v := 2) hx hb dX2_enter_128 (by decide) ?_
    refine lv_icmp_ne (tgt := 138) hx hb dX2_enter_129 (by decide) (fun c23 => ?_) (fun c23 => ?_)
    · skip
      have hF := hF.trans (if_neg c23)
      refine lv_iload_n hx hb dX2_enter_138 rfl (lv_at hl 4 rfl) ?_
      refine lv_i2l (v := q3.toInt64) hx hb dX2_enter_139 rfl ?_
      refine lv_ladd hx hb dX2_enter_140 ?_
      refine g_put (v := .long (u22.2.2 0 + q3.toInt64)) (C := RX2) (T := TX2) (N := 10) (ci := 4) (w' := CW cy ad (sL u22 0 (u22.2.2 0 + q3.toInt64)) ++ rest) X inX2 tyX2 tyX2_ok nmX2 hw 96 rfl rfl 9 (by decide) (List.mem_of_getElem? (i := 10) rfl) rfl rfl rfl rfl (Nat.le_of_ble_eq_true rfl) rfl dX2_enter_141 (fun H locs hw => ?_)
      obtain ⟨u24, hu24⟩ : ∃ z, z = sL u22 0 (u22.2.2 0 + q3.toInt64) := ⟨_, rfl⟩
      rw [← hu24] at hw
      have hF := hF.trans (bnd_eq hu24)
      exact hret _ _ _ _ _ dX2_enter_144 (hF.symm.trans hsp) hw
    · skip
      have hF := hF.trans (if_pos c23)
      refine lv_iload_n hx hb dX2_enter_132 rfl (lv_at hl 4 rfl) ?_
      refine lv_i2l (v := q3.toInt64) hx hb dX2_enter_133 rfl ?_
      refine lv_lneg hx hb dX2_enter_134 ?_
      refine lv_goto (tgt := 140) hx hb dX2_enter_135 (by decide) ?_
      refine lv_ladd hx hb dX2_enter_140 ?_
      refine g_put (v := .long (u22.2.2 0 + (-q3.toInt64))) (C := RX2) (T := TX2) (N := 10) (ci := 4) (w' := CW cy ad (sL u22 0 (u22.2.2 0 + (-q3.toInt64))) ++ rest) X inX2 tyX2 tyX2_ok nmX2 hw 96 rfl rfl 9 (by decide) (List.mem_of_getElem? (i := 10) rfl) rfl rfl rfl rfl (Nat.le_of_ble_eq_true rfl) rfl dX2_enter_141 (fun H locs hw => ?_)
      obtain ⟨u25, hu25⟩ : ∃ z, z = sL u22 0 (u22.2.2 0 + (-q3.toInt64)) := ⟨_, rfl⟩
      rw [← hu25] at hw
      have hF := hF.trans (bnd_eq hu25)
      exact hret _ _ _ _ _ dX2_enter_144 (hF.symm.trans hsp) hw
  · skip
    have hF := hF.trans (if_neg c15)
    refine lv_aload_n hx hb dX2_enter_82 rfl (lv_at hl 1 rfl) ?_
    refine lv_dup hx hb dX2_enter_83 rfl ?_
    refine g_get (v := .int (u14.2.1 8)) (C := RX2) (T := TX2) (N := 10) (ci := 4) X inX2 hw 96 rfl rfl 8 (by decide) (List.mem_of_getElem? (i := 1) rfl) rfl rfl dX2_enter_84 ?_
    refine lv_iconst (v := 1) hx hb dX2_enter_87 (by decide) ?_
    refine lv_iadd hx hb dX2_enter_88 ?_
    refine g_put (v := .int (u14.2.1 8 + 1)) (C := RX2) (T := TX2) (N := 10) (ci := 4) (w' := CW cy ad (sI u14 8 (u14.2.1 8 + 1)) ++ rest) X inX2 tyX2 tyX2_ok nmX2 hw 96 rfl rfl 8 (by decide) (List.mem_of_getElem? (i := 1) rfl) rfl rfl rfl rfl (Nat.le_of_ble_eq_true rfl) rfl dX2_enter_89 (fun H locs hw => ?_)
    obtain ⟨u26, hu26⟩ : ∃ z, z = sI u14 8 (u14.2.1 8 + 1) := ⟨_, rfl⟩
    rw [← hu26] at hw
    have hF := hF.trans (bnd_eq hu26)
    refine lv_goto (tgt := 104) hx hb dX2_enter_92 (by decide) ?_
    refine lv_aload_n hx hb dX2_enter_104 rfl (lv_at hl 1 rfl) ?_
    refine g_get (v := .ref (ad 40)) (C := RX2) (T := TX2) (N := 10) (ci := 4) X inX2 hw 96 rfl rfl 7 (by decide) (List.mem_of_getElem? (i := 9) rfl) rfl rfl dX2_enter_105 ?_
    refine lv_iload_n hx hb dX2_enter_108 rfl (lv_at hl 2 rfl) ?_
    refine lv_aload_n hx hb dX2_enter_109 rfl (lv_at hl 1 rfl) ?_
    refine g_get (v := .ref (ad 40)) (C := RX2) (T := TX2) (N := 10) (ci := 4) X inX2 hw 96 rfl rfl 7 (by decide) (List.mem_of_getElem? (i := 9) rfl) rfl rfl dX2_enter_110 ?_
    refine lv_iload_n hx hb dX2_enter_113 rfl (lv_at hl 2 rfl) ?_
    refine gcV_i (rest := [.int q1, .ref (ad 40)]) X (cR_at l D cy ad rest u26 20 (by decide) q1) gy_X4_at gX2_enter_X4_at ⟨rfl, rfl, Nat.le_of_ble_eq_true rfl, Nat.le_of_ble_eq_true rfl⟩ 40 rfl rfl rfl hl rfl (Nat.le_of_ble_eq_true rfl) dX2_enter_114 ⟨Nat.zero_le _, Nat.zero_le _⟩ hw (fun r27 _ H locs hr27 hw => ?_)
    have hr27 : r27 = rAt 3 (u26.1 20) q1 := hr27
    have hF := hF.trans (bnd_eq hr27)
    refine lv_iconst (v := 1) hx hb dX2_enter_117 (by decide) ?_
    refine lv_iadd hx hb dX2_enter_118 ?_
    refine gcV_v (rest := []) X (cR_put l D cy ad rest u26 20 (by decide) q1 (r27 + 1)) gy_X4_put gX2_enter_X4_put ⟨rfl, rfl, Nat.le_of_ble_eq_true rfl, Nat.le_of_ble_eq_true rfl⟩ 40 rfl rfl rfl hl rfl (Nat.le_of_ble_eq_true rfl) dX2_enter_119 ⟨Nat.zero_le _, Nat.zero_le _⟩ hw (fun u30 H locs hu30 hw => ?_)
    have hu30 : u30 = sR u26 20 (rPut 3 (u26.1 20) q1 (r27 + 1)) := hu30
    have hF := hF.trans (bnd_eq hu30)
    refine lv_aload_n hx hb dX2_enter_122 rfl (lv_at hl 1 rfl) ?_
    refine lv_dup hx hb dX2_enter_123 rfl ?_
    refine g_get (v := .long (u30.2.2 0)) (C := RX2) (T := TX2) (N := 10) (ci := 4) X inX2 hw 96 rfl rfl 9 (by decide) (List.mem_of_getElem? (i := 10) rfl) rfl rfl dX2_enter_124 ?_
    refine lv_iload_n hx hb dX2_enter_127 rfl (lv_at hl 2 rfl) ?_
    refine lv_iconst (v := 2) hx hb dX2_enter_128 (by decide) ?_
    refine lv_icmp_ne (tgt := 138) hx hb dX2_enter_129 (by decide) (fun c31 => ?_) (fun c31 => ?_)
    · skip
      have hF := hF.trans (if_neg c31)
      refine lv_iload_n hx hb dX2_enter_138 rfl (lv_at hl 4 rfl) ?_
      refine lv_i2l (v := q3.toInt64) hx hb dX2_enter_139 rfl ?_
      refine lv_ladd hx hb dX2_enter_140 ?_
      refine g_put (v := .long (u30.2.2 0 + q3.toInt64)) (C := RX2) (T := TX2) (N := 10) (ci := 4) (w' := CW cy ad (sL u30 0 (u30.2.2 0 + q3.toInt64)) ++ rest) X inX2 tyX2 tyX2_ok nmX2 hw 96 rfl rfl 9 (by decide) (List.mem_of_getElem? (i := 10) rfl) rfl rfl rfl rfl (Nat.le_of_ble_eq_true rfl) rfl dX2_enter_141 (fun H locs hw => ?_)
      obtain ⟨u32, hu32⟩ : ∃ z, z = sL u30 0 (u30.2.2 0 + q3.toInt64) := ⟨_, rfl⟩
      rw [← hu32] at hw
      have hF := hF.trans (bnd_eq hu32)
      exact hret _ _ _ _ _ dX2_enter_144 (hF.symm.trans hsp) hw
    · skip
      have hF := hF.trans (if_pos c31)
      refine lv_iload_n hx hb dX2_enter_132 rfl (lv_at hl 4 rfl) ?_
      refine lv_i2l (v := q3.toInt64) hx hb dX2_enter_133 rfl ?_
      refine lv_lneg hx hb dX2_enter_134 ?_
      refine lv_goto (tgt := 140) hx hb dX2_enter_135 (by decide) ?_
      refine lv_ladd hx hb dX2_enter_140 ?_
      refine g_put (v := .long (u30.2.2 0 + (-q3.toInt64))) (C := RX2) (T := TX2) (N := 10) (ci := 4) (w' := CW cy ad (sL u30 0 (u30.2.2 0 + (-q3.toInt64))) ++ rest) X inX2 tyX2 tyX2_ok nmX2 hw 96 rfl rfl 9 (by decide) (List.mem_of_getElem? (i := 10) rfl) rfl rfl rfl rfl (Nat.le_of_ble_eq_true rfl) rfl dX2_enter_141 (fun H locs hw => ?_)
      obtain ⟨u33, hu33⟩ : ∃ z, z = sL u30 0 (u30.2.2 0 + (-q3.toInt64)) := ⟨_, rfl⟩
      rw [← hu33] at hw
      have hF := hF.trans (bnd_eq hu33)
      exact hret _ _ _ _ _ dX2_enter_144 (hF.symm.trans hsp) hw
theorem gy_X2_entry : gY yX2_entry RX2 cX2_entry 4 (some .int) wsX2_entry 2 := ⟨⟨_, rfl⟩, rfl, by decide +kernel, by decide +kernel, by decide +kernel⟩
def F_X2_entry (C : CS) (q1 : Int32) (q2 : Int32) : Int32 := (bnd (F_X2_placeOf C q1) (fun r1 => (if q2 = 0 then (bnd (rAt 60 (C.1 14) r1) (fun r4 => r4)) else (if q2 = 1 then (bnd (rAt 60 (C.1 15) r1) (fun r7 => r7)) else (if q2 = 2 then (bnd (rAt 60 (C.1 16) r1) (fun r10 => r10)) else (if q2 = 3 then (bnd (rAt 60 (C.1 17) r1) (fun r13 => r13)) else (if q2 = 4 then (bnd (rAt 60 (C.1 18) r1) (fun r16 => r16)) else (bnd (rAt 60 (C.1 19) r1) (fun r18 => r18)))))))))
abbrev rmX2_entry : Room := { frames := 1, cells := 0, slots := 0, locals := 22 }
set_option maxHeartbeats 4000000 in
set_option maxRecDepth 100000 in
theorem c_X2_entry (l : Launch) (D : va_G) (cy : Nat → ClassId) (ad : Nat → Nat) (rest : va_W) (C : CS) (q1 : Int32) (q2 : Int32) : GMi l yX2_entry wsX2_entry rmX2_entry D cy [.ref (ad 96), .int q1, .int q2] (CW cy ad C ++ rest) (fun (r : Int32) (_ : Unit) => r = F_X2_entry C q1 q2) (fun _ => CW cy ad C ++ rest) := by
  refine GMi.intro cX2_entry 4 RX2 (by decide) rfl rfl (Nat.le_of_ble_eq_true rfl) ?_
  intro p e s m args below meth c A Q ls X hret hl hw
  have hx := X.1
  have hb := X.2.1
  have hl : lv_has ls 4 [(0, .ref (ad 96)), (1, .int q1), (2, .int q2)] := hl
  have inX2 : ∀ w ∈ wsX20, w ∈ wsX2_entry := fun w h => List.mem_cons_of_mem _ (List.mem_append_left _ (List.mem_append_left _ (List.mem_append_right _ h)))
  obtain ⟨sp, hsp⟩ : ∃ sp, sp = F_X2_entry C q1 q2 := ⟨_, rfl⟩
  have hF := hsp.trans (F_X2_entry.eq_1 C q1 q2)
  refine lv_aload_n hx hb dX2_entry_0 rfl (lv_at hl 0 rfl) ?_
  refine lv_iload_n hx hb dX2_entry_1 rfl (lv_at hl 1 rfl) ?_
  refine gcV_i (rest := []) X (c_X2_placeOf l D cy ad rest C q1) gy_X2_placeOf gX2_entry_X2_placeOf ⟨rfl, rfl, Nat.le_of_ble_eq_true rfl, Nat.le_of_ble_eq_true rfl⟩ 96 rfl rfl rfl hl rfl (Nat.le_of_ble_eq_true rfl) dX2_entry_2 ⟨Nat.zero_le _, Nat.zero_le _⟩ hw (fun r1 _ H locs hr1 hw => ?_)
  have hr1 : r1 = F_X2_placeOf C q1 := hr1
  have hF := hF.trans (bnd_eq hr1)
  refine lv_istore_n (lv' := [(3, .int r1), (0, .ref (ad 96)), (1, .int q1), (2, .int q2)]) hx hb dX2_entry_5 rfl hl (by decide) rfl (fun ls hl => ?_)
  refine lv_iload_n hx hb dX2_entry_6 rfl (lv_at hl 3 rfl) ?_
  rcases Decidable.em (q2 = 0) with c3 | c3
  · skip
    have hF := hF.trans (if_pos c3)
    refine lv_tableIn (off := 33) (tgt := 40) hx hb dX2_entry_7 (by rw [c3]; decide) (by rw [c3]; decide) (by rw [c3]; decide) (by decide) ?_
    refine lv_aload_n hx hb dX2_entry_40 rfl (lv_at hl 1 rfl) ?_
    refine g_get (v := .ref (ad 28)) (C := RX2) (T := TX2) (N := 10) (ci := 4) X inX2 hw 96 rfl rfl 0 (by decide) (List.mem_of_getElem? (i := 1) rfl) rfl rfl dX2_entry_41 ?_
    refine lv_iload_n hx hb dX2_entry_44 rfl (lv_at hl 0 rfl) ?_
    refine gcV_i (rest := []) X (cR_at l D cy ad rest C 14 (by decide) r1) gy_X4_at gX2_entry_X4_at ⟨rfl, rfl, Nat.le_of_ble_eq_true rfl, Nat.le_of_ble_eq_true rfl⟩ 28 rfl rfl rfl hl rfl (Nat.le_of_ble_eq_true rfl) dX2_entry_45 ⟨Nat.zero_le _, Nat.zero_le _⟩ hw (fun r4 _ H locs hr4 hw => ?_)
    have hr4 : r4 = rAt 60 (C.1 14) r1 := hr4
    have hF := hF.trans (bnd_eq hr4)
    exact hret _ _ () _ _ _ dX2_entry_48 (hF.symm.trans hsp) hw
  · skip
    have hF := hF.trans (if_neg c3)
    rcases Decidable.em (q2 = 1) with c6 | c6
    · skip
      have hF := hF.trans (if_pos c6)
      refine lv_tableIn (off := 42) (tgt := 49) hx hb dX2_entry_7 (by rw [c6]; decide) (by rw [c6]; decide) (by rw [c6]; decide) (by decide) ?_
      refine lv_aload_n hx hb dX2_entry_49 rfl (lv_at hl 1 rfl) ?_
      refine g_get (v := .ref (ad 30)) (C := RX2) (T := TX2) (N := 10) (ci := 4) X inX2 hw 96 rfl rfl 1 (by decide) (List.mem_of_getElem? (i := 2) rfl) rfl rfl dX2_entry_50 ?_
      refine lv_iload_n hx hb dX2_entry_53 rfl (lv_at hl 0 rfl) ?_
      refine gcV_i (rest := []) X (cR_at l D cy ad rest C 15 (by decide) r1) gy_X4_at gX2_entry_X4_at ⟨rfl, rfl, Nat.le_of_ble_eq_true rfl, Nat.le_of_ble_eq_true rfl⟩ 30 rfl rfl rfl hl rfl (Nat.le_of_ble_eq_true rfl) dX2_entry_54 ⟨Nat.zero_le _, Nat.zero_le _⟩ hw (fun r7 _ H locs hr7 hw => ?_)
      have hr7 : r7 = rAt 60 (C.1 15) r1 := hr7
      have hF := hF.trans (bnd_eq hr7)
      exact hret _ _ () _ _ _ dX2_entry_57 (hF.symm.trans hsp) hw
    · skip
      have hF := hF.trans (if_neg c6)
      rcases Decidable.em (q2 = 2) with c9 | c9
      · skip
        have hF := hF.trans (if_pos c9)
        refine lv_tableIn (off := 51) (tgt := 58) hx hb dX2_entry_7 (by rw [c9]; decide) (by rw [c9]; decide) (by rw [c9]; decide) (by decide) ?_
        refine lv_aload_n hx hb dX2_entry_58 rfl (lv_at hl 1 rfl) ?_
        refine g_get (v := .ref (ad 32)) (C := RX2) (T := TX2) (N := 10) (ci := 4) X inX2 hw 96 rfl rfl 2 (by decide) (List.mem_of_getElem? (i := 3) rfl) rfl rfl dX2_entry_59 ?_
        refine lv_iload_n hx hb dX2_entry_62 rfl (lv_at hl 0 rfl) ?_
        refine gcV_i (rest := []) X (cR_at l D cy ad rest C 16 (by decide) r1) gy_X4_at gX2_entry_X4_at ⟨rfl, rfl, Nat.le_of_ble_eq_true rfl, Nat.le_of_ble_eq_true rfl⟩ 32 rfl rfl rfl hl rfl (Nat.le_of_ble_eq_true rfl) dX2_entry_63 ⟨Nat.zero_le _, Nat.zero_le _⟩ hw (fun r10 _ H locs hr10 hw => ?_)
        have hr10 : r10 = rAt 60 (C.1 16) r1 := hr10
        have hF := hF.trans (bnd_eq hr10)
        exact hret _ _ () _ _ _ dX2_entry_66 (hF.symm.trans hsp) hw
      · skip
        have hF := hF.trans (if_neg c9)
        rcases Decidable.em (q2 = 3) with c12 | c12
        · skip
          have hF := hF.trans (if_pos c12)
          refine lv_tableIn (off := 60) (tgt := 67) hx hb dX2_entry_7 (by rw [c12]; decide) (by rw [c12]; decide) (by rw [c12]; decide) (by decide) ?_
          refine lv_aload_n hx hb dX2_entry_67 rfl (lv_at hl 1 rfl) ?_
          refine g_get (v := .ref (ad 34)) (C := RX2) (T := TX2) (N := 10) (ci := 4) X inX2 hw 96 rfl rfl 3 (by decide) (List.mem_of_getElem? (i := 4) rfl) rfl rfl dX2_entry_68 ?_
          refine lv_iload_n hx hb dX2_entry_71 rfl (lv_at hl 0 rfl) ?_
          refine gcV_i (rest := []) X (cR_at l D cy ad rest C 17 (by decide) r1) gy_X4_at gX2_entry_X4_at ⟨rfl, rfl, Nat.le_of_ble_eq_true rfl, Nat.le_of_ble_eq_true rfl⟩ 34 rfl rfl rfl hl rfl (Nat.le_of_ble_eq_true rfl) dX2_entry_72 ⟨Nat.zero_le _, Nat.zero_le _⟩ hw (fun r13 _ H locs hr13 hw => ?_)
          have hr13 : r13 = rAt 60 (C.1 17) r1 := hr13
          have hF := hF.trans (bnd_eq hr13)
          exact hret _ _ () _ _ _ dX2_entry_75 (hF.symm.trans hsp) hw
        · skip
          have hF := hF.trans (if_neg c12)
          rcases Decidable.em (q2 = 4) with c15 | c15
          · skip
            have hF := hF.trans (if_pos c15)
            refine lv_tableIn (off := 69) (tgt := 76) hx hb dX2_entry_7 (by rw [c15]; decide) (by rw [c15]; decide) (by rw [c15]; decide) (by decide) ?_
            refine lv_aload_n hx hb dX2_entry_76 rfl (lv_at hl 1 rfl) ?_
            refine g_get (v := .ref (ad 36)) (C := RX2) (T := TX2) (N := 10) (ci := 4) X inX2 hw 96 rfl rfl 4 (by decide) (List.mem_of_getElem? (i := 5) rfl) rfl rfl dX2_entry_77 ?_
            refine lv_iload_n hx hb dX2_entry_80 rfl (lv_at hl 0 rfl) ?_
            refine gcV_i (rest := []) X (cR_at l D cy ad rest C 18 (by decide) r1) gy_X4_at gX2_entry_X4_at ⟨rfl, rfl, Nat.le_of_ble_eq_true rfl, Nat.le_of_ble_eq_true rfl⟩ 36 rfl rfl rfl hl rfl (Nat.le_of_ble_eq_true rfl) dX2_entry_81 ⟨Nat.zero_le _, Nat.zero_le _⟩ hw (fun r16 _ H locs hr16 hw => ?_)
            have hr16 : r16 = rAt 60 (C.1 18) r1 := hr16
            have hF := hF.trans (bnd_eq hr16)
            exact hret _ _ () _ _ _ dX2_entry_84 (hF.symm.trans hsp) hw
          · skip
            have hF := hF.trans (if_neg c15)
            refine lv_tableOut (tgt := 85) hx hb dX2_entry_7 (by have := tI (z := 0) c3 rfl; have := tI (z := 1) c6 rfl; have := tI (z := 2) c9 rfl; have := tI (z := 3) c12 rfl; have := tI (z := 4) c15 rfl; omega) (by decide) ?_
            refine lv_aload_n hx hb dX2_entry_85 rfl (lv_at hl 1 rfl) ?_
            refine g_get (v := .ref (ad 38)) (C := RX2) (T := TX2) (N := 10) (ci := 4) X inX2 hw 96 rfl rfl 5 (by decide) (List.mem_of_getElem? (i := 6) rfl) rfl rfl dX2_entry_86 ?_
            refine lv_iload_n hx hb dX2_entry_89 rfl (lv_at hl 0 rfl) ?_
            refine gcV_i (rest := []) X (cR_at l D cy ad rest C 19 (by decide) r1) gy_X4_at gX2_entry_X4_at ⟨rfl, rfl, Nat.le_of_ble_eq_true rfl, Nat.le_of_ble_eq_true rfl⟩ 38 rfl rfl rfl hl rfl (Nat.le_of_ble_eq_true rfl) dX2_entry_90 ⟨Nat.zero_le _, Nat.zero_le _⟩ hw (fun r18 _ H locs hr18 hw => ?_)
            have hr18 : r18 = rAt 60 (C.1 19) r1 := hr18
            have hF := hF.trans (bnd_eq hr18)
            exact hret _ _ () _ _ _ dX2_entry_93 (hF.symm.trans hsp) hw
theorem gy_X2_clear : gY yX2_clear RX2 cX2_clear 1 none wsX2_clear 0 := ⟨⟨_, rfl⟩, rfl, by decide +kernel, by decide +kernel, by decide +kernel⟩
def F_X2_clear (C : CS) : CS := (bnd (sR C 20 (rFill 3 (C.1 20) 0)) (fun u2 => (bnd (sI u2 7 0) (fun u3 => (bnd (sI u3 8 0) (fun u4 => (bnd (sL u4 0 0) (fun u5 => u5))))))))
abbrev rmX2_clear : Room := { frames := 1, cells := 0, slots := 0, locals := 22 }
set_option maxHeartbeats 4000000 in
set_option maxRecDepth 100000 in
theorem c_X2_clear (l : Launch) (D : va_G) (cy : Nat → ClassId) (ad : Nat → Nat) (rest : va_W) (C : CS) : GMv l yX2_clear wsX2_clear rmX2_clear D cy [.ref (ad 96)] (CW cy ad C ++ rest) (fun (u : CS) => u = F_X2_clear C) (fun u => CW cy ad u ++ rest) := by
  refine GMv.intro cX2_clear 1 RX2 (by decide) rfl rfl (Nat.le_of_ble_eq_true rfl) ?_
  intro p e s m args below meth c A Q ls X hret hl hw
  have hx := X.1
  have hb := X.2.1
  have hl : lv_has ls 1 [(0, .ref (ad 96))] := hl
  have inX2 : ∀ w ∈ wsX20, w ∈ wsX2_clear := fun w h => List.mem_cons_of_mem _ (List.mem_append_left _ (List.mem_append_left _ (List.mem_append_right _ h)))
  obtain ⟨sp, hsp⟩ : ∃ sp, sp = F_X2_clear C := ⟨_, rfl⟩
  have hF := hsp.trans (F_X2_clear.eq_1 C)
  refine lv_aload_n hx hb dX2_clear_0 rfl (lv_at hl 0 rfl) ?_
  refine g_get (v := .ref (ad 40)) (C := RX2) (T := TX2) (N := 10) (ci := 4) X inX2 hw 96 rfl rfl 7 (by decide) (List.mem_of_getElem? (i := 1) rfl) rfl rfl dX2_clear_1 ?_
  refine lv_iconst (v := 0) hx hb dX2_clear_4 (by decide) ?_
  refine gcV_v (rest := []) X (cR_fillWith l D cy ad rest C 20 (by decide) 0) gy_X4_fillWith gX2_clear_X4_fillWith ⟨rfl, rfl, Nat.le_of_ble_eq_true rfl, Nat.le_of_ble_eq_true rfl⟩ 40 rfl rfl rfl hl rfl (Nat.le_of_ble_eq_true rfl) dX2_clear_5 ⟨Nat.zero_le _, Nat.zero_le _⟩ hw (fun u2 H locs hu2 hw => ?_)
  have hu2 : u2 = sR C 20 (rFill 3 (C.1 20) 0) := hu2
  have hF := hF.trans (bnd_eq hu2)
  refine lv_aload_n hx hb dX2_clear_8 rfl (lv_at hl 0 rfl) ?_
  refine lv_iconst (v := 0) hx hb dX2_clear_9 (by decide) ?_
  refine g_put (v := .int 0) (C := RX2) (T := TX2) (N := 10) (ci := 4) (w' := CW cy ad (sI u2 7 0) ++ rest) X inX2 tyX2 tyX2_ok nmX2 hw 96 rfl rfl 6 (by decide) (List.mem_of_getElem? (i := 2) rfl) rfl rfl rfl rfl (Nat.le_of_ble_eq_true rfl) rfl dX2_clear_10 (fun H locs hw => ?_)
  obtain ⟨u3, hu3⟩ : ∃ z, z = sI u2 7 0 := ⟨_, rfl⟩
  rw [← hu3] at hw
  have hF := hF.trans (bnd_eq hu3)
  refine lv_aload_n hx hb dX2_clear_13 rfl (lv_at hl 0 rfl) ?_
  refine lv_iconst (v := 0) hx hb dX2_clear_14 (by decide) ?_
  refine g_put (v := .int 0) (C := RX2) (T := TX2) (N := 10) (ci := 4) (w' := CW cy ad (sI u3 8 0) ++ rest) X inX2 tyX2 tyX2_ok nmX2 hw 96 rfl rfl 8 (by decide) (List.mem_of_getElem? (i := 3) rfl) rfl rfl rfl rfl (Nat.le_of_ble_eq_true rfl) rfl dX2_clear_15 (fun H locs hw => ?_)
  obtain ⟨u4, hu4⟩ : ∃ z, z = sI u3 8 0 := ⟨_, rfl⟩
  rw [← hu4] at hw
  have hF := hF.trans (bnd_eq hu4)
  refine lv_aload_n hx hb dX2_clear_18 rfl (lv_at hl 0 rfl) ?_
  refine lv_lconst (v := 0) hx hb dX2_clear_19 (by decide) ?_
  refine g_put (v := .long 0) (C := RX2) (T := TX2) (N := 10) (ci := 4) (w' := CW cy ad (sL u4 0 0) ++ rest) X inX2 tyX2 tyX2_ok nmX2 hw 96 rfl rfl 9 (by decide) (List.mem_of_getElem? (i := 4) rfl) rfl rfl rfl rfl (Nat.le_of_ble_eq_true rfl) rfl dX2_clear_20 (fun H locs hw => ?_)
  obtain ⟨u5, hu5⟩ : ∃ z, z = sL u4 0 0 := ⟨_, rfl⟩
  rw [← hu5] at hw
  have hF := hF.trans (bnd_eq hu5)
  exact hret _ _ _ _ _ dX2_clear_23 (hF.symm.trans hsp) hw
theorem gy_X2_copyFrom : gY yX2_copyFrom RX2 cX2_copyFrom 2 none wsX2_copyFrom 1 := ⟨⟨_, rfl⟩, rfl, by decide +kernel, by decide +kernel, by decide +kernel⟩
def F_X2_copyFrom_nk (C : CS) : CS := (bnd (sR C 14 (rCopy 60 (C.1 14) 60 (C.1 35))) (fun u2 => (bnd (sR u2 15 (rCopy 60 (u2.1 15) 60 (u2.1 36))) (fun u4 => (bnd (sR u4 16 (rCopy 60 (u4.1 16) 60 (u4.1 37))) (fun u6 => (bnd (sR u6 17 (rCopy 60 (u6.1 17) 60 (u6.1 38))) (fun u8 => (bnd (sR u8 18 (rCopy 60 (u8.1 18) 60 (u8.1 39))) (fun u10 => (bnd (sR u10 19 (rCopy 60 (u10.1 19) 60 (u10.1 40))) (fun u12 => (bnd (sR u12 20 (rCopy 3 (u12.1 20) 3 (u12.1 41))) (fun u14 => (bnd (sI u14 7 (u14.2.1 16)) (fun u15 => (bnd (sI u15 8 (u15.2.1 17)) (fun u16 => (bnd (sL u16 0 (u16.2.2 1)) (fun u17 => u17))))))))))))))))))))
abbrev rmX2_copyFrom_nk : Room := { frames := 2, cells := 0, slots := 0, locals := 43 }
set_option maxHeartbeats 4000000 in
set_option maxRecDepth 100000 in
theorem c_X2_copyFrom_nk (l : Launch) (D : va_G) (cy : Nat → ClassId) (ad : Nat → Nat) (rest : va_W) (C : CS) : GMv l yX2_copyFrom wsX2_copyFrom rmX2_copyFrom_nk D cy [.ref (ad 96), .ref (ad 100)] (CW cy ad C ++ rest) (fun (u : CS) => u = F_X2_copyFrom_nk C) (fun u => CW cy ad u ++ rest) := by
  refine GMv.intro cX2_copyFrom 2 RX2 (by decide) rfl rfl (Nat.le_of_ble_eq_true rfl) ?_
  intro p e s m args below meth c A Q ls X hret hl hw
  have hx := X.1
  have hb := X.2.1
  have hl : lv_has ls 2 [(0, .ref (ad 96)), (1, .ref (ad 100))] := hl
  have inX2 : ∀ w ∈ wsX20, w ∈ wsX2_copyFrom := fun w h => List.mem_cons_of_mem _ (List.mem_append_left _ (List.mem_append_left _ (List.mem_append_right _ h)))
  obtain ⟨sp, hsp⟩ : ∃ sp, sp = F_X2_copyFrom_nk C := ⟨_, rfl⟩
  have hF := hsp.trans (F_X2_copyFrom_nk.eq_1 C)
  refine lv_aload_n hx hb dX2_copyFrom_0 rfl (lv_at hl 1 rfl) ?_
  refine lv_ifnonnull (tgt := 5) hx hb dX2_copyFrom_1 (by decide) ?_
  refine lv_aload_n hx hb dX2_copyFrom_5 rfl (lv_at hl 0 rfl) ?_
  refine g_get (v := .ref (ad 28)) (C := RX2) (T := TX2) (N := 10) (ci := 4) X inX2 hw 96 rfl rfl 0 (by decide) (List.mem_of_getElem? (i := 1) rfl) rfl rfl dX2_copyFrom_6 ?_
  refine lv_aload_n hx hb dX2_copyFrom_9 rfl (lv_at hl 1 rfl) ?_
  refine g_get (v := .ref (ad 70)) (C := RX2) (T := TX2) (N := 10) (ci := 4) X inX2 hw 100 rfl rfl 0 (by decide) (List.mem_of_getElem? (i := 1) rfl) rfl rfl dX2_copyFrom_10 ?_
  refine gcV_v (rest := []) X (cR_copyFrom l D cy ad rest C 14 35 (by decide) (by decide) (by decide)) gy_X4_copyFrom gX2_copyFrom_X4_copyFrom ⟨rfl, rfl, Nat.le_of_ble_eq_true rfl, Nat.le_of_ble_eq_true rfl⟩ 28 rfl rfl rfl hl rfl (Nat.le_of_ble_eq_true rfl) dX2_copyFrom_13 ⟨Nat.zero_le _, Nat.zero_le _⟩ hw (fun u2 H locs hu2 hw => ?_)
  have hu2 : u2 = sR C 14 (rCopy 60 (C.1 14) 60 (C.1 35)) := hu2
  have hF := hF.trans (bnd_eq hu2)
  refine lv_aload_n hx hb dX2_copyFrom_16 rfl (lv_at hl 0 rfl) ?_
  refine g_get (v := .ref (ad 30)) (C := RX2) (T := TX2) (N := 10) (ci := 4) X inX2 hw 96 rfl rfl 1 (by decide) (List.mem_of_getElem? (i := 2) rfl) rfl rfl dX2_copyFrom_17 ?_
  refine lv_aload_n hx hb dX2_copyFrom_20 rfl (lv_at hl 1 rfl) ?_
  refine g_get (v := .ref (ad 72)) (C := RX2) (T := TX2) (N := 10) (ci := 4) X inX2 hw 100 rfl rfl 1 (by decide) (List.mem_of_getElem? (i := 2) rfl) rfl rfl dX2_copyFrom_21 ?_
  refine gcV_v (rest := []) X (cR_copyFrom l D cy ad rest u2 15 36 (by decide) (by decide) (by decide)) gy_X4_copyFrom gX2_copyFrom_X4_copyFrom ⟨rfl, rfl, Nat.le_of_ble_eq_true rfl, Nat.le_of_ble_eq_true rfl⟩ 30 rfl rfl rfl hl rfl (Nat.le_of_ble_eq_true rfl) dX2_copyFrom_24 ⟨Nat.zero_le _, Nat.zero_le _⟩ hw (fun u4 H locs hu4 hw => ?_)
  have hu4 : u4 = sR u2 15 (rCopy 60 (u2.1 15) 60 (u2.1 36)) := hu4
  have hF := hF.trans (bnd_eq hu4)
  refine lv_aload_n hx hb dX2_copyFrom_27 rfl (lv_at hl 0 rfl) ?_
  refine g_get (v := .ref (ad 32)) (C := RX2) (T := TX2) (N := 10) (ci := 4) X inX2 hw 96 rfl rfl 2 (by decide) (List.mem_of_getElem? (i := 3) rfl) rfl rfl dX2_copyFrom_28 ?_
  refine lv_aload_n hx hb dX2_copyFrom_31 rfl (lv_at hl 1 rfl) ?_
  refine g_get (v := .ref (ad 74)) (C := RX2) (T := TX2) (N := 10) (ci := 4) X inX2 hw 100 rfl rfl 2 (by decide) (List.mem_of_getElem? (i := 3) rfl) rfl rfl dX2_copyFrom_32 ?_
  refine gcV_v (rest := []) X (cR_copyFrom l D cy ad rest u4 16 37 (by decide) (by decide) (by decide)) gy_X4_copyFrom gX2_copyFrom_X4_copyFrom ⟨rfl, rfl, Nat.le_of_ble_eq_true rfl, Nat.le_of_ble_eq_true rfl⟩ 32 rfl rfl rfl hl rfl (Nat.le_of_ble_eq_true rfl) dX2_copyFrom_35 ⟨Nat.zero_le _, Nat.zero_le _⟩ hw (fun u6 H locs hu6 hw => ?_)
  have hu6 : u6 = sR u4 16 (rCopy 60 (u4.1 16) 60 (u4.1 37)) := hu6
  have hF := hF.trans (bnd_eq hu6)
  refine lv_aload_n hx hb dX2_copyFrom_38 rfl (lv_at hl 0 rfl) ?_
  refine g_get (v := .ref (ad 34)) (C := RX2) (T := TX2) (N := 10) (ci := 4) X inX2 hw 96 rfl rfl 3 (by decide) (List.mem_of_getElem? (i := 4) rfl) rfl rfl dX2_copyFrom_39 ?_
  refine lv_aload_n hx hb dX2_copyFrom_42 rfl (lv_at hl 1 rfl) ?_
  refine g_get (v := .ref (ad 76)) (C := RX2) (T := TX2) (N := 10) (ci := 4) X inX2 hw 100 rfl rfl 3 (by decide) (List.mem_of_getElem? (i := 4) rfl) rfl rfl dX2_copyFrom_43 ?_
  refine gcV_v (rest := []) X (cR_copyFrom l D cy ad rest u6 17 38 (by decide) (by decide) (by decide)) gy_X4_copyFrom gX2_copyFrom_X4_copyFrom ⟨rfl, rfl, Nat.le_of_ble_eq_true rfl, Nat.le_of_ble_eq_true rfl⟩ 34 rfl rfl rfl hl rfl (Nat.le_of_ble_eq_true rfl) dX2_copyFrom_46 ⟨Nat.zero_le _, Nat.zero_le _⟩ hw (fun u8 H locs hu8 hw => ?_)
  have hu8 : u8 = sR u6 17 (rCopy 60 (u6.1 17) 60 (u6.1 38)) := hu8
  have hF := hF.trans (bnd_eq hu8)
  refine lv_aload_n hx hb dX2_copyFrom_49 rfl (lv_at hl 0 rfl) ?_
  refine g_get (v := .ref (ad 36)) (C := RX2) (T := TX2) (N := 10) (ci := 4) X inX2 hw 96 rfl rfl 4 (by decide) (List.mem_of_getElem? (i := 5) rfl) rfl rfl dX2_copyFrom_50 ?_
  refine lv_aload_n hx hb dX2_copyFrom_53 rfl (lv_at hl 1 rfl) ?_
  refine g_get (v := .ref (ad 78)) (C := RX2) (T := TX2) (N := 10) (ci := 4) X inX2 hw 100 rfl rfl 4 (by decide) (List.mem_of_getElem? (i := 5) rfl) rfl rfl dX2_copyFrom_54 ?_
  refine gcV_v (rest := []) X (cR_copyFrom l D cy ad rest u8 18 39 (by decide) (by decide) (by decide)) gy_X4_copyFrom gX2_copyFrom_X4_copyFrom ⟨rfl, rfl, Nat.le_of_ble_eq_true rfl, Nat.le_of_ble_eq_true rfl⟩ 36 rfl rfl rfl hl rfl (Nat.le_of_ble_eq_true rfl) dX2_copyFrom_57 ⟨Nat.zero_le _, Nat.zero_le _⟩ hw (fun u10 H locs hu10 hw => ?_)
  have hu10 : u10 = sR u8 18 (rCopy 60 (u8.1 18) 60 (u8.1 39)) := hu10
  have hF := hF.trans (bnd_eq hu10)
  refine lv_aload_n hx hb dX2_copyFrom_60 rfl (lv_at hl 0 rfl) ?_
  refine g_get (v := .ref (ad 38)) (C := RX2) (T := TX2) (N := 10) (ci := 4) X inX2 hw 96 rfl rfl 5 (by decide) (List.mem_of_getElem? (i := 6) rfl) rfl rfl dX2_copyFrom_61 ?_
  refine lv_aload_n hx hb dX2_copyFrom_64 rfl (lv_at hl 1 rfl) ?_
  refine g_get (v := .ref (ad 80)) (C := RX2) (T := TX2) (N := 10) (ci := 4) X inX2 hw 100 rfl rfl 5 (by decide) (List.mem_of_getElem? (i := 6) rfl) rfl rfl dX2_copyFrom_65 ?_
  refine gcV_v (rest := []) X (cR_copyFrom l D cy ad rest u10 19 40 (by decide) (by decide) (by decide)) gy_X4_copyFrom gX2_copyFrom_X4_copyFrom ⟨rfl, rfl, Nat.le_of_ble_eq_true rfl, Nat.le_of_ble_eq_true rfl⟩ 38 rfl rfl rfl hl rfl (Nat.le_of_ble_eq_true rfl) dX2_copyFrom_68 ⟨Nat.zero_le _, Nat.zero_le _⟩ hw (fun u12 H locs hu12 hw => ?_)
  have hu12 : u12 = sR u10 19 (rCopy 60 (u10.1 19) 60 (u10.1 40)) := hu12
  have hF := hF.trans (bnd_eq hu12)
  refine lv_aload_n hx hb dX2_copyFrom_71 rfl (lv_at hl 0 rfl) ?_
  refine g_get (v := .ref (ad 40)) (C := RX2) (T := TX2) (N := 10) (ci := 4) X inX2 hw 96 rfl rfl 7 (by decide) (List.mem_of_getElem? (i := 7) rfl) rfl rfl dX2_copyFrom_72 ?_
  refine lv_aload_n hx hb dX2_copyFrom_75 rfl (lv_at hl 1 rfl) ?_
  refine g_get (v := .ref (ad 82)) (C := RX2) (T := TX2) (N := 10) (ci := 4) X inX2 hw 100 rfl rfl 7 (by decide) (List.mem_of_getElem? (i := 7) rfl) rfl rfl dX2_copyFrom_76 ?_
  refine gcV_v (rest := []) X (cR_copyFrom l D cy ad rest u12 20 41 (by decide) (by decide) (by decide)) gy_X4_copyFrom gX2_copyFrom_X4_copyFrom ⟨rfl, rfl, Nat.le_of_ble_eq_true rfl, Nat.le_of_ble_eq_true rfl⟩ 40 rfl rfl rfl hl rfl (Nat.le_of_ble_eq_true rfl) dX2_copyFrom_79 ⟨Nat.zero_le _, Nat.zero_le _⟩ hw (fun u14 H locs hu14 hw => ?_)
  have hu14 : u14 = sR u12 20 (rCopy 3 (u12.1 20) 3 (u12.1 41)) := hu14
  have hF := hF.trans (bnd_eq hu14)
  refine lv_aload_n hx hb dX2_copyFrom_82 rfl (lv_at hl 0 rfl) ?_
  refine lv_aload_n hx hb dX2_copyFrom_83 rfl (lv_at hl 1 rfl) ?_
  refine g_get (v := .int (u14.2.1 16)) (C := RX2) (T := TX2) (N := 10) (ci := 4) X inX2 hw 100 rfl rfl 6 (by decide) (List.mem_of_getElem? (i := 8) rfl) rfl rfl dX2_copyFrom_84 ?_
  refine g_put (v := .int (u14.2.1 16)) (C := RX2) (T := TX2) (N := 10) (ci := 4) (w' := CW cy ad (sI u14 7 (u14.2.1 16)) ++ rest) X inX2 tyX2 tyX2_ok nmX2 hw 96 rfl rfl 6 (by decide) (List.mem_of_getElem? (i := 8) rfl) rfl rfl rfl rfl (Nat.le_of_ble_eq_true rfl) rfl dX2_copyFrom_87 (fun H locs hw => ?_)
  obtain ⟨u15, hu15⟩ : ∃ z, z = sI u14 7 (u14.2.1 16) := ⟨_, rfl⟩
  rw [← hu15] at hw
  have hF := hF.trans (bnd_eq hu15)
  refine lv_aload_n hx hb dX2_copyFrom_90 rfl (lv_at hl 0 rfl) ?_
  refine lv_aload_n hx hb dX2_copyFrom_91 rfl (lv_at hl 1 rfl) ?_
  refine g_get (v := .int (u15.2.1 17)) (C := RX2) (T := TX2) (N := 10) (ci := 4) X inX2 hw 100 rfl rfl 8 (by decide) (List.mem_of_getElem? (i := 9) rfl) rfl rfl dX2_copyFrom_92 ?_
  refine g_put (v := .int (u15.2.1 17)) (C := RX2) (T := TX2) (N := 10) (ci := 4) (w' := CW cy ad (sI u15 8 (u15.2.1 17)) ++ rest) X inX2 tyX2 tyX2_ok nmX2 hw 96 rfl rfl 8 (by decide) (List.mem_of_getElem? (i := 9) rfl) rfl rfl rfl rfl (Nat.le_of_ble_eq_true rfl) rfl dX2_copyFrom_95 (fun H locs hw => ?_)
  obtain ⟨u16, hu16⟩ : ∃ z, z = sI u15 8 (u15.2.1 17) := ⟨_, rfl⟩
  rw [← hu16] at hw
  have hF := hF.trans (bnd_eq hu16)
  refine lv_aload_n hx hb dX2_copyFrom_98 rfl (lv_at hl 0 rfl) ?_
  refine lv_aload_n hx hb dX2_copyFrom_99 rfl (lv_at hl 1 rfl) ?_
  refine g_get (v := .long (u16.2.2 1)) (C := RX2) (T := TX2) (N := 10) (ci := 4) X inX2 hw 100 rfl rfl 9 (by decide) (List.mem_of_getElem? (i := 10) rfl) rfl rfl dX2_copyFrom_100 ?_
  refine g_put (v := .long (u16.2.2 1)) (C := RX2) (T := TX2) (N := 10) (ci := 4) (w' := CW cy ad (sL u16 0 (u16.2.2 1)) ++ rest) X inX2 tyX2 tyX2_ok nmX2 hw 96 rfl rfl 9 (by decide) (List.mem_of_getElem? (i := 10) rfl) rfl rfl rfl rfl (Nat.le_of_ble_eq_true rfl) rfl dX2_copyFrom_103 (fun H locs hw => ?_)
  obtain ⟨u17, hu17⟩ : ∃ z, z = sL u16 0 (u16.2.2 1) := ⟨_, rfl⟩
  rw [← hu17] at hw
  have hF := hF.trans (bnd_eq hu17)
  exact hret _ _ _ _ _ dX2_copyFrom_106 (hF.symm.trans hsp) hw
def F_X2_copyFrom_kn (C : CS) : CS := (bnd (sR C 35 (rCopy 60 (C.1 35) 60 (C.1 14))) (fun u2 => (bnd (sR u2 36 (rCopy 60 (u2.1 36) 60 (u2.1 15))) (fun u4 => (bnd (sR u4 37 (rCopy 60 (u4.1 37) 60 (u4.1 16))) (fun u6 => (bnd (sR u6 38 (rCopy 60 (u6.1 38) 60 (u6.1 17))) (fun u8 => (bnd (sR u8 39 (rCopy 60 (u8.1 39) 60 (u8.1 18))) (fun u10 => (bnd (sR u10 40 (rCopy 60 (u10.1 40) 60 (u10.1 19))) (fun u12 => (bnd (sR u12 41 (rCopy 3 (u12.1 41) 3 (u12.1 20))) (fun u14 => (bnd (sI u14 16 (u14.2.1 7)) (fun u15 => (bnd (sI u15 17 (u15.2.1 8)) (fun u16 => (bnd (sL u16 1 (u16.2.2 0)) (fun u17 => u17))))))))))))))))))))
abbrev rmX2_copyFrom_kn : Room := { frames := 2, cells := 0, slots := 0, locals := 43 }
set_option maxHeartbeats 4000000 in
set_option maxRecDepth 100000 in
theorem c_X2_copyFrom_kn (l : Launch) (D : va_G) (cy : Nat → ClassId) (ad : Nat → Nat) (rest : va_W) (C : CS) : GMv l yX2_copyFrom wsX2_copyFrom rmX2_copyFrom_kn D cy [.ref (ad 100), .ref (ad 96)] (CW cy ad C ++ rest) (fun (u : CS) => u = F_X2_copyFrom_kn C) (fun u => CW cy ad u ++ rest) := by
  refine GMv.intro cX2_copyFrom 2 RX2 (by decide) rfl rfl (Nat.le_of_ble_eq_true rfl) ?_
  intro p e s m args below meth c A Q ls X hret hl hw
  have hx := X.1
  have hb := X.2.1
  have hl : lv_has ls 2 [(0, .ref (ad 100)), (1, .ref (ad 96))] := hl
  have inX2 : ∀ w ∈ wsX20, w ∈ wsX2_copyFrom := fun w h => List.mem_cons_of_mem _ (List.mem_append_left _ (List.mem_append_left _ (List.mem_append_right _ h)))
  obtain ⟨sp, hsp⟩ : ∃ sp, sp = F_X2_copyFrom_kn C := ⟨_, rfl⟩
  have hF := hsp.trans (F_X2_copyFrom_kn.eq_1 C)
  refine lv_aload_n hx hb dX2_copyFrom_0 rfl (lv_at hl 1 rfl) ?_
  refine lv_ifnonnull (tgt := 5) hx hb dX2_copyFrom_1 (by decide) ?_
  refine lv_aload_n hx hb dX2_copyFrom_5 rfl (lv_at hl 0 rfl) ?_
  refine g_get (v := .ref (ad 70)) (C := RX2) (T := TX2) (N := 10) (ci := 4) X inX2 hw 100 rfl rfl 0 (by decide) (List.mem_of_getElem? (i := 1) rfl) rfl rfl dX2_copyFrom_6 ?_
  refine lv_aload_n hx hb dX2_copyFrom_9 rfl (lv_at hl 1 rfl) ?_
  refine g_get (v := .ref (ad 28)) (C := RX2) (T := TX2) (N := 10) (ci := 4) X inX2 hw 96 rfl rfl 0 (by decide) (List.mem_of_getElem? (i := 1) rfl) rfl rfl dX2_copyFrom_10 ?_
  refine gcV_v (rest := []) X (cR_copyFrom l D cy ad rest C 35 14 (by decide) (by decide) (by decide)) gy_X4_copyFrom gX2_copyFrom_X4_copyFrom ⟨rfl, rfl, Nat.le_of_ble_eq_true rfl, Nat.le_of_ble_eq_true rfl⟩ 70 rfl rfl rfl hl rfl (Nat.le_of_ble_eq_true rfl) dX2_copyFrom_13 ⟨Nat.zero_le _, Nat.zero_le _⟩ hw (fun u2 H locs hu2 hw => ?_)
  have hu2 : u2 = sR C 35 (rCopy 60 (C.1 35) 60 (C.1 14)) := hu2
  have hF := hF.trans (bnd_eq hu2)
  refine lv_aload_n hx hb dX2_copyFrom_16 rfl (lv_at hl 0 rfl) ?_
  refine g_get (v := .ref (ad 72)) (C := RX2) (T := TX2) (N := 10) (ci := 4) X inX2 hw 100 rfl rfl 1 (by decide) (List.mem_of_getElem? (i := 2) rfl) rfl rfl dX2_copyFrom_17 ?_
  refine lv_aload_n hx hb dX2_copyFrom_20 rfl (lv_at hl 1 rfl) ?_
  refine g_get (v := .ref (ad 30)) (C := RX2) (T := TX2) (N := 10) (ci := 4) X inX2 hw 96 rfl rfl 1 (by decide) (List.mem_of_getElem? (i := 2) rfl) rfl rfl dX2_copyFrom_21 ?_
  refine gcV_v (rest := []) X (cR_copyFrom l D cy ad rest u2 36 15 (by decide) (by decide) (by decide)) gy_X4_copyFrom gX2_copyFrom_X4_copyFrom ⟨rfl, rfl, Nat.le_of_ble_eq_true rfl, Nat.le_of_ble_eq_true rfl⟩ 72 rfl rfl rfl hl rfl (Nat.le_of_ble_eq_true rfl) dX2_copyFrom_24 ⟨Nat.zero_le _, Nat.zero_le _⟩ hw (fun u4 H locs hu4 hw => ?_)
  have hu4 : u4 = sR u2 36 (rCopy 60 (u2.1 36) 60 (u2.1 15)) := hu4
  have hF := hF.trans (bnd_eq hu4)
  refine lv_aload_n hx hb dX2_copyFrom_27 rfl (lv_at hl 0 rfl) ?_
  refine g_get (v := .ref (ad 74)) (C := RX2) (T := TX2) (N := 10) (ci := 4) X inX2 hw 100 rfl rfl 2 (by decide) (List.mem_of_getElem? (i := 3) rfl) rfl rfl dX2_copyFrom_28 ?_
  refine lv_aload_n hx hb dX2_copyFrom_31 rfl (lv_at hl 1 rfl) ?_
  refine g_get (v := .ref (ad 32)) (C := RX2) (T := TX2) (N := 10) (ci := 4) X inX2 hw 96 rfl rfl 2 (by decide) (List.mem_of_getElem? (i := 3) rfl) rfl rfl dX2_copyFrom_32 ?_
  refine gcV_v (rest := []) X (cR_copyFrom l D cy ad rest u4 37 16 (by decide) (by decide) (by decide)) gy_X4_copyFrom gX2_copyFrom_X4_copyFrom ⟨rfl, rfl, Nat.le_of_ble_eq_true rfl, Nat.le_of_ble_eq_true rfl⟩ 74 rfl rfl rfl hl rfl (Nat.le_of_ble_eq_true rfl) dX2_copyFrom_35 ⟨Nat.zero_le _, Nat.zero_le _⟩ hw (fun u6 H locs hu6 hw => ?_)
  have hu6 : u6 = sR u4 37 (rCopy 60 (u4.1 37) 60 (u4.1 16)) := hu6
  have hF := hF.trans (bnd_eq hu6)
  refine lv_aload_n hx hb dX2_copyFrom_38 rfl (lv_at hl 0 rfl) ?_
  refine g_get (v := .ref (ad 76)) (C := RX2) (T := TX2) (N := 10) (ci := 4) X inX2 hw 100 rfl rfl 3 (by decide) (List.mem_of_getElem? (i := 4) rfl) rfl rfl dX2_copyFrom_39 ?_
  refine lv_aload_n hx hb dX2_copyFrom_42 rfl (lv_at hl 1 rfl) ?_
  refine g_get (v := .ref (ad 34)) (C := RX2) (T := TX2) (N := 10) (ci := 4) X inX2 hw 96 rfl rfl 3 (by decide) (List.mem_of_getElem? (i := 4) rfl) rfl rfl dX2_copyFrom_43 ?_
  refine gcV_v (rest := []) X (cR_copyFrom l D cy ad rest u6 38 17 (by decide) (by decide) (by decide)) gy_X4_copyFrom gX2_copyFrom_X4_copyFrom ⟨rfl, rfl, Nat.le_of_ble_eq_true rfl, Nat.le_of_ble_eq_true rfl⟩ 76 rfl rfl rfl hl rfl (Nat.le_of_ble_eq_true rfl) dX2_copyFrom_46 ⟨Nat.zero_le _, Nat.zero_le _⟩ hw (fun u8 H locs hu8 hw => ?_)
  have hu8 : u8 = sR u6 38 (rCopy 60 (u6.1 38) 60 (u6.1 17)) := hu8
  have hF := hF.trans (bnd_eq hu8)
  refine lv_aload_n hx hb dX2_copyFrom_49 rfl (lv_at hl 0 rfl) ?_
  refine g_get (v := .ref (ad 78)) (C := RX2) (T := TX2) (N := 10) (ci := 4) X inX2 hw 100 rfl rfl 4 (by decide) (List.mem_of_getElem? (i := 5) rfl) rfl rfl dX2_copyFrom_50 ?_
  refine lv_aload_n hx hb dX2_copyFrom_53 rfl (lv_at hl 1 rfl) ?_
  refine g_get (v := .ref (ad 36)) (C := RX2) (T := TX2) (N := 10) (ci := 4) X inX2 hw 96 rfl rfl 4 (by decide) (List.mem_of_getElem? (i := 5) rfl) rfl rfl dX2_copyFrom_54 ?_
  refine gcV_v (rest := []) X (cR_copyFrom l D cy ad rest u8 39 18 (by decide) (by decide) (by decide)) gy_X4_copyFrom gX2_copyFrom_X4_copyFrom ⟨rfl, rfl, Nat.le_of_ble_eq_true rfl, Nat.le_of_ble_eq_true rfl⟩ 78 rfl rfl rfl hl rfl (Nat.le_of_ble_eq_true rfl) dX2_copyFrom_57 ⟨Nat.zero_le _, Nat.zero_le _⟩ hw (fun u10 H locs hu10 hw => ?_)
  have hu10 : u10 = sR u8 39 (rCopy 60 (u8.1 39) 60 (u8.1 18)) := hu10
  have hF := hF.trans (bnd_eq hu10)
  refine lv_aload_n hx hb dX2_copyFrom_60 rfl (lv_at hl 0 rfl) ?_
  refine g_get (v := .ref (ad 80)) (C := RX2) (T := TX2) (N := 10) (ci := 4) X inX2 hw 100 rfl rfl 5 (by decide) (List.mem_of_getElem? (i := 6) rfl) rfl rfl dX2_copyFrom_61 ?_
  refine lv_aload_n hx hb dX2_copyFrom_64 rfl (lv_at hl 1 rfl) ?_
  refine g_get (v := .ref (ad 38)) (C := RX2) (T := TX2) (N := 10) (ci := 4) X inX2 hw 96 rfl rfl 5 (by decide) (List.mem_of_getElem? (i := 6) rfl) rfl rfl dX2_copyFrom_65 ?_
  refine gcV_v (rest := []) X (cR_copyFrom l D cy ad rest u10 40 19 (by decide) (by decide) (by decide)) gy_X4_copyFrom gX2_copyFrom_X4_copyFrom ⟨rfl, rfl, Nat.le_of_ble_eq_true rfl, Nat.le_of_ble_eq_true rfl⟩ 80 rfl rfl rfl hl rfl (Nat.le_of_ble_eq_true rfl) dX2_copyFrom_68 ⟨Nat.zero_le _, Nat.zero_le _⟩ hw (fun u12 H locs hu12 hw => ?_)
  have hu12 : u12 = sR u10 40 (rCopy 60 (u10.1 40) 60 (u10.1 19)) := hu12
  have hF := hF.trans (bnd_eq hu12)
  refine lv_aload_n hx hb dX2_copyFrom_71 rfl (lv_at hl 0 rfl) ?_
  refine g_get (v := .ref (ad 82)) (C := RX2) (T := TX2) (N := 10) (ci := 4) X inX2 hw 100 rfl rfl 7 (by decide) (List.mem_of_getElem? (i := 7) rfl) rfl rfl dX2_copyFrom_72 ?_
  refine lv_aload_n hx hb dX2_copyFrom_75 rfl (lv_at hl 1 rfl) ?_
  refine g_get (v := .ref (ad 40)) (C := RX2) (T := TX2) (N := 10) (ci := 4) X inX2 hw 96 rfl rfl 7 (by decide) (List.mem_of_getElem? (i := 7) rfl) rfl rfl dX2_copyFrom_76 ?_
  refine gcV_v (rest := []) X (cR_copyFrom l D cy ad rest u12 41 20 (by decide) (by decide) (by decide)) gy_X4_copyFrom gX2_copyFrom_X4_copyFrom ⟨rfl, rfl, Nat.le_of_ble_eq_true rfl, Nat.le_of_ble_eq_true rfl⟩ 82 rfl rfl rfl hl rfl (Nat.le_of_ble_eq_true rfl) dX2_copyFrom_79 ⟨Nat.zero_le _, Nat.zero_le _⟩ hw (fun u14 H locs hu14 hw => ?_)
  have hu14 : u14 = sR u12 41 (rCopy 3 (u12.1 41) 3 (u12.1 20)) := hu14
  have hF := hF.trans (bnd_eq hu14)
  refine lv_aload_n hx hb dX2_copyFrom_82 rfl (lv_at hl 0 rfl) ?_
  refine lv_aload_n hx hb dX2_copyFrom_83 rfl (lv_at hl 1 rfl) ?_
  refine g_get (v := .int (u14.2.1 7)) (C := RX2) (T := TX2) (N := 10) (ci := 4) X inX2 hw 96 rfl rfl 6 (by decide) (List.mem_of_getElem? (i := 8) rfl) rfl rfl dX2_copyFrom_84 ?_
  refine g_put (v := .int (u14.2.1 7)) (C := RX2) (T := TX2) (N := 10) (ci := 4) (w' := CW cy ad (sI u14 16 (u14.2.1 7)) ++ rest) X inX2 tyX2 tyX2_ok nmX2 hw 100 rfl rfl 6 (by decide) (List.mem_of_getElem? (i := 8) rfl) rfl rfl rfl rfl (Nat.le_of_ble_eq_true rfl) rfl dX2_copyFrom_87 (fun H locs hw => ?_)
  obtain ⟨u15, hu15⟩ : ∃ z, z = sI u14 16 (u14.2.1 7) := ⟨_, rfl⟩
  rw [← hu15] at hw
  have hF := hF.trans (bnd_eq hu15)
  refine lv_aload_n hx hb dX2_copyFrom_90 rfl (lv_at hl 0 rfl) ?_
  refine lv_aload_n hx hb dX2_copyFrom_91 rfl (lv_at hl 1 rfl) ?_
  refine g_get (v := .int (u15.2.1 8)) (C := RX2) (T := TX2) (N := 10) (ci := 4) X inX2 hw 96 rfl rfl 8 (by decide) (List.mem_of_getElem? (i := 9) rfl) rfl rfl dX2_copyFrom_92 ?_
  refine g_put (v := .int (u15.2.1 8)) (C := RX2) (T := TX2) (N := 10) (ci := 4) (w' := CW cy ad (sI u15 17 (u15.2.1 8)) ++ rest) X inX2 tyX2 tyX2_ok nmX2 hw 100 rfl rfl 8 (by decide) (List.mem_of_getElem? (i := 9) rfl) rfl rfl rfl rfl (Nat.le_of_ble_eq_true rfl) rfl dX2_copyFrom_95 (fun H locs hw => ?_)
  obtain ⟨u16, hu16⟩ : ∃ z, z = sI u15 17 (u15.2.1 8) := ⟨_, rfl⟩
  rw [← hu16] at hw
  have hF := hF.trans (bnd_eq hu16)
  refine lv_aload_n hx hb dX2_copyFrom_98 rfl (lv_at hl 0 rfl) ?_
  refine lv_aload_n hx hb dX2_copyFrom_99 rfl (lv_at hl 1 rfl) ?_
  refine g_get (v := .long (u16.2.2 0)) (C := RX2) (T := TX2) (N := 10) (ci := 4) X inX2 hw 96 rfl rfl 9 (by decide) (List.mem_of_getElem? (i := 10) rfl) rfl rfl dX2_copyFrom_100 ?_
  refine g_put (v := .long (u16.2.2 0)) (C := RX2) (T := TX2) (N := 10) (ci := 4) (w' := CW cy ad (sL u16 1 (u16.2.2 0)) ++ rest) X inX2 tyX2 tyX2_ok nmX2 hw 100 rfl rfl 9 (by decide) (List.mem_of_getElem? (i := 10) rfl) rfl rfl rfl rfl (Nat.le_of_ble_eq_true rfl) rfl dX2_copyFrom_103 (fun H locs hw => ?_)
  obtain ⟨u17, hu17⟩ : ∃ z, z = sL u16 1 (u16.2.2 0) := ⟨_, rfl⟩
  rw [← hu17] at hw
  have hF := hF.trans (bnd_eq hu17)
  exact hret _ _ _ _ _ dX2_copyFrom_106 (hF.symm.trans hsp) hw
