theorem gy_X0_form : gY yX0_form RX0 cX0_form 4 (some .int) wsX0_form 2 := ⟨⟨_, rfl⟩, rfl, by decide +kernel, by decide +kernel, by decide +kernel⟩
def F_X0_form (C : CS) (q1 : Int32) (q2 : Int32) : Int32 × CS := (bnd (sR C 5 (rPut 100 (C.1 5) (C.2.1 6) q1)) (fun u2 => (bnd (sR u2 6 (rPut 100 (u2.1 6) (C.2.1 6) q2)) (fun u4 => (bnd (sR u4 7 (rPut 100 (u4.1 7) (C.2.1 6) q2)) (fun u6 => (bnd (sR u6 8 (rPut 100 (u6.1 8) (C.2.1 6) 0)) (fun u8 => (bnd (sR u8 9 (rPut 100 (u8.1 9) (C.2.1 6) 0)) (fun u10 => (bnd (sR u10 10 (rPut 100 (u10.1 10) (C.2.1 6) 0)) (fun u12 => (bnd (sI u12 6 (u12.2.1 6 + 1)) (fun u13 => (C.2.1 6, u13)))))))))))))))
abbrev rmX0_form : Room := { frames := 1, cells := 0, slots := 0, locals := 22 }
set_option maxHeartbeats 4000000 in
set_option maxRecDepth 100000 in
theorem c_X0_form (l : Launch) (D : va_G) (cy : Nat → ClassId) (ad : Nat → Nat) (rest : va_W) (C : CS) (q1 : Int32) (q2 : Int32) : GMi l yX0_form wsX0_form rmX0_form D cy [.ref (ad 95), .int q1, .int q2] (CW cy ad C ++ rest) (fun (r : Int32) (u : CS) => r = (F_X0_form C q1 q2).1 ∧ u = (F_X0_form C q1 q2).2) (fun u => CW cy ad u ++ rest) := by
  refine GMi.intro cX0_form 4 RX0 (by decide) rfl rfl (Nat.le_of_ble_eq_true rfl) ?_
  intro p e s m args below meth c A Q ls X hret hl hw
  have hx := X.1
  have hb := X.2.1
  have hl : lv_has ls 4 [(0, .ref (ad 95)), (1, .int q1), (2, .int q2)] := hl
  have inX0 : ∀ w ∈ wsX00, w ∈ wsX0_form := fun w h => List.mem_cons_of_mem _ (List.mem_append_left _ (List.mem_append_left _ (List.mem_append_right _ h)))
  obtain ⟨sp, hsp⟩ : ∃ sp, sp = F_X0_form C q1 q2 := ⟨_, rfl⟩
  have hF := hsp.trans (F_X0_form.eq_1 C q1 q2)
  refine lv_aload_n hx hb dX0_form_0 rfl (lv_at hl 0 rfl) ?_
  refine g_get (v := .int (C.2.1 6)) (C := RX0) (T := TX0) (N := 10) (ci := 2) X inX0 hw 95 rfl rfl 9 (by decide) (List.mem_of_getElem? (i := 1) rfl) rfl rfl dX0_form_1 ?_
  refine lv_istore_n (lv' := [(3, .int (C.2.1 6)), (0, .ref (ad 95)), (1, .int q1), (2, .int q2)]) hx hb dX0_form_4 rfl hl (by decide) rfl (fun ls hl => ?_)
  refine lv_aload_n hx hb dX0_form_5 rfl (lv_at hl 1 rfl) ?_
  refine g_get (v := .ref (ad 10)) (C := RX0) (T := TX0) (N := 10) (ci := 2) X inX0 hw 95 rfl rfl 0 (by decide) (List.mem_of_getElem? (i := 2) rfl) rfl rfl dX0_form_6 ?_
  refine lv_iload_n hx hb dX0_form_9 rfl (lv_at hl 0 rfl) ?_
  refine lv_iload_n hx hb dX0_form_10 rfl (lv_at hl 2 rfl) ?_
  refine gcV_v (rest := []) X (cR_put l D cy ad rest C 5 (by decide) (C.2.1 6) q1) gy_X4_put gX0_form_X4_put ⟨rfl, rfl, Nat.le_of_ble_eq_true rfl, Nat.le_of_ble_eq_true rfl⟩ 10 rfl rfl rfl hl rfl (Nat.le_of_ble_eq_true rfl) dX0_form_11 ⟨Nat.zero_le _, Nat.zero_le _⟩ hw (fun u2 H locs hu2 hw => ?_)
  have hu2 : u2 = sR C 5 (rPut 100 (C.1 5) (C.2.1 6) q1) := hu2
  have hF := hF.trans (bnd_eq hu2)
  refine lv_aload_n hx hb dX0_form_14 rfl (lv_at hl 1 rfl) ?_
  refine g_get (v := .ref (ad 12)) (C := RX0) (T := TX0) (N := 10) (ci := 2) X inX0 hw 95 rfl rfl 1 (by decide) (List.mem_of_getElem? (i := 3) rfl) rfl rfl dX0_form_15 ?_
  refine lv_iload_n hx hb dX0_form_18 rfl (lv_at hl 0 rfl) ?_
  refine lv_iload_n hx hb dX0_form_19 rfl (lv_at hl 3 rfl) ?_
  refine gcV_v (rest := []) X (cR_put l D cy ad rest u2 6 (by decide) (C.2.1 6) q2) gy_X4_put gX0_form_X4_put ⟨rfl, rfl, Nat.le_of_ble_eq_true rfl, Nat.le_of_ble_eq_true rfl⟩ 12 rfl rfl rfl hl rfl (Nat.le_of_ble_eq_true rfl) dX0_form_20 ⟨Nat.zero_le _, Nat.zero_le _⟩ hw (fun u4 H locs hu4 hw => ?_)
  have hu4 : u4 = sR u2 6 (rPut 100 (u2.1 6) (C.2.1 6) q2) := hu4
  have hF := hF.trans (bnd_eq hu4)
  refine lv_aload_n hx hb dX0_form_23 rfl (lv_at hl 1 rfl) ?_
  refine g_get (v := .ref (ad 14)) (C := RX0) (T := TX0) (N := 10) (ci := 2) X inX0 hw 95 rfl rfl 2 (by decide) (List.mem_of_getElem? (i := 4) rfl) rfl rfl dX0_form_24 ?_
  refine lv_iload_n hx hb dX0_form_27 rfl (lv_at hl 0 rfl) ?_
  refine lv_iload_n hx hb dX0_form_28 rfl (lv_at hl 3 rfl) ?_
  refine gcV_v (rest := []) X (cR_put l D cy ad rest u4 7 (by decide) (C.2.1 6) q2) gy_X4_put gX0_form_X4_put ⟨rfl, rfl, Nat.le_of_ble_eq_true rfl, Nat.le_of_ble_eq_true rfl⟩ 14 rfl rfl rfl hl rfl (Nat.le_of_ble_eq_true rfl) dX0_form_29 ⟨Nat.zero_le _, Nat.zero_le _⟩ hw (fun u6 H locs hu6 hw => ?_)
  have hu6 : u6 = sR u4 7 (rPut 100 (u4.1 7) (C.2.1 6) q2) := hu6
  have hF := hF.trans (bnd_eq hu6)
  refine lv_aload_n hx hb dX0_form_32 rfl (lv_at hl 1 rfl) ?_
  refine g_get (v := .ref (ad 16)) (C := RX0) (T := TX0) (N := 10) (ci := 2) X inX0 hw 95 rfl rfl 3 (by decide) (List.mem_of_getElem? (i := 5) rfl) rfl rfl dX0_form_33 ?_
  refine lv_iload_n hx hb dX0_form_36 rfl (lv_at hl 0 rfl) ?_
  refine lv_iconst (v := 0) hx hb dX0_form_37 (by decide) ?_
  refine gcV_v (rest := []) X (cR_put l D cy ad rest u6 8 (by decide) (C.2.1 6) 0) gy_X4_put gX0_form_X4_put ⟨rfl, rfl, Nat.le_of_ble_eq_true rfl, Nat.le_of_ble_eq_true rfl⟩ 16 rfl rfl rfl hl rfl (Nat.le_of_ble_eq_true rfl) dX0_form_38 ⟨Nat.zero_le _, Nat.zero_le _⟩ hw (fun u8 H locs hu8 hw => ?_)
  have hu8 : u8 = sR u6 8 (rPut 100 (u6.1 8) (C.2.1 6) 0) := hu8
  have hF := hF.trans (bnd_eq hu8)
  refine lv_aload_n hx hb dX0_form_41 rfl (lv_at hl 1 rfl) ?_
  refine g_get (v := .ref (ad 18)) (C := RX0) (T := TX0) (N := 10) (ci := 2) X inX0 hw 95 rfl rfl 4 (by decide) (List.mem_of_getElem? (i := 6) rfl) rfl rfl dX0_form_42 ?_
  refine lv_iload_n hx hb dX0_form_45 rfl (lv_at hl 0 rfl) ?_
  refine lv_iconst (v := 0) hx hb dX0_form_46 (by decide) ?_
  refine gcV_v (rest := []) X (cR_put l D cy ad rest u8 9 (by decide) (C.2.1 6) 0) gy_X4_put gX0_form_X4_put ⟨rfl, rfl, Nat.le_of_ble_eq_true rfl, Nat.le_of_ble_eq_true rfl⟩ 18 rfl rfl rfl hl rfl (Nat.le_of_ble_eq_true rfl) dX0_form_47 ⟨Nat.zero_le _, Nat.zero_le _⟩ hw (fun u10 H locs hu10 hw => ?_)
  have hu10 : u10 = sR u8 9 (rPut 100 (u8.1 9) (C.2.1 6) 0) := hu10
  have hF := hF.trans (bnd_eq hu10)
  refine lv_aload_n hx hb dX0_form_50 rfl (lv_at hl 1 rfl) ?_
  refine g_get (v := .ref (ad 20)) (C := RX0) (T := TX0) (N := 10) (ci := 2) X inX0 hw 95 rfl rfl 5 (by decide) (List.mem_of_getElem? (i := 7) rfl) rfl rfl dX0_form_51 ?_
  refine lv_iload_n hx hb dX0_form_54 rfl (lv_at hl 0 rfl) ?_
  refine lv_iconst (v := 0) hx hb dX0_form_55 (by decide) ?_
  refine gcV_v (rest := []) X (cR_put l D cy ad rest u10 10 (by decide) (C.2.1 6) 0) gy_X4_put gX0_form_X4_put ⟨rfl, rfl, Nat.le_of_ble_eq_true rfl, Nat.le_of_ble_eq_true rfl⟩ 20 rfl rfl rfl hl rfl (Nat.le_of_ble_eq_true rfl) dX0_form_56 ⟨Nat.zero_le _, Nat.zero_le _⟩ hw (fun u12 H locs hu12 hw => ?_)
  have hu12 : u12 = sR u10 10 (rPut 100 (u10.1 10) (C.2.1 6) 0) := hu12
  have hF := hF.trans (bnd_eq hu12)
  refine lv_aload_n hx hb dX0_form_59 rfl (lv_at hl 1 rfl) ?_
  refine lv_dup hx hb dX0_form_60 rfl ?_
  refine g_get (v := .int (u12.2.1 6)) (C := RX0) (T := TX0) (N := 10) (ci := 2) X inX0 hw 95 rfl rfl 9 (by decide) (List.mem_of_getElem? (i := 1) rfl) rfl rfl dX0_form_61 ?_
  refine lv_iconst (v := 1) hx hb dX0_form_64 (by decide) ?_
  refine lv_iadd hx hb dX0_form_65 ?_
  refine g_put (v := .int (u12.2.1 6 + 1)) (C := RX0) (T := TX0) (N := 10) (ci := 2) (w' := CW cy ad (sI u12 6 (u12.2.1 6 + 1)) ++ rest) X inX0 tyX0 tyX0_ok nmX0 hw 95 rfl rfl 9 (by decide) (List.mem_of_getElem? (i := 1) rfl) rfl rfl rfl rfl (Nat.le_of_ble_eq_true rfl) rfl dX0_form_66 (fun H locs hw => ?_)
  obtain ⟨u13, hu13⟩ : ∃ z, z = sI u12 6 (u12.2.1 6 + 1) := ⟨_, rfl⟩
  rw [← hu13] at hw
  have hF := hF.trans (bnd_eq hu13)
  refine lv_iload_n hx hb dX0_form_69 rfl (lv_at hl 0 rfl) ?_
  exact hret _ _ _ _ _ _ dX0_form_70 ⟨congrArg Prod.fst (hF.symm.trans hsp), congrArg Prod.snd (hF.symm.trans hsp)⟩ hw
theorem gy_X0_stands : gY yX0_stands RX0 cX0_stands 2 (some .boolean) wsX0_stands 1 := ⟨⟨_, rfl⟩, rfl, by decide +kernel, by decide +kernel, by decide +kernel⟩
def F_X0_stands (C : CS) (q1 : Int32) : Int32 := (if q1 < 0 then 0 else (if C.2.1 6 ≤ q1 then 0 else (bnd (rAt 100 (C.1 8) q1) (fun r3 => (if r3 = 2 then 0 else 1)))))
abbrev rmX0_stands : Room := { frames := 1, cells := 0, slots := 0, locals := 21 }
set_option maxHeartbeats 4000000 in
set_option maxRecDepth 100000 in
theorem c_X0_stands (l : Launch) (D : va_G) (cy : Nat → ClassId) (ad : Nat → Nat) (rest : va_W) (C : CS) (q1 : Int32) : GMi l yX0_stands wsX0_stands rmX0_stands D cy [.ref (ad 95), .int q1] (CW cy ad C ++ rest) (fun (r : Int32) (_ : Unit) => r = F_X0_stands C q1 ∧ (r = 0 ∨ r = 1)) (fun _ => CW cy ad C ++ rest) := by
  refine GMz.intro cX0_stands 2 RX0 (by decide) rfl rfl (Nat.le_of_ble_eq_true rfl) ?_
  intro p e s m args below meth c A Q ls X hret hl hw
  have hx := X.1
  have hb := X.2.1
  have hl : lv_has ls 2 [(0, .ref (ad 95)), (1, .int q1)] := hl
  have inX0 : ∀ w ∈ wsX00, w ∈ wsX0_stands := fun w h => List.mem_cons_of_mem _ (List.mem_append_left _ (List.mem_append_left _ (List.mem_append_right _ h)))
  obtain ⟨sp, hsp⟩ : ∃ sp, sp = F_X0_stands C q1 := ⟨_, rfl⟩
  have hF := hsp.trans (F_X0_stands.eq_1 C q1)
  refine lv_iload_n hx hb dX0_stands_0 rfl (lv_at hl 1 rfl) ?_
  refine lv_if_lt (tgt := 28) hx hb dX0_stands_1 (by decide) (fun c1 => ?_) (fun c1 => ?_)
  · skip
    have hF := hF.trans (if_pos c1)
    refine lv_iconst (v := 0) hx hb dX0_stands_28 (by decide) ?_
    exact hret _ _ () _ _ _ dX0_stands_29 (Or.inl rfl) ⟨hF.symm.trans hsp, (Or.inl rfl)⟩ hw
  · skip
    have hF := hF.trans (if_neg c1)
    refine lv_iload_n hx hb dX0_stands_4 rfl (lv_at hl 1 rfl) ?_
    refine lv_aload_n hx hb dX0_stands_5 rfl (lv_at hl 0 rfl) ?_
    refine g_get (v := .int (C.2.1 6)) (C := RX0) (T := TX0) (N := 10) (ci := 2) X inX0 hw 95 rfl rfl 9 (by decide) (List.mem_of_getElem? (i := 1) rfl) rfl rfl dX0_stands_6 ?_
    refine lv_icmp_ge (tgt := 28) hx hb dX0_stands_9 (by decide) (fun c2 => ?_) (fun c2 => ?_)
    · skip
      have hF := hF.trans (if_pos c2)
      refine lv_iconst (v := 0) hx hb dX0_stands_28 (by decide) ?_
      exact hret _ _ () _ _ _ dX0_stands_29 (Or.inl rfl) ⟨hF.symm.trans hsp, (Or.inl rfl)⟩ hw
    · skip
      have hF := hF.trans (if_neg c2)
      refine lv_aload_n hx hb dX0_stands_12 rfl (lv_at hl 0 rfl) ?_
      refine g_get (v := .ref (ad 16)) (C := RX0) (T := TX0) (N := 10) (ci := 2) X inX0 hw 95 rfl rfl 3 (by decide) (List.mem_of_getElem? (i := 2) rfl) rfl rfl dX0_stands_13 ?_
      refine lv_iload_n hx hb dX0_stands_16 rfl (lv_at hl 1 rfl) ?_
      refine gcV_i (rest := []) X (cR_at l D cy ad rest C 8 (by decide) q1) gy_X4_at gX0_stands_X4_at ⟨rfl, rfl, Nat.le_of_ble_eq_true rfl, Nat.le_of_ble_eq_true rfl⟩ 16 rfl rfl rfl hl rfl (Nat.le_of_ble_eq_true rfl) dX0_stands_17 ⟨Nat.zero_le _, Nat.zero_le _⟩ hw (fun r3 _ H locs hr3 hw => ?_)
      have hr3 : r3 = rAt 100 (C.1 8) q1 := hr3
      have hF := hF.trans (bnd_eq hr3)
      refine lv_iconst (v := 2) hx hb dX0_stands_20 (by decide) ?_
      refine lv_icmp_eq (tgt := 28) hx hb dX0_stands_21 (by decide) (fun c5 => ?_) (fun c5 => ?_)
      · skip
        have hF := hF.trans (if_pos c5)
        refine lv_iconst (v := 0) hx hb dX0_stands_28 (by decide) ?_
        exact hret _ _ () _ _ _ dX0_stands_29 (Or.inl rfl) ⟨hF.symm.trans hsp, (Or.inl rfl)⟩ hw
      · skip
        have hF := hF.trans (if_neg c5)
        refine lv_iconst (v := 1) hx hb dX0_stands_24 (by decide) ?_
        refine lv_goto (tgt := 29) hx hb dX0_stands_25 (by decide) ?_
        exact hret _ _ () _ _ _ dX0_stands_29 (Or.inr rfl) ⟨hF.symm.trans hsp, (Or.inr rfl)⟩ hw
theorem gy_X0_isOpen : gY yX0_isOpen RX0 cX0_isOpen 2 (some .boolean) wsX0_isOpen 1 := ⟨⟨_, rfl⟩, rfl, by decide +kernel, by decide +kernel, by decide +kernel⟩
def F_X0_isOpen (C : CS) (q1 : Int32) : Int32 := (if q1 < 0 then 0 else (if C.2.1 6 ≤ q1 then 0 else (bnd (rAt 100 (C.1 8) q1) (fun r3 => (if r3 = 0 then 1 else 0)))))
abbrev rmX0_isOpen : Room := { frames := 1, cells := 0, slots := 0, locals := 21 }
set_option maxHeartbeats 4000000 in
set_option maxRecDepth 100000 in
theorem c_X0_isOpen (l : Launch) (D : va_G) (cy : Nat → ClassId) (ad : Nat → Nat) (rest : va_W) (C : CS) (q1 : Int32) : GMi l yX0_isOpen wsX0_isOpen rmX0_isOpen D cy [.ref (ad 95), .int q1] (CW cy ad C ++ rest) (fun (r : Int32) (_ : Unit) => r = F_X0_isOpen C q1 ∧ (r = 0 ∨ r = 1)) (fun _ => CW cy ad C ++ rest) := by
  refine GMz.intro cX0_isOpen 2 RX0 (by decide) rfl rfl (Nat.le_of_ble_eq_true rfl) ?_
  intro p e s m args below meth c A Q ls X hret hl hw
  have hx := X.1
  have hb := X.2.1
  have hl : lv_has ls 2 [(0, .ref (ad 95)), (1, .int q1)] := hl
  have inX0 : ∀ w ∈ wsX00, w ∈ wsX0_isOpen := fun w h => List.mem_cons_of_mem _ (List.mem_append_left _ (List.mem_append_left _ (List.mem_append_right _ h)))
  obtain ⟨sp, hsp⟩ : ∃ sp, sp = F_X0_isOpen C q1 := ⟨_, rfl⟩
  have hF := hsp.trans (F_X0_isOpen.eq_1 C q1)
  refine lv_iload_n hx hb dX0_isOpen_0 rfl (lv_at hl 1 rfl) ?_
  refine lv_if_lt (tgt := 27) hx hb dX0_isOpen_1 (by decide) (fun c1 => ?_) (fun c1 => ?_)
  · skip
    have hF := hF.trans (if_pos c1)
    refine lv_iconst (v := 0) hx hb dX0_isOpen_27 (by decide) ?_
    exact hret _ _ () _ _ _ dX0_isOpen_28 (Or.inl rfl) ⟨hF.symm.trans hsp, (Or.inl rfl)⟩ hw
  · skip
    have hF := hF.trans (if_neg c1)
    refine lv_iload_n hx hb dX0_isOpen_4 rfl (lv_at hl 1 rfl) ?_
    refine lv_aload_n hx hb dX0_isOpen_5 rfl (lv_at hl 0 rfl) ?_
    refine g_get (v := .int (C.2.1 6)) (C := RX0) (T := TX0) (N := 10) (ci := 2) X inX0 hw 95 rfl rfl 9 (by decide) (List.mem_of_getElem? (i := 1) rfl) rfl rfl dX0_isOpen_6 ?_
    refine lv_icmp_ge (tgt := 27) hx hb dX0_isOpen_9 (by decide) (fun c2 => ?_) (fun c2 => ?_)
    · skip
      have hF := hF.trans (if_pos c2)
      refine lv_iconst (v := 0) hx hb dX0_isOpen_27 (by decide) ?_
      exact hret _ _ () _ _ _ dX0_isOpen_28 (Or.inl rfl) ⟨hF.symm.trans hsp, (Or.inl rfl)⟩ hw
    · skip
      have hF := hF.trans (if_neg c2)
      refine lv_aload_n hx hb dX0_isOpen_12 rfl (lv_at hl 0 rfl) ?_
      refine g_get (v := .ref (ad 16)) (C := RX0) (T := TX0) (N := 10) (ci := 2) X inX0 hw 95 rfl rfl 3 (by decide) (List.mem_of_getElem? (i := 2) rfl) rfl rfl dX0_isOpen_13 ?_
      refine lv_iload_n hx hb dX0_isOpen_16 rfl (lv_at hl 1 rfl) ?_
      refine gcV_i (rest := []) X (cR_at l D cy ad rest C 8 (by decide) q1) gy_X4_at gX0_isOpen_X4_at ⟨rfl, rfl, Nat.le_of_ble_eq_true rfl, Nat.le_of_ble_eq_true rfl⟩ 16 rfl rfl rfl hl rfl (Nat.le_of_ble_eq_true rfl) dX0_isOpen_17 ⟨Nat.zero_le _, Nat.zero_le _⟩ hw (fun r3 _ H locs hr3 hw => ?_)
      have hr3 : r3 = rAt 100 (C.1 8) q1 := hr3
      have hF := hF.trans (bnd_eq hr3)
      refine lv_if_ne (tgt := 27) hx hb dX0_isOpen_20 (by decide) (fun c5 => ?_) (fun c5 => ?_)
      · skip
        have hF := hF.trans (if_neg c5)
        refine lv_iconst (v := 0) hx hb dX0_isOpen_27 (by decide) ?_
        exact hret _ _ () _ _ _ dX0_isOpen_28 (Or.inl rfl) ⟨hF.symm.trans hsp, (Or.inl rfl)⟩ hw
      · skip
        have hF := hF.trans (if_pos c5)
        refine lv_iconst (v := 1) hx hb dX0_isOpen_23 (by decide) ?_
        refine lv_goto (tgt := 28) hx hb dX0_isOpen_24 (by decide) ?_
        exact hret _ _ () _ _ _ dX0_isOpen_28 (Or.inr rfl) ⟨hF.symm.trans hsp, (Or.inr rfl)⟩ hw
theorem gy_X0_standsOfKey : gY yX0_standsOfKey RX0 cX0_standsOfKey 3 (some .boolean) wsX0_standsOfKey 2 := ⟨⟨_, rfl⟩, rfl, by decide +kernel, by decide +kernel, by decide +kernel⟩
def F_X0_standsOfKey (C : CS) (q1 : Int32) (q2 : Int32) : Int32 := (bnd (F_X0_stands C q1) (fun r1 => (if r1 = 0 then 0 else (bnd (rAt 100 (C.1 5) q1) (fun r4 => (if r4 = q2 then 1 else 0))))))
abbrev rmX0_standsOfKey : Room := { frames := 2, cells := 0, slots := 0, locals := 42 }
set_option maxHeartbeats 4000000 in
set_option maxRecDepth 100000 in
theorem c_X0_standsOfKey (l : Launch) (D : va_G) (cy : Nat → ClassId) (ad : Nat → Nat) (rest : va_W) (C : CS) (q1 : Int32) (q2 : Int32) : GMi l yX0_standsOfKey wsX0_standsOfKey rmX0_standsOfKey D cy [.ref (ad 95), .int q1, .int q2] (CW cy ad C ++ rest) (fun (r : Int32) (_ : Unit) => r = F_X0_standsOfKey C q1 q2 ∧ (r = 0 ∨ r = 1)) (fun _ => CW cy ad C ++ rest) := by
  refine GMz.intro cX0_standsOfKey 3 RX0 (by decide) rfl rfl (Nat.le_of_ble_eq_true rfl) ?_
  intro p e s m args below meth c A Q ls X hret hl hw
  have hx := X.1
  have hb := X.2.1
  have hl : lv_has ls 3 [(0, .ref (ad 95)), (1, .int q1), (2, .int q2)] := hl
  have inX0 : ∀ w ∈ wsX00, w ∈ wsX0_standsOfKey := fun w h => List.mem_cons_of_mem _ (List.mem_append_left _ (List.mem_append_left _ (List.mem_append_right _ h)))
  obtain ⟨sp, hsp⟩ : ∃ sp, sp = F_X0_standsOfKey C q1 q2 := ⟨_, rfl⟩
  have hF := hsp.trans (F_X0_standsOfKey.eq_1 C q1 q2)
  refine lv_aload_n hx hb dX0_standsOfKey_0 rfl (lv_at hl 0 rfl) ?_
  refine lv_iload_n hx hb dX0_standsOfKey_1 rfl (lv_at hl 1 rfl) ?_
  refine gcV_i (rest := []) X (c_X0_stands l D cy ad rest C q1) gy_X0_stands gX0_standsOfKey_X0_stands ⟨rfl, rfl, Nat.le_of_ble_eq_true rfl, Nat.le_of_ble_eq_true rfl⟩ 95 rfl rfl rfl hl rfl (Nat.le_of_ble_eq_true rfl) dX0_standsOfKey_2 ⟨Nat.zero_le _, Nat.zero_le _⟩ hw (fun r1 _ H locs hr1 hw => ?_)
  obtain ⟨hr1, zr1⟩ : r1 = F_X0_stands C q1 ∧ (r1 = 0 ∨ r1 = 1) := hr1
  have hF := hF.trans (bnd_eq hr1)
  refine lv_if_eq (tgt := 24) hx hb dX0_standsOfKey_5 (by decide) (fun c3 => ?_) (fun c3 => ?_)
  · skip
    have hF := hF.trans (if_pos c3)
    refine lv_iconst (v := 0) hx hb dX0_standsOfKey_24 (by decide) ?_
    exact hret _ _ () _ _ _ dX0_standsOfKey_25 (Or.inl rfl) ⟨hF.symm.trans hsp, (Or.inl rfl)⟩ hw
  · skip
    have hF := hF.trans (if_neg c3)
    refine lv_aload_n hx hb dX0_standsOfKey_8 rfl (lv_at hl 0 rfl) ?_
    refine g_get (v := .ref (ad 10)) (C := RX0) (T := TX0) (N := 10) (ci := 2) X inX0 hw 95 rfl rfl 0 (by decide) (List.mem_of_getElem? (i := 1) rfl) rfl rfl dX0_standsOfKey_9 ?_
    refine lv_iload_n hx hb dX0_standsOfKey_12 rfl (lv_at hl 1 rfl) ?_
    refine gcV_i (rest := []) X (cR_at l D cy ad rest C 5 (by decide) q1) gy_X4_at gX0_standsOfKey_X4_at ⟨rfl, rfl, Nat.le_of_ble_eq_true rfl, Nat.le_of_ble_eq_true rfl⟩ 10 rfl rfl rfl hl rfl (Nat.le_of_ble_eq_true rfl) dX0_standsOfKey_13 ⟨Nat.zero_le _, Nat.zero_le _⟩ hw (fun r4 _ H locs hr4 hw => ?_)
    have hr4 : r4 = rAt 100 (C.1 5) q1 := hr4
    have hF := hF.trans (bnd_eq hr4)
    refine lv_iload_n hx hb dX0_standsOfKey_16 rfl (lv_at hl 2 rfl) ?_
    refine lv_icmp_ne (tgt := 24) hx hb dX0_standsOfKey_17 (by decide) (fun c6 => ?_) (fun c6 => ?_)
    · skip
      have hF := hF.trans (if_neg c6)
      refine lv_iconst (v := 0) hx hb dX0_standsOfKey_24 (by decide) ?_
      exact hret _ _ () _ _ _ dX0_standsOfKey_25 (Or.inl rfl) ⟨hF.symm.trans hsp, (Or.inl rfl)⟩ hw
    · skip
      have hF := hF.trans (if_pos c6)
      refine lv_iconst (v := 1) hx hb dX0_standsOfKey_20 (by decide) ?_
      refine lv_goto (tgt := 25) hx hb dX0_standsOfKey_21 (by decide) ?_
      exact hret _ _ () _ _ _ dX0_standsOfKey_25 (Or.inr rfl) ⟨hF.symm.trans hsp, (Or.inr rfl)⟩ hw
theorem gy_X0_isOpenOfKey : gY yX0_isOpenOfKey RX0 cX0_isOpenOfKey 3 (some .boolean) wsX0_isOpenOfKey 2 := ⟨⟨_, rfl⟩, rfl, by decide +kernel, by decide +kernel, by decide +kernel⟩
def F_X0_isOpenOfKey (C : CS) (q1 : Int32) (q2 : Int32) : Int32 := (if q1 < 0 then 0 else (if C.2.1 6 ≤ q1 then 0 else (bnd (rAt 100 (C.1 8) q1) (fun r3 => (if r3 = 0 then (bnd (rAt 100 (C.1 5) q1) (fun r6 => (if r6 = q2 then 1 else 0))) else 0)))))
abbrev rmX0_isOpenOfKey : Room := { frames := 1, cells := 0, slots := 0, locals := 21 }
set_option maxHeartbeats 4000000 in
set_option maxRecDepth 100000 in
theorem c_X0_isOpenOfKey (l : Launch) (D : va_G) (cy : Nat → ClassId) (ad : Nat → Nat) (rest : va_W) (C : CS) (q1 : Int32) (q2 : Int32) : GMi l yX0_isOpenOfKey wsX0_isOpenOfKey rmX0_isOpenOfKey D cy [.ref (ad 95), .int q1, .int q2] (CW cy ad C ++ rest) (fun (r : Int32) (_ : Unit) => r = F_X0_isOpenOfKey C q1 q2 ∧ (r = 0 ∨ r = 1)) (fun _ => CW cy ad C ++ rest) := by
  refine GMz.intro cX0_isOpenOfKey 3 RX0 (by decide) rfl rfl (Nat.le_of_ble_eq_true rfl) ?_
  intro p e s m args below meth c A Q ls X hret hl hw
  have hx := X.1
  have hb := X.2.1
  have hl : lv_has ls 3 [(0, .ref (ad 95)), (1, .int q1), (2, .int q2)] := hl
  have inX0 : ∀ w ∈ wsX00, w ∈ wsX0_isOpenOfKey := fun w h => List.mem_cons_of_mem _ (List.mem_append_left _ (List.mem_append_left _ (List.mem_append_right _ h)))
  obtain ⟨sp, hsp⟩ : ∃ sp, sp = F_X0_isOpenOfKey C q1 q2 := ⟨_, rfl⟩
  have hF := hsp.trans (F_X0_isOpenOfKey.eq_1 C q1 q2)
  refine lv_iload_n hx hb dX0_isOpenOfKey_0 rfl (lv_at hl 1 rfl) ?_
  refine lv_if_lt (tgt := 39) hx hb dX0_isOpenOfKey_1 (by decide) (fun c1 => ?_) (fun c1 => ?_)
  · skip
    have hF := hF.trans (if_pos c1)
    refine lv_iconst (v := 0) hx hb dX0_isOpenOfKey_39 (by decide) ?_
    exact hret _ _ () _ _ _ dX0_isOpenOfKey_40 (Or.inl rfl) ⟨hF.symm.trans hsp, (Or.inl rfl)⟩ hw
  · skip
    have hF := hF.trans (if_neg c1)
    refine lv_iload_n hx hb dX0_isOpenOfKey_4 rfl (lv_at hl 1 rfl) ?_
    refine lv_aload_n hx hb dX0_isOpenOfKey_5 rfl (lv_at hl 0 rfl) ?_
    refine g_get (v := .int (C.2.1 6)) (C := RX0) (T := TX0) (N := 10) (ci := 2) X inX0 hw 95 rfl rfl 9 (by decide) (List.mem_of_getElem? (i := 1) rfl) rfl rfl dX0_isOpenOfKey_6 ?_
    refine lv_icmp_ge (tgt := 39) hx hb dX0_isOpenOfKey_9 (by decide) (fun c2 => ?_) (fun c2 => ?_)
    · skip
      have hF := hF.trans (if_pos c2)
      refine lv_iconst (v := 0) hx hb dX0_isOpenOfKey_39 (by decide) ?_
      exact hret _ _ () _ _ _ dX0_isOpenOfKey_40 (Or.inl rfl) ⟨hF.symm.trans hsp, (Or.inl rfl)⟩ hw
    · skip
      have hF := hF.trans (if_neg c2)
      refine lv_aload_n hx hb dX0_isOpenOfKey_12 rfl (lv_at hl 0 rfl) ?_
      refine g_get (v := .ref (ad 16)) (C := RX0) (T := TX0) (N := 10) (ci := 2) X inX0 hw 95 rfl rfl 3 (by decide) (List.mem_of_getElem? (i := 2) rfl) rfl rfl dX0_isOpenOfKey_13 ?_
      refine lv_iload_n hx hb dX0_isOpenOfKey_16 rfl (lv_at hl 1 rfl) ?_
      refine gcV_i (rest := []) X (cR_at l D cy ad rest C 8 (by decide) q1) gy_X4_at gX0_isOpenOfKey_X4_at ⟨rfl, rfl, Nat.le_of_ble_eq_true rfl, Nat.le_of_ble_eq_true rfl⟩ 16 rfl rfl rfl hl rfl (Nat.le_of_ble_eq_true rfl) dX0_isOpenOfKey_17 ⟨Nat.zero_le _, Nat.zero_le _⟩ hw (fun r3 _ H locs hr3 hw => ?_)
      have hr3 : r3 = rAt 100 (C.1 8) q1 := hr3
      have hF := hF.trans (bnd_eq hr3)
      refine lv_if_ne (tgt := 39) hx hb dX0_isOpenOfKey_20 (by decide) (fun c5 => ?_) (fun c5 => ?_)
      · skip
        have hF := hF.trans (if_neg c5)
        refine lv_iconst (v := 0) hx hb dX0_isOpenOfKey_39 (by decide) ?_
        exact hret _ _ () _ _ _ dX0_isOpenOfKey_40 (Or.inl rfl) ⟨hF.symm.trans hsp, (Or.inl rfl)⟩ hw
      · skip
        have hF := hF.trans (if_pos c5)
        refine lv_aload_n hx hb dX0_isOpenOfKey_23 rfl (lv_at hl 0 rfl) ?_
        refine g_get (v := .ref (ad 10)) (C := RX0) (T := TX0) (N := 10) (ci := 2) X inX0 hw 95 rfl rfl 0 (by decide) (List.mem_of_getElem? (i := 3) rfl) rfl rfl dX0_isOpenOfKey_24 ?_
        refine lv_iload_n hx hb dX0_isOpenOfKey_27 rfl (lv_at hl 1 rfl) ?_
        refine gcV_i (rest := []) X (cR_at l D cy ad rest C 5 (by decide) q1) gy_X4_at gX0_isOpenOfKey_X4_at ⟨rfl, rfl, Nat.le_of_ble_eq_true rfl, Nat.le_of_ble_eq_true rfl⟩ 10 rfl rfl rfl hl rfl (Nat.le_of_ble_eq_true rfl) dX0_isOpenOfKey_28 ⟨Nat.zero_le _, Nat.zero_le _⟩ hw (fun r6 _ H locs hr6 hw => ?_)
        have hr6 : r6 = rAt 100 (C.1 5) q1 := hr6
        have hF := hF.trans (bnd_eq hr6)
        refine lv_iload_n hx hb dX0_isOpenOfKey_31 rfl (lv_at hl 2 rfl) ?_
        refine lv_icmp_ne (tgt := 39) hx hb dX0_isOpenOfKey_32 (by decide) (fun c8 => ?_) (fun c8 => ?_)
        · skip
          have hF := hF.trans (if_neg c8)
          refine lv_iconst (v := 0) hx hb dX0_isOpenOfKey_39 (by decide) ?_
          exact hret _ _ () _ _ _ dX0_isOpenOfKey_40 (Or.inl rfl) ⟨hF.symm.trans hsp, (Or.inl rfl)⟩ hw
        · skip
          have hF := hF.trans (if_pos c8)
          refine lv_iconst (v := 1) hx hb dX0_isOpenOfKey_35 (by decide) ?_
          refine lv_goto (tgt := 40) hx hb dX0_isOpenOfKey_36 (by decide) ?_
          exact hret _ _ () _ _ _ dX0_isOpenOfKey_40 (Or.inr rfl) ⟨hF.symm.trans hsp, (Or.inr rfl)⟩ hw
theorem gy_X0_hasFired : gY yX0_hasFired RX0 cX0_hasFired 2 (some .boolean) wsX0_hasFired 1 := ⟨⟨_, rfl⟩, rfl, by decide +kernel, by decide +kernel, by decide +kernel⟩
def F_X0_hasFired (C : CS) (q1 : Int32) : Int32 := (bnd (rAt 100 (C.1 10) q1) (fun r1 => (if r1 = 1 then 1 else 0)))
abbrev rmX0_hasFired : Room := { frames := 1, cells := 0, slots := 0, locals := 21 }
set_option maxHeartbeats 4000000 in
set_option maxRecDepth 100000 in
theorem c_X0_hasFired (l : Launch) (D : va_G) (cy : Nat → ClassId) (ad : Nat → Nat) (rest : va_W) (C : CS) (q1 : Int32) : GMi l yX0_hasFired wsX0_hasFired rmX0_hasFired D cy [.ref (ad 95), .int q1] (CW cy ad C ++ rest) (fun (r : Int32) (_ : Unit) => r = F_X0_hasFired C q1 ∧ (r = 0 ∨ r = 1)) (fun _ => CW cy ad C ++ rest) := by
  refine GMz.intro cX0_hasFired 2 RX0 (by decide) rfl rfl (Nat.le_of_ble_eq_true rfl) ?_
  intro p e s m args below meth c A Q ls X hret hl hw
  have hx := X.1
  have hb := X.2.1
  have hl : lv_has ls 2 [(0, .ref (ad 95)), (1, .int q1)] := hl
  have inX0 : ∀ w ∈ wsX00, w ∈ wsX0_hasFired := fun w h => List.mem_cons_of_mem _ (List.mem_append_left _ (List.mem_append_left _ (List.mem_append_right _ h)))
  obtain ⟨sp, hsp⟩ : ∃ sp, sp = F_X0_hasFired C q1 := ⟨_, rfl⟩
  have hF := hsp.trans (F_X0_hasFired.eq_1 C q1)
  refine lv_aload_n hx hb dX0_hasFired_0 rfl (lv_at hl 0 rfl) ?_
  refine g_get (v := .ref (ad 20)) (C := RX0) (T := TX0) (N := 10) (ci := 2) X inX0 hw 95 rfl rfl 5 (by decide) (List.mem_of_getElem? (i := 1) rfl) rfl rfl dX0_hasFired_1 ?_
  refine lv_iload_n hx hb dX0_hasFired_4 rfl (lv_at hl 1 rfl) ?_
  refine gcV_i (rest := []) X (cR_at l D cy ad rest C 10 (by decide) q1) gy_X4_at gX0_hasFired_X4_at ⟨rfl, rfl, Nat.le_of_ble_eq_true rfl, Nat.le_of_ble_eq_true rfl⟩ 20 rfl rfl rfl hl rfl (Nat.le_of_ble_eq_true rfl) dX0_hasFired_5 ⟨Nat.zero_le _, Nat.zero_le _⟩ hw (fun r1 _ H locs hr1 hw => ?_)
  have hr1 : r1 = rAt 100 (C.1 10) q1 := hr1
  have hF := hF.trans (bnd_eq hr1)
  refine lv_iconst (v := 1) hx hb dX0_hasFired_8 (by decide) ?_
  refine lv_icmp_ne (tgt := 16) hx hb dX0_hasFired_9 (by decide) (fun c3 => ?_) (fun c3 => ?_)
  · skip
    have hF := hF.trans (if_neg c3)
    refine lv_iconst (v := 0) hx hb dX0_hasFired_16 (by decide) ?_
    exact hret _ _ () _ _ _ dX0_hasFired_17 (Or.inl rfl) ⟨hF.symm.trans hsp, (Or.inl rfl)⟩ hw
  · skip
    have hF := hF.trans (if_pos c3)
    refine lv_iconst (v := 1) hx hb dX0_hasFired_12 (by decide) ?_
    refine lv_goto (tgt := 17) hx hb dX0_hasFired_13 (by decide) ?_
    exact hret _ _ () _ _ _ dX0_hasFired_17 (Or.inr rfl) ⟨hF.symm.trans hsp, (Or.inr rfl)⟩ hw
theorem gy_X0_countPhase : gY yX0_countPhase RX0 cX0_countPhase 4 (some .int) wsX0_countPhase 1 := ⟨⟨_, rfl⟩, rfl, by decide +kernel, by decide +kernel, by decide +kernel⟩
def st_X0_countPhase_4 (q1 : Int32) (C : CS) (v1_3 : Int32) (v1_2 : Int32) : (Int32 × Int32) ⊕ Int32 := (if C.2.1 6 ≤ v1_3 then .inr (v1_2) else (bnd (rAt 100 (C.1 8) v1_3) (fun r3 => (if r3 = q1 then .inl ((v1_3 + 1), (v1_2 + 1)) else .inl ((v1_3 + 1), v1_2)))))
def F_X0_countPhase (C : CS) (q1 : Int32) : Int32 := lp (fun (z : Int32 × Int32) => st_X0_countPhase_4 q1 C z.1 z.2) 0 (((C.2.1 6).toInt - (0 : Int32).toInt).toNat + 1) (0, 0)
abbrev rmX0_countPhase : Room := { frames := 1, cells := 0, slots := 0, locals := 21 }
set_option maxHeartbeats 4000000 in
set_option maxRecDepth 100000 in
theorem c_X0_countPhase (l : Launch) (D : va_G) (cy : Nat → ClassId) (ad : Nat → Nat) (rest : va_W) (C : CS) (q1 : Int32) : GMi l yX0_countPhase wsX0_countPhase rmX0_countPhase D cy [.ref (ad 95), .int q1] (CW cy ad C ++ rest) (fun (r : Int32) (_ : Unit) => r = F_X0_countPhase C q1) (fun _ => CW cy ad C ++ rest) := by
  refine GMi.intro cX0_countPhase 4 RX0 (by decide) rfl rfl (Nat.le_of_ble_eq_true rfl) ?_
  intro p e s m args below meth c A Q ls X hret hl hw
  have hx := X.1
  have hb := X.2.1
  have hl : lv_has ls 4 [(0, .ref (ad 95)), (1, .int q1)] := hl
  have inX0 : ∀ w ∈ wsX00, w ∈ wsX0_countPhase := fun w h => List.mem_cons_of_mem _ (List.mem_append_left _ (List.mem_append_left _ (List.mem_append_right _ h)))
  obtain ⟨sp, hsp⟩ : ∃ sp, sp = F_X0_countPhase C q1 := ⟨_, rfl⟩
  have hF := hsp.trans (F_X0_countPhase.eq_1 C q1)
  refine lv_iconst (v := 0) hx hb dX0_countPhase_0 (by decide) ?_
  refine lv_istore_n (lv' := [(2, .int 0), (0, .ref (ad 95)), (1, .int q1)]) hx hb dX0_countPhase_1 rfl hl (by decide) rfl (fun ls hl => ?_)
  refine lv_iconst (v := 0) hx hb dX0_countPhase_2 (by decide) ?_
  refine lv_istore_n (lv' := [(3, .int 0), (2, .int 0), (0, .ref (ad 95)), (1, .int q1)]) hx hb dX0_countPhase_3 rfl hl (by decide) rfl (fun ls hl => ?_)
  have L1 : ∀ (n1 : Nat) (v1_3 : Int32) (v1_2 : Int32), sp = lp (fun (z : Int32 × Int32) => st_X0_countPhase_4 q1 C z.1 z.2) 0 n1 (v1_3, v1_2) → ((C.2.1 6).toInt - v1_3.toInt).toNat < n1 → ∀ (H : Heap) (locs : List Loc) (ls : Array Slot), lv_has ls 4 [(3, .int v1_3), (2, .int v1_2), (0, .ref (ad 95)), (1, .int q1)] → gw D A s.heap (CW cy ad C ++ rest) H locs → W p l e rmX0_countPhase s m args below meth c H locs 0 0 Q (F0 m 4 ls []) := by
    intro n1
    induction n1 with
    | zero => intro v1_3 v1_2 hF hm1; exact absurd hm1 (Nat.not_lt_zero _)
    | succ n1 ih1 =>
      intro v1_3 v1_2 hF hm1 H locs ls hl hw
      have hT1 := st_X0_countPhase_4.eq_1 q1 C v1_3 v1_2
      refine lv_iload_n hx hb dX0_countPhase_4 rfl (lv_at hl 0 rfl) ?_
      refine lv_aload_n hx hb dX0_countPhase_5 rfl (lv_at hl 2 rfl) ?_
      refine g_get (v := .int (C.2.1 6)) (C := RX0) (T := TX0) (N := 10) (ci := 2) X inX0 hw 95 rfl rfl 9 (by decide) (List.mem_of_getElem? (i := 1) rfl) rfl rfl dX0_countPhase_6 ?_
      refine lv_icmp_ge (tgt := 33) hx hb dX0_countPhase_9 (by decide) (fun c2 => ?_) (fun c2 => ?_)
      · skip
        have hT1 := hT1.trans (if_pos c2)
        refine lv_iload_n hx hb dX0_countPhase_33 rfl (lv_at hl 1 rfl) ?_
        exact hret _ _ () _ _ _ dX0_countPhase_34 ((hF.trans (lp_r hT1)).symm.trans hsp) hw
      · skip
        have hT1 := hT1.trans (if_neg c2)
        refine lv_aload_n hx hb dX0_countPhase_12 rfl (lv_at hl 2 rfl) ?_
        refine g_get (v := .ref (ad 16)) (C := RX0) (T := TX0) (N := 10) (ci := 2) X inX0 hw 95 rfl rfl 3 (by decide) (List.mem_of_getElem? (i := 2) rfl) rfl rfl dX0_countPhase_13 ?_
        refine lv_iload_n hx hb dX0_countPhase_16 rfl (lv_at hl 0 rfl) ?_
        refine gcV_i (rest := []) X (cR_at l D cy ad rest C 8 (by decide) v1_3) gy_X4_at gX0_countPhase_X4_at ⟨rfl, rfl, Nat.le_of_ble_eq_true rfl, Nat.le_of_ble_eq_true rfl⟩ 16 rfl rfl rfl hl rfl (Nat.le_of_ble_eq_true rfl) dX0_countPhase_17 ⟨Nat.zero_le _, Nat.zero_le _⟩ hw (fun r3 _ H locs hr3 hw => ?_)
        have hr3 : r3 = rAt 100 (C.1 8) v1_3 := hr3
        have hT1 := hT1.trans (bnd_eq hr3)
        refine lv_iload_n hx hb dX0_countPhase_20 rfl (lv_at hl 3 rfl) ?_
        refine lv_icmp_ne (tgt := 27) hx hb dX0_countPhase_21 (by decide) (fun c5 => ?_) (fun c5 => ?_)
        · skip
          have hT1 := hT1.trans (if_neg c5)
          refine lv_iinc (v := (v1_3 + 1)) (lv' := [(3, .int (v1_3 + 1)), (2, .int v1_2), (0, .ref (ad 95)), (1, .int q1)]) hx hb dX0_countPhase_27 hl (k := 0) rfl rfl (by decide) rfl (fun ls hl => ?_)
          refine lv_goto (tgt := 4) hx hb dX0_countPhase_30 (by decide) ?_
          exact ih1 (v1_3 + 1) v1_2 (hF.trans (lp_l hT1)) (Nat.lt_of_lt_of_le (by first | exact up_dec (by assumption) | (simp only [*]; exact up_dec (by assumption))) (Nat.le_of_lt_succ hm1)) _ _ ls (lv_sub hl [0, 1, 2, 3] rfl) hw
        · skip
          have hT1 := hT1.trans (if_pos c5)
          refine lv_iinc (v := (v1_2 + 1)) (lv' := [(2, .int (v1_2 + 1)), (3, .int v1_3), (0, .ref (ad 95)), (1, .int q1)]) hx hb dX0_countPhase_24 hl (k := 1) rfl rfl (by decide) rfl (fun ls hl => ?_)
          refine lv_iinc (v := (v1_3 + 1)) (lv' := [(3, .int (v1_3 + 1)), (2, .int (v1_2 + 1)), (0, .ref (ad 95)), (1, .int q1)]) hx hb dX0_countPhase_27 hl (k := 1) rfl rfl (by decide) rfl (fun ls hl => ?_)
          refine lv_goto (tgt := 4) hx hb dX0_countPhase_30 (by decide) ?_
          exact ih1 (v1_3 + 1) (v1_2 + 1) (hF.trans (lp_l hT1)) (Nat.lt_of_lt_of_le (by first | exact up_dec (by assumption) | (simp only [*]; exact up_dec (by assumption))) (Nat.le_of_lt_succ hm1)) _ _ ls (lv_sub hl [0, 1, 2, 3] rfl) hw
  exact L1 _ 0 0 hF (Nat.lt_succ_self _) _ _ ls (lv_sub hl [0, 1, 2, 3] rfl) hw
theorem gy_X0_countOfKey : gY yX0_countOfKey RX0 cX0_countOfKey 4 (some .int) wsX0_countOfKey 1 := ⟨⟨_, rfl⟩, rfl, by decide +kernel, by decide +kernel, by decide +kernel⟩
def st_X0_countOfKey_4 (q1 : Int32) (C : CS) (v1_3 : Int32) (v1_2 : Int32) : (Int32 × Int32) ⊕ Int32 := (if C.2.1 6 ≤ v1_3 then .inr (v1_2) else (bnd (F_X0_standsOfKey C v1_3 q1) (fun r3 => (if r3 = 0 then .inl ((v1_3 + 1), v1_2) else .inl ((v1_3 + 1), (v1_2 + 1))))))
def F_X0_countOfKey (C : CS) (q1 : Int32) : Int32 := lp (fun (z : Int32 × Int32) => st_X0_countOfKey_4 q1 C z.1 z.2) 0 (((C.2.1 6).toInt - (0 : Int32).toInt).toNat + 1) (0, 0)
abbrev rmX0_countOfKey : Room := { frames := 3, cells := 0, slots := 0, locals := 64 }
set_option maxHeartbeats 4000000 in
set_option maxRecDepth 100000 in
theorem c_X0_countOfKey (l : Launch) (D : va_G) (cy : Nat → ClassId) (ad : Nat → Nat) (rest : va_W) (C : CS) (q1 : Int32) : GMi l yX0_countOfKey wsX0_countOfKey rmX0_countOfKey D cy [.ref (ad 95), .int q1] (CW cy ad C ++ rest) (fun (r : Int32) (_ : Unit) => r = F_X0_countOfKey C q1) (fun _ => CW cy ad C ++ rest) := by
  refine GMi.intro cX0_countOfKey 4 RX0 (by decide) rfl rfl (Nat.le_of_ble_eq_true rfl) ?_
  intro p e s m args below meth c A Q ls X hret hl hw
  have hx := X.1
  have hb := X.2.1
  have hl : lv_has ls 4 [(0, .ref (ad 95)), (1, .int q1)] := hl
  have inX0 : ∀ w ∈ wsX00, w ∈ wsX0_countOfKey := fun w h => List.mem_cons_of_mem _ (List.mem_append_left _ (List.mem_append_left _ (List.mem_append_right _ h)))
  obtain ⟨sp, hsp⟩ : ∃ sp, sp = F_X0_countOfKey C q1 := ⟨_, rfl⟩
  have hF := hsp.trans (F_X0_countOfKey.eq_1 C q1)
  refine lv_iconst (v := 0) hx hb dX0_countOfKey_0 (by decide) ?_
  refine lv_istore_n (lv' := [(2, .int 0), (0, .ref (ad 95)), (1, .int q1)]) hx hb dX0_countOfKey_1 rfl hl (by decide) rfl (fun ls hl => ?_)
  refine lv_iconst (v := 0) hx hb dX0_countOfKey_2 (by decide) ?_
  refine lv_istore_n (lv' := [(3, .int 0), (2, .int 0), (0, .ref (ad 95)), (1, .int q1)]) hx hb dX0_countOfKey_3 rfl hl (by decide) rfl (fun ls hl => ?_)
  have L1 : ∀ (n1 : Nat) (v1_3 : Int32) (v1_2 : Int32), sp = lp (fun (z : Int32 × Int32) => st_X0_countOfKey_4 q1 C z.1 z.2) 0 n1 (v1_3, v1_2) → ((C.2.1 6).toInt - v1_3.toInt).toNat < n1 → ∀ (H : Heap) (locs : List Loc) (ls : Array Slot), lv_has ls 4 [(3, .int v1_3), (2, .int v1_2), (0, .ref (ad 95)), (1, .int q1)] → gw D A s.heap (CW cy ad C ++ rest) H locs → W p l e rmX0_countOfKey s m args below meth c H locs 0 0 Q (F0 m 4 ls []) := by
    intro n1
    induction n1 with
    | zero => intro v1_3 v1_2 hF hm1; exact absurd hm1 (Nat.not_lt_zero _)
    | succ n1 ih1 =>
      intro v1_3 v1_2 hF hm1 H locs ls hl hw
      have hT1 := st_X0_countOfKey_4.eq_1 q1 C v1_3 v1_2
      refine lv_iload_n hx hb dX0_countOfKey_4 rfl (lv_at hl 0 rfl) ?_
      refine lv_aload_n hx hb dX0_countOfKey_5 rfl (lv_at hl 2 rfl) ?_
      refine g_get (v := .int (C.2.1 6)) (C := RX0) (T := TX0) (N := 10) (ci := 2) X inX0 hw 95 rfl rfl 9 (by decide) (List.mem_of_getElem? (i := 1) rfl) rfl rfl dX0_countOfKey_6 ?_
      refine lv_icmp_ge (tgt := 30) hx hb dX0_countOfKey_9 (by decide) (fun c2 => ?_) (fun c2 => ?_)
      · skip
        have hT1 := hT1.trans (if_pos c2)
        refine lv_iload_n hx hb dX0_countOfKey_30 rfl (lv_at hl 1 rfl) ?_
        exact hret _ _ () _ _ _ dX0_countOfKey_31 ((hF.trans (lp_r hT1)).symm.trans hsp) hw
      · skip
        have hT1 := hT1.trans (if_neg c2)
        refine lv_aload_n hx hb dX0_countOfKey_12 rfl (lv_at hl 2 rfl) ?_
        refine lv_iload_n hx hb dX0_countOfKey_13 rfl (lv_at hl 0 rfl) ?_
        refine lv_iload_n hx hb dX0_countOfKey_14 rfl (lv_at hl 3 rfl) ?_
        refine gcV_i (rest := []) X (c_X0_standsOfKey l D cy ad rest C v1_3 q1) gy_X0_standsOfKey gX0_countOfKey_X0_standsOfKey ⟨rfl, rfl, Nat.le_of_ble_eq_true rfl, Nat.le_of_ble_eq_true rfl⟩ 95 rfl rfl rfl hl rfl (Nat.le_of_ble_eq_true rfl) dX0_countOfKey_15 ⟨Nat.zero_le _, Nat.zero_le _⟩ hw (fun r3 _ H locs hr3 hw => ?_)
        obtain ⟨hr3, zr3⟩ : r3 = F_X0_standsOfKey C v1_3 q1 ∧ (r3 = 0 ∨ r3 = 1) := hr3
        have hT1 := hT1.trans (bnd_eq hr3)
        refine lv_if_eq (tgt := 24) hx hb dX0_countOfKey_18 (by decide) (fun c5 => ?_) (fun c5 => ?_)
        · skip
          have hT1 := hT1.trans (if_pos c5)
          refine lv_iinc (v := (v1_3 + 1)) (lv' := [(3, .int (v1_3 + 1)), (2, .int v1_2), (0, .ref (ad 95)), (1, .int q1)]) hx hb dX0_countOfKey_24 hl (k := 0) rfl rfl (by decide) rfl (fun ls hl => ?_)
          refine lv_goto (tgt := 4) hx hb dX0_countOfKey_27 (by decide) ?_
          exact ih1 (v1_3 + 1) v1_2 (hF.trans (lp_l hT1)) (Nat.lt_of_lt_of_le (by first | exact up_dec (by assumption) | (simp only [*]; exact up_dec (by assumption))) (Nat.le_of_lt_succ hm1)) _ _ ls (lv_sub hl [0, 1, 2, 3] rfl) hw
        · skip
          have hT1 := hT1.trans (if_neg c5)
          refine lv_iinc (v := (v1_2 + 1)) (lv' := [(2, .int (v1_2 + 1)), (3, .int v1_3), (0, .ref (ad 95)), (1, .int q1)]) hx hb dX0_countOfKey_21 hl (k := 1) rfl rfl (by decide) rfl (fun ls hl => ?_)
          refine lv_iinc (v := (v1_3 + 1)) (lv' := [(3, .int (v1_3 + 1)), (2, .int (v1_2 + 1)), (0, .ref (ad 95)), (1, .int q1)]) hx hb dX0_countOfKey_24 hl (k := 1) rfl rfl (by decide) rfl (fun ls hl => ?_)
          refine lv_goto (tgt := 4) hx hb dX0_countOfKey_27 (by decide) ?_
          exact ih1 (v1_3 + 1) (v1_2 + 1) (hF.trans (lp_l hT1)) (Nat.lt_of_lt_of_le (by first | exact up_dec (by assumption) | (simp only [*]; exact up_dec (by assumption))) (Nat.le_of_lt_succ hm1)) _ _ ls (lv_sub hl [0, 1, 2, 3] rfl) hw
  exact L1 _ 0 0 hF (Nat.lt_succ_self _) _ _ ls (lv_sub hl [0, 1, 2, 3] rfl) hw
theorem gy_X0_lengthOfKey : gY yX0_lengthOfKey RX0 cX0_lengthOfKey 4 (some .int) wsX0_lengthOfKey 1 := ⟨⟨_, rfl⟩, rfl, by decide +kernel, by decide +kernel, by decide +kernel⟩
def st_X0_lengthOfKey_4 (q1 : Int32) (C : CS) (v1_3 : Int32) (v1_2 : Int32) : (Int32 × Int32) ⊕ Int32 := (if C.2.1 6 ≤ v1_3 then .inr (v1_2) else (bnd (F_X0_standsOfKey C v1_3 q1) (fun r3 => (if r3 = 0 then .inl ((v1_3 + 1), v1_2) else (bnd (rAt 100 (C.1 7) v1_3) (fun r6 => (bnd (rAt 100 (C.1 6) v1_3) (fun r8 => .inl ((v1_3 + 1), (v1_2 + (r6 - r8)))))))))))
def F_X0_lengthOfKey (C : CS) (q1 : Int32) : Int32 := lp (fun (z : Int32 × Int32) => st_X0_lengthOfKey_4 q1 C z.1 z.2) 0 (((C.2.1 6).toInt - (0 : Int32).toInt).toNat + 1) (0, 0)
abbrev rmX0_lengthOfKey : Room := { frames := 3, cells := 0, slots := 0, locals := 64 }
set_option maxHeartbeats 4000000 in
set_option maxRecDepth 100000 in
theorem c_X0_lengthOfKey (l : Launch) (D : va_G) (cy : Nat → ClassId) (ad : Nat → Nat) (rest : va_W) (C : CS) (q1 : Int32) : GMi l yX0_lengthOfKey wsX0_lengthOfKey rmX0_lengthOfKey D cy [.ref (ad 95), .int q1] (CW cy ad C ++ rest) (fun (r : Int32) (_ : Unit) => r = F_X0_lengthOfKey C q1) (fun _ => CW cy ad C ++ rest) := by
  refine GMi.intro cX0_lengthOfKey 4 RX0 (by decide) rfl rfl (Nat.le_of_ble_eq_true rfl) ?_
  intro p e s m args below meth c A Q ls X hret hl hw
  have hx := X.1
  have hb := X.2.1
  have hl : lv_has ls 4 [(0, .ref (ad 95)), (1, .int q1)] := hl
  have inX0 : ∀ w ∈ wsX00, w ∈ wsX0_lengthOfKey := fun w h => List.mem_cons_of_mem _ (List.mem_append_left _ (List.mem_append_left _ (List.mem_append_right _ h)))
  obtain ⟨sp, hsp⟩ : ∃ sp, sp = F_X0_lengthOfKey C q1 := ⟨_, rfl⟩
  have hF := hsp.trans (F_X0_lengthOfKey.eq_1 C q1)
  refine lv_iconst (v := 0) hx hb dX0_lengthOfKey_0 (by decide) ?_
  refine lv_istore_n (lv' := [(2, .int 0), (0, .ref (ad 95)), (1, .int q1)]) hx hb dX0_lengthOfKey_1 rfl hl (by decide) rfl (fun ls hl => ?_)
  refine lv_iconst (v := 0) hx hb dX0_lengthOfKey_2 (by decide) ?_
  refine lv_istore_n (lv' := [(3, .int 0), (2, .int 0), (0, .ref (ad 95)), (1, .int q1)]) hx hb dX0_lengthOfKey_3 rfl hl (by decide) rfl (fun ls hl => ?_)
  have L1 : ∀ (n1 : Nat) (v1_3 : Int32) (v1_2 : Int32), sp = lp (fun (z : Int32 × Int32) => st_X0_lengthOfKey_4 q1 C z.1 z.2) 0 n1 (v1_3, v1_2) → ((C.2.1 6).toInt - v1_3.toInt).toNat < n1 → ∀ (H : Heap) (locs : List Loc) (ls : Array Slot), lv_has ls 4 [(3, .int v1_3), (2, .int v1_2), (0, .ref (ad 95)), (1, .int q1)] → gw D A s.heap (CW cy ad C ++ rest) H locs → W p l e rmX0_lengthOfKey s m args below meth c H locs 0 0 Q (F0 m 4 ls []) := by
    intro n1
    induction n1 with
    | zero => intro v1_3 v1_2 hF hm1; exact absurd hm1 (Nat.not_lt_zero _)
    | succ n1 ih1 =>
      intro v1_3 v1_2 hF hm1 H locs ls hl hw
      have hT1 := st_X0_lengthOfKey_4.eq_1 q1 C v1_3 v1_2
      refine lv_iload_n hx hb dX0_lengthOfKey_4 rfl (lv_at hl 0 rfl) ?_
      refine lv_aload_n hx hb dX0_lengthOfKey_5 rfl (lv_at hl 2 rfl) ?_
      refine g_get (v := .int (C.2.1 6)) (C := RX0) (T := TX0) (N := 10) (ci := 2) X inX0 hw 95 rfl rfl 9 (by decide) (List.mem_of_getElem? (i := 1) rfl) rfl rfl dX0_lengthOfKey_6 ?_
      refine lv_icmp_ge (tgt := 47) hx hb dX0_lengthOfKey_9 (by decide) (fun c2 => ?_) (fun c2 => ?_)
      · skip
        have hT1 := hT1.trans (if_pos c2)
        refine lv_iload_n hx hb dX0_lengthOfKey_47 rfl (lv_at hl 1 rfl) ?_
        exact hret _ _ () _ _ _ dX0_lengthOfKey_48 ((hF.trans (lp_r hT1)).symm.trans hsp) hw
      · skip
        have hT1 := hT1.trans (if_neg c2)
        refine lv_aload_n hx hb dX0_lengthOfKey_12 rfl (lv_at hl 2 rfl) ?_
        refine lv_iload_n hx hb dX0_lengthOfKey_13 rfl (lv_at hl 0 rfl) ?_
        refine lv_iload_n hx hb dX0_lengthOfKey_14 rfl (lv_at hl 3 rfl) ?_
        refine gcV_i (rest := []) X (c_X0_standsOfKey l D cy ad rest C v1_3 q1) gy_X0_standsOfKey gX0_lengthOfKey_X0_standsOfKey ⟨rfl, rfl, Nat.le_of_ble_eq_true rfl, Nat.le_of_ble_eq_true rfl⟩ 95 rfl rfl rfl hl rfl (Nat.le_of_ble_eq_true rfl) dX0_lengthOfKey_15 ⟨Nat.zero_le _, Nat.zero_le _⟩ hw (fun r3 _ H locs hr3 hw => ?_)
        obtain ⟨hr3, zr3⟩ : r3 = F_X0_standsOfKey C v1_3 q1 ∧ (r3 = 0 ∨ r3 = 1) := hr3
        have hT1 := hT1.trans (bnd_eq hr3)
        refine lv_if_eq (tgt := 41) hx hb dX0_lengthOfKey_18 (by decide) (fun c5 => ?_) (fun c5 => ?_)
        · skip
          have hT1 := hT1.trans (if_pos c5)
          refine lv_iinc (v := (v1_3 + 1)) (lv' := [(3, .int (v1_3 + 1)), (2, .int v1_2), (0, .ref (ad 95)), (1, .int q1)]) hx hb dX0_lengthOfKey_41 hl (k := 0) rfl rfl (by decide) rfl (fun ls hl => ?_)
          refine lv_goto (tgt := 4) hx hb dX0_lengthOfKey_44 (by decide) ?_
          exact ih1 (v1_3 + 1) v1_2 (hF.trans (lp_l hT1)) (Nat.lt_of_lt_of_le (by first | exact up_dec (by assumption) | (simp only [*]; exact up_dec (by assumption))) (Nat.le_of_lt_succ hm1)) _ _ ls (lv_sub hl [0, 1, 2, 3] rfl) hw
        · skip
          have hT1 := hT1.trans (if_neg c5)
          refine lv_iload_n hx hb dX0_lengthOfKey_21 rfl (lv_at hl 1 rfl) ?_
          refine lv_aload_n hx hb dX0_lengthOfKey_22 rfl (lv_at hl 2 rfl) ?_
          refine g_get (v := .ref (ad 14)) (C := RX0) (T := TX0) (N := 10) (ci := 2) X inX0 hw 95 rfl rfl 2 (by decide) (List.mem_of_getElem? (i := 2) rfl) rfl rfl dX0_lengthOfKey_23 ?_
          refine lv_iload_n hx hb dX0_lengthOfKey_26 rfl (lv_at hl 0 rfl) ?_
          refine gcV_i (rest := [.int v1_2]) X (cR_at l D cy ad rest C 7 (by decide) v1_3) gy_X4_at gX0_lengthOfKey_X4_at ⟨rfl, rfl, Nat.le_of_ble_eq_true rfl, Nat.le_of_ble_eq_true rfl⟩ 14 rfl rfl rfl hl rfl (Nat.le_of_ble_eq_true rfl) dX0_lengthOfKey_27 ⟨Nat.zero_le _, Nat.zero_le _⟩ hw (fun r6 _ H locs hr6 hw => ?_)
          have hr6 : r6 = rAt 100 (C.1 7) v1_3 := hr6
          have hT1 := hT1.trans (bnd_eq hr6)
          refine lv_aload_n hx hb dX0_lengthOfKey_30 rfl (lv_at hl 2 rfl) ?_
          refine g_get (v := .ref (ad 12)) (C := RX0) (T := TX0) (N := 10) (ci := 2) X inX0 hw 95 rfl rfl 1 (by decide) (List.mem_of_getElem? (i := 3) rfl) rfl rfl dX0_lengthOfKey_31 ?_
          refine lv_iload_n hx hb dX0_lengthOfKey_34 rfl (lv_at hl 0 rfl) ?_
          refine gcV_i (rest := [.int r6, .int v1_2]) X (cR_at l D cy ad rest C 6 (by decide) v1_3) gy_X4_at gX0_lengthOfKey_X4_at ⟨rfl, rfl, Nat.le_of_ble_eq_true rfl, Nat.le_of_ble_eq_true rfl⟩ 12 rfl rfl rfl hl rfl (Nat.le_of_ble_eq_true rfl) dX0_lengthOfKey_35 ⟨Nat.zero_le _, Nat.zero_le _⟩ hw (fun r8 _ H locs hr8 hw => ?_)
          have hr8 : r8 = rAt 100 (C.1 6) v1_3 := hr8
          have hT1 := hT1.trans (bnd_eq hr8)
          refine lv_isub hx hb dX0_lengthOfKey_38 ?_
          refine lv_iadd hx hb dX0_lengthOfKey_39 ?_
          refine lv_istore_n (lv' := [(2, .int (v1_2 + (r6 - r8))), (3, .int v1_3), (0, .ref (ad 95)), (1, .int q1)]) hx hb dX0_lengthOfKey_40 rfl hl (by decide) rfl (fun ls hl => ?_)
          refine lv_iinc (v := (v1_3 + 1)) (lv' := [(3, .int (v1_3 + 1)), (2, .int (v1_2 + (r6 - r8))), (0, .ref (ad 95)), (1, .int q1)]) hx hb dX0_lengthOfKey_41 hl (k := 1) rfl rfl (by decide) rfl (fun ls hl => ?_)
          refine lv_goto (tgt := 4) hx hb dX0_lengthOfKey_44 (by decide) ?_
          exact ih1 (v1_3 + 1) (v1_2 + (r6 - r8)) (hF.trans (lp_l hT1)) (Nat.lt_of_lt_of_le (by first | exact up_dec (by assumption) | (simp only [*]; exact up_dec (by assumption))) (Nat.le_of_lt_succ hm1)) _ _ ls (lv_sub hl [0, 1, 2, 3] rfl) hw
  exact L1 _ 0 0 hF (Nat.lt_succ_self _) _ _ ls (lv_sub hl [0, 1, 2, 3] rfl) hw
theorem gy_X0_liesBefore : gY yX0_liesBefore RX0 cX0_liesBefore 3 (some .boolean) wsX0_liesBefore 2 := ⟨⟨_, rfl⟩, rfl, by decide +kernel, by decide +kernel, by decide +kernel⟩
def F_X0_liesBefore (C : CS) (q1 : Int32) (q2 : Int32) : Int32 := (bnd (rAt 100 (C.1 6) q1) (fun r1 => (bnd (rAt 100 (C.1 6) q2) (fun r3 => (if r1 < r3 then 1 else (if r1 = r3 then (if q2 ≤ q1 then 0 else 1) else 0))))))
abbrev rmX0_liesBefore : Room := { frames := 1, cells := 0, slots := 0, locals := 21 }
set_option maxHeartbeats 4000000 in
set_option maxRecDepth 100000 in
theorem c_X0_liesBefore (l : Launch) (D : va_G) (cy : Nat → ClassId) (ad : Nat → Nat) (rest : va_W) (C : CS) (q1 : Int32) (q2 : Int32) : GMi l yX0_liesBefore wsX0_liesBefore rmX0_liesBefore D cy [.ref (ad 95), .int q1, .int q2] (CW cy ad C ++ rest) (fun (r : Int32) (_ : Unit) => r = F_X0_liesBefore C q1 q2 ∧ (r = 0 ∨ r = 1)) (fun _ => CW cy ad C ++ rest) := by
  refine GMz.intro cX0_liesBefore 3 RX0 (by decide) rfl rfl (Nat.le_of_ble_eq_true rfl) ?_
  intro p e s m args below meth c A Q ls X hret hl hw
  have hx := X.1
  have hb := X.2.1
  have hl : lv_has ls 3 [(0, .ref (ad 95)), (1, .int q1), (2, .int q2)] := hl
  have inX0 : ∀ w ∈ wsX00, w ∈ wsX0_liesBefore := fun w h => List.mem_cons_of_mem _ (List.mem_append_left _ (List.mem_append_left _ (List.mem_append_right _ h)))
  obtain ⟨sp, hsp⟩ : ∃ sp, sp = F_X0_liesBefore C q1 q2 := ⟨_, rfl⟩
  have hF := hsp.trans (F_X0_liesBefore.eq_1 C q1 q2)
  refine lv_aload_n hx hb dX0_liesBefore_0 rfl (lv_at hl 0 rfl) ?_
  refine g_get (v := .ref (ad 12)) (C := RX0) (T := TX0) (N := 10) (ci := 2) X inX0 hw 95 rfl rfl 1 (by decide) (List.mem_of_getElem? (i := 1) rfl) rfl rfl dX0_liesBefore_1 ?_
  refine lv_iload_n hx hb dX0_liesBefore_4 rfl (lv_at hl 1 rfl) ?_
  refine gcV_i (rest := []) X (cR_at l D cy ad rest C 6 (by decide) q1) gy_X4_at gX0_liesBefore_X4_at ⟨rfl, rfl, Nat.le_of_ble_eq_true rfl, Nat.le_of_ble_eq_true rfl⟩ 12 rfl rfl rfl hl rfl (Nat.le_of_ble_eq_true rfl) dX0_liesBefore_5 ⟨Nat.zero_le _, Nat.zero_le _⟩ hw (fun r1 _ H locs hr1 hw => ?_)
  have hr1 : r1 = rAt 100 (C.1 6) q1 := hr1
  have hF := hF.trans (bnd_eq hr1)
  refine lv_aload_n hx hb dX0_liesBefore_8 rfl (lv_at hl 0 rfl) ?_
  refine g_get (v := .ref (ad 12)) (C := RX0) (T := TX0) (N := 10) (ci := 2) X inX0 hw 95 rfl rfl 1 (by decide) (List.mem_of_getElem? (i := 1) rfl) rfl rfl dX0_liesBefore_9 ?_
  refine lv_iload_n hx hb dX0_liesBefore_12 rfl (lv_at hl 2 rfl) ?_
  refine gcV_i (rest := [.int r1]) X (cR_at l D cy ad rest C 6 (by decide) q2) gy_X4_at gX0_liesBefore_X4_at ⟨rfl, rfl, Nat.le_of_ble_eq_true rfl, Nat.le_of_ble_eq_true rfl⟩ 12 rfl rfl rfl hl rfl (Nat.le_of_ble_eq_true rfl) dX0_liesBefore_13 ⟨Nat.zero_le _, Nat.zero_le _⟩ hw (fun r3 _ H locs hr3 hw => ?_)
  have hr3 : r3 = rAt 100 (C.1 6) q2 := hr3
  have hF := hF.trans (bnd_eq hr3)
  refine lv_icmp_lt (tgt := 43) hx hb dX0_liesBefore_16 (by decide) (fun c5 => ?_) (fun c5 => ?_)
  · skip
    have hF := hF.trans (if_pos c5)
    refine lv_iconst (v := 1) hx hb dX0_liesBefore_43 (by decide) ?_
    refine lv_goto (tgt := 48) hx hb dX0_liesBefore_44 (by decide) ?_
    exact hret _ _ () _ _ _ dX0_liesBefore_48 (Or.inr rfl) ⟨hF.symm.trans hsp, (Or.inr rfl)⟩ hw
  · skip
    have hF := hF.trans (if_neg c5)
    refine lv_aload_n hx hb dX0_liesBefore_19 rfl (lv_at hl 0 rfl) ?_
    refine g_get (v := .ref (ad 12)) (C := RX0) (T := TX0) (N := 10) (ci := 2) X inX0 hw 95 rfl rfl 1 (by decide) (List.mem_of_getElem? (i := 1) rfl) rfl rfl dX0_liesBefore_20 ?_
    refine lv_iload_n hx hb dX0_liesBefore_23 rfl (lv_at hl 1 rfl) ?_
    refine gcV_i (rest := []) X (cR_at l D cy ad rest C 6 (by decide) q1) gy_X4_at gX0_liesBefore_X4_at ⟨rfl, rfl, Nat.le_of_ble_eq_true rfl, Nat.le_of_ble_eq_true rfl⟩ 12 rfl rfl rfl hl rfl (Nat.le_of_ble_eq_true rfl) dX0_liesBefore_24 ⟨Nat.zero_le _, Nat.zero_le _⟩ hw (fun r6 _ H locs hr6 hw => ?_)
    have hr6 : r6 = rAt 100 (C.1 6) q1 := hr6
    rw [show r6 = r1 from hr6.trans hr1.symm]
    refine lv_aload_n hx hb dX0_liesBefore_27 rfl (lv_at hl 0 rfl) ?_
    refine g_get (v := .ref (ad 12)) (C := RX0) (T := TX0) (N := 10) (ci := 2) X inX0 hw 95 rfl rfl 1 (by decide) (List.mem_of_getElem? (i := 1) rfl) rfl rfl dX0_liesBefore_28 ?_
    refine lv_iload_n hx hb dX0_liesBefore_31 rfl (lv_at hl 2 rfl) ?_
    refine gcV_i (rest := [.int r1]) X (cR_at l D cy ad rest C 6 (by decide) q2) gy_X4_at gX0_liesBefore_X4_at ⟨rfl, rfl, Nat.le_of_ble_eq_true rfl, Nat.le_of_ble_eq_true rfl⟩ 12 rfl rfl rfl hl rfl (Nat.le_of_ble_eq_true rfl) dX0_liesBefore_32 ⟨Nat.zero_le _, Nat.zero_le _⟩ hw (fun r8 _ H locs hr8 hw => ?_)
    have hr8 : r8 = rAt 100 (C.1 6) q2 := hr8
    rw [show r8 = r3 from hr8.trans hr3.symm]
    refine lv_icmp_ne (tgt := 47) hx hb dX0_liesBefore_35 (by decide) (fun c10 => ?_) (fun c10 => ?_)
    · skip
      have hF := hF.trans (if_neg c10)
      refine lv_iconst (v := 0) hx hb dX0_liesBefore_47 (by decide) ?_
      exact hret _ _ () _ _ _ dX0_liesBefore_48 (Or.inl rfl) ⟨hF.symm.trans hsp, (Or.inl rfl)⟩ hw
    · skip
      have hF := hF.trans (if_pos c10)
      refine lv_iload_n hx hb dX0_liesBefore_38 rfl (lv_at hl 1 rfl) ?_
      refine lv_iload_n hx hb dX0_liesBefore_39 rfl (lv_at hl 2 rfl) ?_
      refine lv_icmp_ge (tgt := 47) hx hb dX0_liesBefore_40 (by decide) (fun c11 => ?_) (fun c11 => ?_)
      · skip
        have hF := hF.trans (if_pos c11)
        refine lv_iconst (v := 0) hx hb dX0_liesBefore_47 (by decide) ?_
        exact hret _ _ () _ _ _ dX0_liesBefore_48 (Or.inl rfl) ⟨hF.symm.trans hsp, (Or.inl rfl)⟩ hw
      · skip
        have hF := hF.trans (if_neg c11)
        refine lv_iconst (v := 1) hx hb dX0_liesBefore_43 (by decide) ?_
        refine lv_goto (tgt := 48) hx hb dX0_liesBefore_44 (by decide) ?_
        exact hret _ _ () _ _ _ dX0_liesBefore_48 (Or.inr rfl) ⟨hF.symm.trans hsp, (Or.inr rfl)⟩ hw
theorem gy_X0_countBefore : gY yX0_countBefore RX0 cX0_countBefore 4 (some .int) wsX0_countBefore 1 := ⟨⟨_, rfl⟩, rfl, by decide +kernel, by decide +kernel, by decide +kernel⟩
def st_X0_countBefore_4 (q1 : Int32) (C : CS) (v1_3 : Int32) (v1_2 : Int32) : (Int32 × Int32) ⊕ Int32 := (if C.2.1 6 ≤ v1_3 then .inr (v1_2) else (bnd (rAt 100 (C.1 5) q1) (fun r3 => (bnd (F_X0_standsOfKey C v1_3 r3) (fun r5 => (if r5 = 0 then .inl ((v1_3 + 1), v1_2) else (bnd (F_X0_liesBefore C v1_3 q1) (fun r8 => (if r8 = 0 then .inl ((v1_3 + 1), v1_2) else .inl ((v1_3 + 1), (v1_2 + 1)))))))))))
def F_X0_countBefore (C : CS) (q1 : Int32) : Int32 := lp (fun (z : Int32 × Int32) => st_X0_countBefore_4 q1 C z.1 z.2) 0 (((C.2.1 6).toInt - (0 : Int32).toInt).toNat + 1) (0, 0)
abbrev rmX0_countBefore : Room := { frames := 3, cells := 0, slots := 0, locals := 64 }
set_option maxHeartbeats 4000000 in
set_option maxRecDepth 100000 in
theorem c_X0_countBefore (l : Launch) (D : va_G) (cy : Nat → ClassId) (ad : Nat → Nat) (rest : va_W) (C : CS) (q1 : Int32) : GMi l yX0_countBefore wsX0_countBefore rmX0_countBefore D cy [.ref (ad 95), .int q1] (CW cy ad C ++ rest) (fun (r : Int32) (_ : Unit) => r = F_X0_countBefore C q1) (fun _ => CW cy ad C ++ rest) := by
  refine GMi.intro cX0_countBefore 4 RX0 (by decide) rfl rfl (Nat.le_of_ble_eq_true rfl) ?_
  intro p e s m args below meth c A Q ls X hret hl hw
  have hx := X.1
  have hb := X.2.1
  have hl : lv_has ls 4 [(0, .ref (ad 95)), (1, .int q1)] := hl
  have inX0 : ∀ w ∈ wsX00, w ∈ wsX0_countBefore := fun w h => List.mem_cons_of_mem _ (List.mem_append_left _ (List.mem_append_left _ (List.mem_append_right _ h)))
  obtain ⟨sp, hsp⟩ : ∃ sp, sp = F_X0_countBefore C q1 := ⟨_, rfl⟩
  have hF := hsp.trans (F_X0_countBefore.eq_1 C q1)
  refine lv_iconst (v := 0) hx hb dX0_countBefore_0 (by decide) ?_
  refine lv_istore_n (lv' := [(2, .int 0), (0, .ref (ad 95)), (1, .int q1)]) hx hb dX0_countBefore_1 rfl hl (by decide) rfl (fun ls hl => ?_)
  refine lv_iconst (v := 0) hx hb dX0_countBefore_2 (by decide) ?_
  refine lv_istore_n (lv' := [(3, .int 0), (2, .int 0), (0, .ref (ad 95)), (1, .int q1)]) hx hb dX0_countBefore_3 rfl hl (by decide) rfl (fun ls hl => ?_)
  have L1 : ∀ (n1 : Nat) (v1_3 : Int32) (v1_2 : Int32), sp = lp (fun (z : Int32 × Int32) => st_X0_countBefore_4 q1 C z.1 z.2) 0 n1 (v1_3, v1_2) → ((C.2.1 6).toInt - v1_3.toInt).toNat < n1 → ∀ (H : Heap) (locs : List Loc) (ls : Array Slot), lv_has ls 4 [(3, .int v1_3), (2, .int v1_2), (0, .ref (ad 95)), (1, .int q1)] → gw D A s.heap (CW cy ad C ++ rest) H locs → W p l e rmX0_countBefore s m args below meth c H locs 0 0 Q (F0 m 4 ls []) := by
    intro n1
    induction n1 with
    | zero => intro v1_3 v1_2 hF hm1; exact absurd hm1 (Nat.not_lt_zero _)
    | succ n1 ih1 =>
      intro v1_3 v1_2 hF hm1 H locs ls hl hw
      have hT1 := st_X0_countBefore_4.eq_1 q1 C v1_3 v1_2
      refine lv_iload_n hx hb dX0_countBefore_4 rfl (lv_at hl 0 rfl) ?_
      refine lv_aload_n hx hb dX0_countBefore_5 rfl (lv_at hl 2 rfl) ?_
      refine g_get (v := .int (C.2.1 6)) (C := RX0) (T := TX0) (N := 10) (ci := 2) X inX0 hw 95 rfl rfl 9 (by decide) (List.mem_of_getElem? (i := 1) rfl) rfl rfl dX0_countBefore_6 ?_
      refine lv_icmp_ge (tgt := 46) hx hb dX0_countBefore_9 (by decide) (fun c2 => ?_) (fun c2 => ?_)
      · skip
        have hT1 := hT1.trans (if_pos c2)
        refine lv_iload_n hx hb dX0_countBefore_46 rfl (lv_at hl 1 rfl) ?_
        exact hret _ _ () _ _ _ dX0_countBefore_47 ((hF.trans (lp_r hT1)).symm.trans hsp) hw
      · skip
        have hT1 := hT1.trans (if_neg c2)
        refine lv_aload_n hx hb dX0_countBefore_12 rfl (lv_at hl 2 rfl) ?_
        refine lv_iload_n hx hb dX0_countBefore_13 rfl (lv_at hl 0 rfl) ?_
        refine lv_aload_n hx hb dX0_countBefore_14 rfl (lv_at hl 2 rfl) ?_
        refine g_get (v := .ref (ad 10)) (C := RX0) (T := TX0) (N := 10) (ci := 2) X inX0 hw 95 rfl rfl 0 (by decide) (List.mem_of_getElem? (i := 2) rfl) rfl rfl dX0_countBefore_15 ?_
        refine lv_iload_n hx hb dX0_countBefore_18 rfl (lv_at hl 3 rfl) ?_
        refine gcV_i (rest := [.int v1_3, .ref (ad 95)]) X (cR_at l D cy ad rest C 5 (by decide) q1) gy_X4_at gX0_countBefore_X4_at ⟨rfl, rfl, Nat.le_of_ble_eq_true rfl, Nat.le_of_ble_eq_true rfl⟩ 10 rfl rfl rfl hl rfl (Nat.le_of_ble_eq_true rfl) dX0_countBefore_19 ⟨Nat.zero_le _, Nat.zero_le _⟩ hw (fun r3 _ H locs hr3 hw => ?_)
        have hr3 : r3 = rAt 100 (C.1 5) q1 := hr3
        have hT1 := hT1.trans (bnd_eq hr3)
        refine gcV_i (rest := []) X (c_X0_standsOfKey l D cy ad rest C v1_3 r3) gy_X0_standsOfKey gX0_countBefore_X0_standsOfKey ⟨rfl, rfl, Nat.le_of_ble_eq_true rfl, Nat.le_of_ble_eq_true rfl⟩ 95 rfl rfl rfl hl rfl (Nat.le_of_ble_eq_true rfl) dX0_countBefore_22 ⟨Nat.zero_le _, Nat.zero_le _⟩ hw (fun r5 _ H locs hr5 hw => ?_)
        obtain ⟨hr5, zr5⟩ : r5 = F_X0_standsOfKey C v1_3 r3 ∧ (r5 = 0 ∨ r5 = 1) := hr5
        have hT1 := hT1.trans (bnd_eq hr5)
        refine lv_if_eq (tgt := 40) hx hb dX0_countBefore_25 (by decide) (fun c7 => ?_) (fun c7 => ?_)
        · skip
          have hT1 := hT1.trans (if_pos c7)
          refine lv_iinc (v := (v1_3 + 1)) (lv' := [(3, .int (v1_3 + 1)), (2, .int v1_2), (0, .ref (ad 95)), (1, .int q1)]) hx hb dX0_countBefore_40 hl (k := 0) rfl rfl (by decide) rfl (fun ls hl => ?_)
          refine lv_goto (tgt := 4) hx hb dX0_countBefore_43 (by decide) ?_
          exact ih1 (v1_3 + 1) v1_2 (hF.trans (lp_l hT1)) (Nat.lt_of_lt_of_le (by first | exact up_dec (by assumption) | (simp only [*]; exact up_dec (by assumption))) (Nat.le_of_lt_succ hm1)) _ _ ls (lv_sub hl [0, 1, 2, 3] rfl) hw
        · skip
          have hT1 := hT1.trans (if_neg c7)
          refine lv_aload_n hx hb dX0_countBefore_28 rfl (lv_at hl 2 rfl) ?_
          refine lv_iload_n hx hb dX0_countBefore_29 rfl (lv_at hl 0 rfl) ?_
          refine lv_iload_n hx hb dX0_countBefore_30 rfl (lv_at hl 3 rfl) ?_
          refine gcV_i (rest := []) X (c_X0_liesBefore l D cy ad rest C v1_3 q1) gy_X0_liesBefore gX0_countBefore_X0_liesBefore ⟨rfl, rfl, Nat.le_of_ble_eq_true rfl, Nat.le_of_ble_eq_true rfl⟩ 95 rfl rfl rfl hl rfl (Nat.le_of_ble_eq_true rfl) dX0_countBefore_31 ⟨Nat.zero_le _, Nat.zero_le _⟩ hw (fun r8 _ H locs hr8 hw => ?_)
          obtain ⟨hr8, zr8⟩ : r8 = F_X0_liesBefore C v1_3 q1 ∧ (r8 = 0 ∨ r8 = 1) := hr8
          have hT1 := hT1.trans (bnd_eq hr8)
          refine lv_if_eq (tgt := 40) hx hb dX0_countBefore_34 (by decide) (fun c10 => ?_) (fun c10 => ?_)
          · skip
            have hT1 := hT1.trans (if_pos c10)
            refine lv_iinc (v := (v1_3 + 1)) (lv' := [(3, .int (v1_3 + 1)), (2, .int v1_2), (0, .ref (ad 95)), (1, .int q1)]) hx hb dX0_countBefore_40 hl (k := 0) rfl rfl (by decide) rfl (fun ls hl => ?_)
            refine lv_goto (tgt := 4) hx hb dX0_countBefore_43 (by decide) ?_
            exact ih1 (v1_3 + 1) v1_2 (hF.trans (lp_l hT1)) (Nat.lt_of_lt_of_le (by first | exact up_dec (by assumption) | (simp only [*]; exact up_dec (by assumption))) (Nat.le_of_lt_succ hm1)) _ _ ls (lv_sub hl [0, 1, 2, 3] rfl) hw
          · skip
            have hT1 := hT1.trans (if_neg c10)
            refine lv_iinc (v := (v1_2 + 1)) (lv' := [(2, .int (v1_2 + 1)), (3, .int v1_3), (0, .ref (ad 95)), (1, .int q1)]) hx hb dX0_countBefore_37 hl (k := 1) rfl rfl (by decide) rfl (fun ls hl => ?_)
            refine lv_iinc (v := (v1_3 + 1)) (lv' := [(3, .int (v1_3 + 1)), (2, .int (v1_2 + 1)), (0, .ref (ad 95)), (1, .int q1)]) hx hb dX0_countBefore_40 hl (k := 1) rfl rfl (by decide) rfl (fun ls hl => ?_)
            refine lv_goto (tgt := 4) hx hb dX0_countBefore_43 (by decide) ?_
            exact ih1 (v1_3 + 1) (v1_2 + 1) (hF.trans (lp_l hT1)) (Nat.lt_of_lt_of_le (by first | exact up_dec (by assumption) | (simp only [*]; exact up_dec (by assumption))) (Nat.le_of_lt_succ hm1)) _ _ ls (lv_sub hl [0, 1, 2, 3] rfl) hw
  exact L1 _ 0 0 hF (Nat.lt_succ_self _) _ _ ls (lv_sub hl [0, 1, 2, 3] rfl) hw
theorem gy_X0_atPlace : gY yX0_atPlace RX0 cX0_atPlace 4 (some .int) wsX0_atPlace 2 := ⟨⟨_, rfl⟩, rfl, by decide +kernel, by decide +kernel, by decide +kernel⟩
def st_X0_atPlace_2 (q1 : Int32) (q2 : Int32) (C : CS) (v1_3 : Int32) : (Int32) ⊕ Int32 := (if C.2.1 6 ≤ v1_3 then .inr ((-1)) else (bnd (F_X0_standsOfKey C v1_3 q1) (fun r3 => (if r3 = 0 then .inl (v1_3 + 1) else (bnd (F_X0_countBefore C v1_3) (fun r6 => (if r6 = q2 then .inr (v1_3) else .inl (v1_3 + 1))))))))
def F_X0_atPlace (C : CS) (q1 : Int32) (q2 : Int32) : Int32 := lp (fun (z : Int32) => st_X0_atPlace_2 q1 q2 C z) 0 (((C.2.1 6).toInt - (0 : Int32).toInt).toNat + 1) 0
abbrev rmX0_atPlace : Room := { frames := 4, cells := 0, slots := 0, locals := 87 }
set_option maxHeartbeats 4000000 in
set_option maxRecDepth 100000 in
theorem c_X0_atPlace (l : Launch) (D : va_G) (cy : Nat → ClassId) (ad : Nat → Nat) (rest : va_W) (C : CS) (q1 : Int32) (q2 : Int32) : GMi l yX0_atPlace wsX0_atPlace rmX0_atPlace D cy [.ref (ad 95), .int q1, .int q2] (CW cy ad C ++ rest) (fun (r : Int32) (_ : Unit) => r = F_X0_atPlace C q1 q2) (fun _ => CW cy ad C ++ rest) := by
  refine GMi.intro cX0_atPlace 4 RX0 (by decide) rfl rfl (Nat.le_of_ble_eq_true rfl) ?_
  intro p e s m args below meth c A Q ls X hret hl hw
  have hx := X.1
  have hb := X.2.1
  have hl : lv_has ls 4 [(0, .ref (ad 95)), (1, .int q1), (2, .int q2)] := hl
  have inX0 : ∀ w ∈ wsX00, w ∈ wsX0_atPlace := fun w h => List.mem_cons_of_mem _ (List.mem_append_left _ (List.mem_append_left _ (List.mem_append_right _ h)))
  obtain ⟨sp, hsp⟩ : ∃ sp, sp = F_X0_atPlace C q1 q2 := ⟨_, rfl⟩
  have hF := hsp.trans (F_X0_atPlace.eq_1 C q1 q2)
  refine lv_iconst (v := 0) hx hb dX0_atPlace_0 (by decide) ?_
  refine lv_istore_n (lv' := [(3, .int 0), (0, .ref (ad 95)), (1, .int q1), (2, .int q2)]) hx hb dX0_atPlace_1 rfl hl (by decide) rfl (fun ls hl => ?_)
  have L1 : ∀ (n1 : Nat) (v1_3 : Int32), sp = lp (fun (z : Int32) => st_X0_atPlace_2 q1 q2 C z) 0 n1 v1_3 → ((C.2.1 6).toInt - v1_3.toInt).toNat < n1 → ∀ (H : Heap) (locs : List Loc) (ls : Array Slot), lv_has ls 4 [(3, .int v1_3), (0, .ref (ad 95)), (1, .int q1), (2, .int q2)] → gw D A s.heap (CW cy ad C ++ rest) H locs → W p l e rmX0_atPlace s m args below meth c H locs 0 0 Q (F0 m 2 ls []) := by
    intro n1
    induction n1 with
    | zero => intro v1_3 hF hm1; exact absurd hm1 (Nat.not_lt_zero _)
    | succ n1 ih1 =>
      intro v1_3 hF hm1 H locs ls hl hw
      have hT1 := st_X0_atPlace_2.eq_1 q1 q2 C v1_3
      refine lv_iload_n hx hb dX0_atPlace_2 rfl (lv_at hl 0 rfl) ?_
      refine lv_aload_n hx hb dX0_atPlace_3 rfl (lv_at hl 1 rfl) ?_
      refine g_get (v := .int (C.2.1 6)) (C := RX0) (T := TX0) (N := 10) (ci := 2) X inX0 hw 95 rfl rfl 9 (by decide) (List.mem_of_getElem? (i := 1) rfl) rfl rfl dX0_atPlace_4 ?_
      refine lv_icmp_ge (tgt := 36) hx hb dX0_atPlace_7 (by decide) (fun c2 => ?_) (fun c2 => ?_)
      · skip
        have hT1 := hT1.trans (if_pos c2)
        refine lv_iconst (v := (-1)) hx hb dX0_atPlace_36 (by decide) ?_
        exact hret _ _ () _ _ _ dX0_atPlace_37 ((hF.trans (lp_r hT1)).symm.trans hsp) hw
      · skip
        have hT1 := hT1.trans (if_neg c2)
        refine lv_aload_n hx hb dX0_atPlace_10 rfl (lv_at hl 1 rfl) ?_
        refine lv_iload_n hx hb dX0_atPlace_11 rfl (lv_at hl 0 rfl) ?_
        refine lv_iload_n hx hb dX0_atPlace_12 rfl (lv_at hl 2 rfl) ?_
        refine gcV_i (rest := []) X (c_X0_standsOfKey l D cy ad rest C v1_3 q1) gy_X0_standsOfKey gX0_atPlace_X0_standsOfKey ⟨rfl, rfl, Nat.le_of_ble_eq_true rfl, Nat.le_of_ble_eq_true rfl⟩ 95 rfl rfl rfl hl rfl (Nat.le_of_ble_eq_true rfl) dX0_atPlace_13 ⟨Nat.zero_le _, Nat.zero_le _⟩ hw (fun r3 _ H locs hr3 hw => ?_)
        obtain ⟨hr3, zr3⟩ : r3 = F_X0_standsOfKey C v1_3 q1 ∧ (r3 = 0 ∨ r3 = 1) := hr3
        have hT1 := hT1.trans (bnd_eq hr3)
        refine lv_if_eq (tgt := 30) hx hb dX0_atPlace_16 (by decide) (fun c5 => ?_) (fun c5 => ?_)
        · skip
          have hT1 := hT1.trans (if_pos c5)
          refine lv_iinc (v := (v1_3 + 1)) (lv' := [(3, .int (v1_3 + 1)), (0, .ref (ad 95)), (1, .int q1), (2, .int q2)]) hx hb dX0_atPlace_30 hl (k := 0) rfl rfl (by decide) rfl (fun ls hl => ?_)
          refine lv_goto (tgt := 2) hx hb dX0_atPlace_33 (by decide) ?_
          exact ih1 (v1_3 + 1) (hF.trans (lp_l hT1)) (Nat.lt_of_lt_of_le (by first | exact up_dec (by assumption) | (simp only [*]; exact up_dec (by assumption))) (Nat.le_of_lt_succ hm1)) _ _ ls (lv_sub hl [0, 1, 2, 3] rfl) hw
        · skip
          have hT1 := hT1.trans (if_neg c5)
          refine lv_aload_n hx hb dX0_atPlace_19 rfl (lv_at hl 1 rfl) ?_
          refine lv_iload_n hx hb dX0_atPlace_20 rfl (lv_at hl 0 rfl) ?_
          refine gcV_i (rest := []) X (c_X0_countBefore l D cy ad rest C v1_3) gy_X0_countBefore gX0_atPlace_X0_countBefore ⟨rfl, rfl, Nat.le_of_ble_eq_true rfl, Nat.le_of_ble_eq_true rfl⟩ 95 rfl rfl rfl hl rfl (Nat.le_of_ble_eq_true rfl) dX0_atPlace_21 ⟨Nat.zero_le _, Nat.zero_le _⟩ hw (fun r6 _ H locs hr6 hw => ?_)
          have hr6 : r6 = F_X0_countBefore C v1_3 := hr6
          have hT1 := hT1.trans (bnd_eq hr6)
          refine lv_iload_n hx hb dX0_atPlace_24 rfl (lv_at hl 3 rfl) ?_
          refine lv_icmp_ne (tgt := 30) hx hb dX0_atPlace_25 (by decide) (fun c8 => ?_) (fun c8 => ?_)
          · skip
            have hT1 := hT1.trans (if_neg c8)
            refine lv_iinc (v := (v1_3 + 1)) (lv' := [(3, .int (v1_3 + 1)), (0, .ref (ad 95)), (1, .int q1), (2, .int q2)]) hx hb dX0_atPlace_30 hl (k := 0) rfl rfl (by decide) rfl (fun ls hl => ?_)
            refine lv_goto (tgt := 2) hx hb dX0_atPlace_33 (by decide) ?_
            exact ih1 (v1_3 + 1) (hF.trans (lp_l hT1)) (Nat.lt_of_lt_of_le (by first | exact up_dec (by assumption) | (simp only [*]; exact up_dec (by assumption))) (Nat.le_of_lt_succ hm1)) _ _ ls (lv_sub hl [0, 1, 2, 3] rfl) hw
          · skip
            have hT1 := hT1.trans (if_pos c8)
            refine lv_iload_n hx hb dX0_atPlace_28 rfl (lv_at hl 0 rfl) ?_
            exact hret _ _ () _ _ _ dX0_atPlace_29 ((hF.trans (lp_r hT1)).symm.trans hsp) hw
  exact L1 _ 0 hF (Nat.lt_succ_self _) _ _ ls (lv_sub hl [0, 1, 2, 3] rfl) hw
theorem gy_X0_inReach : gY yX0_inReach RX0 cX0_inReach 5 (some .int) wsX0_inReach 3 := ⟨⟨_, rfl⟩, rfl, by decide +kernel, by decide +kernel, by decide +kernel⟩
def st_X0_inReach_3 (q1 : Int32) (q2 : Int32) (q3 : Int32) (C : CS) (v1_4 : Int32) : (Int32) ⊕ Int32 := (if C.2.1 6 ≤ v1_4 then .inr ((-1)) else (bnd (F_X0_isOpenOfKey C v1_4 q1) (fun r3 => (if r3 = 0 then .inl (v1_4 + 1) else (bnd (rAt 100 (C.1 6) v1_4) (fun r6 => (if (q2 + q3) < r6 then .inl (v1_4 + 1) else (bnd (rAt 100 (C.1 7) v1_4) (fun r9 => (if (r9 + q3) < q2 then .inl (v1_4 + 1) else .inr (v1_4)))))))))))
def F_X0_inReach (C : CS) (q1 : Int32) (q2 : Int32) (q3 : Int32) : Int32 := lp (fun (z : Int32) => st_X0_inReach_3 q1 q2 q3 C z) 0 (((C.2.1 6).toInt - (0 : Int32).toInt).toNat + 1) 0
abbrev rmX0_inReach : Room := { frames := 2, cells := 0, slots := 0, locals := 43 }
set_option maxHeartbeats 4000000 in
set_option maxRecDepth 100000 in
theorem c_X0_inReach (l : Launch) (D : va_G) (cy : Nat → ClassId) (ad : Nat → Nat) (rest : va_W) (C : CS) (q1 : Int32) (q2 : Int32) (q3 : Int32) : GMi l yX0_inReach wsX0_inReach rmX0_inReach D cy [.ref (ad 95), .int q1, .int q2, .int q3] (CW cy ad C ++ rest) (fun (r : Int32) (_ : Unit) => r = F_X0_inReach C q1 q2 q3) (fun _ => CW cy ad C ++ rest) := by
  refine GMi.intro cX0_inReach 5 RX0 (by decide) rfl rfl (Nat.le_of_ble_eq_true rfl) ?_
  intro p e s m args below meth c A Q ls X hret hl hw
  have hx := X.1
  have hb := X.2.1
  have hl : lv_has ls 5 [(0, .ref (ad 95)), (1, .int q1), (2, .int q2), (3, .int q3)] := hl
  have inX0 : ∀ w ∈ wsX00, w ∈ wsX0_inReach := fun w h => List.mem_cons_of_mem _ (List.mem_append_left _ (List.mem_append_left _ (List.mem_append_right _ h)))
  obtain ⟨sp, hsp⟩ : ∃ sp, sp = F_X0_inReach C q1 q2 q3 := ⟨_, rfl⟩
  have hF := hsp.trans (F_X0_inReach.eq_1 C q1 q2 q3)
  refine lv_iconst (v := 0) hx hb dX0_inReach_0 (by decide) ?_
  refine lv_istore (lv' := [(4, .int 0), (0, .ref (ad 95)), (1, .int q1), (2, .int q2), (3, .int q3)]) hx hb dX0_inReach_1 hl (by decide) rfl (fun ls hl => ?_)
  have L1 : ∀ (n1 : Nat) (v1_4 : Int32), sp = lp (fun (z : Int32) => st_X0_inReach_3 q1 q2 q3 C z) 0 n1 v1_4 → ((C.2.1 6).toInt - v1_4.toInt).toNat < n1 → ∀ (H : Heap) (locs : List Loc) (ls : Array Slot), lv_has ls 5 [(4, .int v1_4), (0, .ref (ad 95)), (1, .int q1), (2, .int q2), (3, .int q3)] → gw D A s.heap (CW cy ad C ++ rest) H locs → W p l e rmX0_inReach s m args below meth c H locs 0 0 Q (F0 m 3 ls []) := by
    intro n1
    induction n1 with
    | zero => intro v1_4 hF hm1; exact absurd hm1 (Nat.not_lt_zero _)
    | succ n1 ih1 =>
      intro v1_4 hF hm1 H locs ls hl hw
      have hT1 := st_X0_inReach_3.eq_1 q1 q2 q3 C v1_4
      refine lv_iload hx hb dX0_inReach_3 (lv_at hl 0 rfl) ?_
      refine lv_aload_n hx hb dX0_inReach_5 rfl (lv_at hl 1 rfl) ?_
      refine g_get (v := .int (C.2.1 6)) (C := RX0) (T := TX0) (N := 10) (ci := 2) X inX0 hw 95 rfl rfl 9 (by decide) (List.mem_of_getElem? (i := 1) rfl) rfl rfl dX0_inReach_6 ?_
      refine lv_icmp_ge (tgt := 61) hx hb dX0_inReach_9 (by decide) (fun c2 => ?_) (fun c2 => ?_)
      · skip
        have hT1 := hT1.trans (if_pos c2)
        refine lv_iconst (v := (-1)) hx hb dX0_inReach_61 (by decide) ?_
        exact hret _ _ () _ _ _ dX0_inReach_62 ((hF.trans (lp_r hT1)).symm.trans hsp) hw
      · skip
        have hT1 := hT1.trans (if_neg c2)
        refine lv_aload_n hx hb dX0_inReach_12 rfl (lv_at hl 1 rfl) ?_
        refine lv_iload hx hb dX0_inReach_13 (lv_at hl 0 rfl) ?_
        refine lv_iload_n hx hb dX0_inReach_15 rfl (lv_at hl 2 rfl) ?_
        refine gcV_i (rest := []) X (c_X0_isOpenOfKey l D cy ad rest C v1_4 q1) gy_X0_isOpenOfKey gX0_inReach_X0_isOpenOfKey ⟨rfl, rfl, Nat.le_of_ble_eq_true rfl, Nat.le_of_ble_eq_true rfl⟩ 95 rfl rfl rfl hl rfl (Nat.le_of_ble_eq_true rfl) dX0_inReach_16 ⟨Nat.zero_le _, Nat.zero_le _⟩ hw (fun r3 _ H locs hr3 hw => ?_)
        obtain ⟨hr3, zr3⟩ : r3 = F_X0_isOpenOfKey C v1_4 q1 ∧ (r3 = 0 ∨ r3 = 1) := hr3
        have hT1 := hT1.trans (bnd_eq hr3)
        refine lv_if_eq (tgt := 55) hx hb dX0_inReach_19 (by decide) (fun c5 => ?_) (fun c5 => ?_)
        · skip
          have hT1 := hT1.trans (if_pos c5)
          refine lv_iinc (v := (v1_4 + 1)) (lv' := [(4, .int (v1_4 + 1)), (0, .ref (ad 95)), (1, .int q1), (2, .int q2), (3, .int q3)]) hx hb dX0_inReach_55 hl (k := 0) rfl rfl (by decide) rfl (fun ls hl => ?_)
          refine lv_goto (tgt := 3) hx hb dX0_inReach_58 (by decide) ?_
          exact ih1 (v1_4 + 1) (hF.trans (lp_l hT1)) (Nat.lt_of_lt_of_le (by first | exact up_dec (by assumption) | (simp only [*]; exact up_dec (by assumption))) (Nat.le_of_lt_succ hm1)) _ _ ls (lv_sub hl [0, 1, 2, 3, 4] rfl) hw
        · skip
          have hT1 := hT1.trans (if_neg c5)
          refine lv_aload_n hx hb dX0_inReach_22 rfl (lv_at hl 1 rfl) ?_
          refine g_get (v := .ref (ad 12)) (C := RX0) (T := TX0) (N := 10) (ci := 2) X inX0 hw 95 rfl rfl 1 (by decide) (List.mem_of_getElem? (i := 2) rfl) rfl rfl dX0_inReach_23 ?_
          refine lv_iload hx hb dX0_inReach_26 (lv_at hl 0 rfl) ?_
          refine gcV_i (rest := []) X (cR_at l D cy ad rest C 6 (by decide) v1_4) gy_X4_at gX0_inReach_X4_at ⟨rfl, rfl, Nat.le_of_ble_eq_true rfl, Nat.le_of_ble_eq_true rfl⟩ 12 rfl rfl rfl hl rfl (Nat.le_of_ble_eq_true rfl) dX0_inReach_28 ⟨Nat.zero_le _, Nat.zero_le _⟩ hw (fun r6 _ H locs hr6 hw => ?_)
          have hr6 : r6 = rAt 100 (C.1 6) v1_4 := hr6
          have hT1 := hT1.trans (bnd_eq hr6)
          refine lv_iload_n hx hb dX0_inReach_31 rfl (lv_at hl 3 rfl) ?_
          refine lv_iload_n hx hb dX0_inReach_32 rfl (lv_at hl 4 rfl) ?_
          refine lv_iadd hx hb dX0_inReach_33 ?_
          refine lv_icmp_gt (tgt := 55) hx hb dX0_inReach_34 (by decide) (fun c8 => ?_) (fun c8 => ?_)
          · skip
            have hT1 := hT1.trans (if_pos c8)
            refine lv_iinc (v := (v1_4 + 1)) (lv' := [(4, .int (v1_4 + 1)), (0, .ref (ad 95)), (1, .int q1), (2, .int q2), (3, .int q3)]) hx hb dX0_inReach_55 hl (k := 0) rfl rfl (by decide) rfl (fun ls hl => ?_)
            refine lv_goto (tgt := 3) hx hb dX0_inReach_58 (by decide) ?_
            exact ih1 (v1_4 + 1) (hF.trans (lp_l hT1)) (Nat.lt_of_lt_of_le (by first | exact up_dec (by assumption) | (simp only [*]; exact up_dec (by assumption))) (Nat.le_of_lt_succ hm1)) _ _ ls (lv_sub hl [0, 1, 2, 3, 4] rfl) hw
          · skip
            have hT1 := hT1.trans (if_neg c8)
            refine lv_aload_n hx hb dX0_inReach_37 rfl (lv_at hl 1 rfl) ?_
            refine g_get (v := .ref (ad 14)) (C := RX0) (T := TX0) (N := 10) (ci := 2) X inX0 hw 95 rfl rfl 2 (by decide) (List.mem_of_getElem? (i := 3) rfl) rfl rfl dX0_inReach_38 ?_
            refine lv_iload hx hb dX0_inReach_41 (lv_at hl 0 rfl) ?_
            refine gcV_i (rest := []) X (cR_at l D cy ad rest C 7 (by decide) v1_4) gy_X4_at gX0_inReach_X4_at ⟨rfl, rfl, Nat.le_of_ble_eq_true rfl, Nat.le_of_ble_eq_true rfl⟩ 14 rfl rfl rfl hl rfl (Nat.le_of_ble_eq_true rfl) dX0_inReach_43 ⟨Nat.zero_le _, Nat.zero_le _⟩ hw (fun r9 _ H locs hr9 hw => ?_)
            have hr9 : r9 = rAt 100 (C.1 7) v1_4 := hr9
            have hT1 := hT1.trans (bnd_eq hr9)
            refine lv_iload_n hx hb dX0_inReach_46 rfl (lv_at hl 4 rfl) ?_
            refine lv_iadd hx hb dX0_inReach_47 ?_
            refine lv_iload_n hx hb dX0_inReach_48 rfl (lv_at hl 3 rfl) ?_
            refine lv_icmp_lt (tgt := 55) hx hb dX0_inReach_49 (by decide) (fun c11 => ?_) (fun c11 => ?_)
            · skip
              have hT1 := hT1.trans (if_pos c11)
              refine lv_iinc (v := (v1_4 + 1)) (lv' := [(4, .int (v1_4 + 1)), (0, .ref (ad 95)), (1, .int q1), (2, .int q2), (3, .int q3)]) hx hb dX0_inReach_55 hl (k := 0) rfl rfl (by decide) rfl (fun ls hl => ?_)
              refine lv_goto (tgt := 3) hx hb dX0_inReach_58 (by decide) ?_
              exact ih1 (v1_4 + 1) (hF.trans (lp_l hT1)) (Nat.lt_of_lt_of_le (by first | exact up_dec (by assumption) | (simp only [*]; exact up_dec (by assumption))) (Nat.le_of_lt_succ hm1)) _ _ ls (lv_sub hl [0, 1, 2, 3, 4] rfl) hw
            · skip
              have hT1 := hT1.trans (if_neg c11)
              refine lv_iload hx hb dX0_inReach_52 (lv_at hl 0 rfl) ?_
              exact hret _ _ () _ _ _ dX0_inReach_54 ((hF.trans (lp_r hT1)).symm.trans hsp) hw
  exact L1 _ 0 hF (Nat.lt_succ_self _) _ _ ls (lv_sub hl [0, 1, 2, 3, 4] rfl) hw
theorem gy_X0_startsIn : gY yX0_startsIn RX0 cX0_startsIn 4 (some .boolean) wsX0_startsIn 3 := ⟨⟨_, rfl⟩, rfl, by decide +kernel, by decide +kernel, by decide +kernel⟩
def F_X0_startsIn (C : CS) (q1 : Int32) (q2 : Int32) (q3 : Int32) : Int32 := (bnd (rAt 100 (C.1 6) q1) (fun r1 => (bnd (rAt 100 (C.1 6) q2) (fun r3 => (if r1 < r3 then 0 else (bnd (rAt 100 (C.1 7) q2) (fun r8 => (if (r8 + q3) < r1 then 0 else 1))))))))
abbrev rmX0_startsIn : Room := { frames := 1, cells := 0, slots := 0, locals := 21 }
set_option maxHeartbeats 4000000 in
set_option maxRecDepth 100000 in
theorem c_X0_startsIn (l : Launch) (D : va_G) (cy : Nat → ClassId) (ad : Nat → Nat) (rest : va_W) (C : CS) (q1 : Int32) (q2 : Int32) (q3 : Int32) : GMi l yX0_startsIn wsX0_startsIn rmX0_startsIn D cy [.ref (ad 95), .int q1, .int q2, .int q3] (CW cy ad C ++ rest) (fun (r : Int32) (_ : Unit) => r = F_X0_startsIn C q1 q2 q3 ∧ (r = 0 ∨ r = 1)) (fun _ => CW cy ad C ++ rest) := by
  refine GMz.intro cX0_startsIn 4 RX0 (by decide) rfl rfl (Nat.le_of_ble_eq_true rfl) ?_
  intro p e s m args below meth c A Q ls X hret hl hw
  have hx := X.1
  have hb := X.2.1
  have hl : lv_has ls 4 [(0, .ref (ad 95)), (1, .int q1), (2, .int q2), (3, .int q3)] := hl
  have inX0 : ∀ w ∈ wsX00, w ∈ wsX0_startsIn := fun w h => List.mem_cons_of_mem _ (List.mem_append_left _ (List.mem_append_left _ (List.mem_append_right _ h)))
  obtain ⟨sp, hsp⟩ : ∃ sp, sp = F_X0_startsIn C q1 q2 q3 := ⟨_, rfl⟩
  have hF := hsp.trans (F_X0_startsIn.eq_1 C q1 q2 q3)
  refine lv_aload_n hx hb dX0_startsIn_0 rfl (lv_at hl 0 rfl) ?_
  refine g_get (v := .ref (ad 12)) (C := RX0) (T := TX0) (N := 10) (ci := 2) X inX0 hw 95 rfl rfl 1 (by decide) (List.mem_of_getElem? (i := 1) rfl) rfl rfl dX0_startsIn_1 ?_
  refine lv_iload_n hx hb dX0_startsIn_4 rfl (lv_at hl 1 rfl) ?_
  refine gcV_i (rest := []) X (cR_at l D cy ad rest C 6 (by decide) q1) gy_X4_at gX0_startsIn_X4_at ⟨rfl, rfl, Nat.le_of_ble_eq_true rfl, Nat.le_of_ble_eq_true rfl⟩ 12 rfl rfl rfl hl rfl (Nat.le_of_ble_eq_true rfl) dX0_startsIn_5 ⟨Nat.zero_le _, Nat.zero_le _⟩ hw (fun r1 _ H locs hr1 hw => ?_)
  have hr1 : r1 = rAt 100 (C.1 6) q1 := hr1
  have hF := hF.trans (bnd_eq hr1)
  refine lv_aload_n hx hb dX0_startsIn_8 rfl (lv_at hl 0 rfl) ?_
  refine g_get (v := .ref (ad 12)) (C := RX0) (T := TX0) (N := 10) (ci := 2) X inX0 hw 95 rfl rfl 1 (by decide) (List.mem_of_getElem? (i := 1) rfl) rfl rfl dX0_startsIn_9 ?_
  refine lv_iload_n hx hb dX0_startsIn_12 rfl (lv_at hl 2 rfl) ?_
  refine gcV_i (rest := [.int r1]) X (cR_at l D cy ad rest C 6 (by decide) q2) gy_X4_at gX0_startsIn_X4_at ⟨rfl, rfl, Nat.le_of_ble_eq_true rfl, Nat.le_of_ble_eq_true rfl⟩ 12 rfl rfl rfl hl rfl (Nat.le_of_ble_eq_true rfl) dX0_startsIn_13 ⟨Nat.zero_le _, Nat.zero_le _⟩ hw (fun r3 _ H locs hr3 hw => ?_)
  have hr3 : r3 = rAt 100 (C.1 6) q2 := hr3
  have hF := hF.trans (bnd_eq hr3)
  refine lv_icmp_lt (tgt := 44) hx hb dX0_startsIn_16 (by decide) (fun c5 => ?_) (fun c5 => ?_)
  · skip
    have hF := hF.trans (if_pos c5)
    refine lv_iconst (v := 0) hx hb dX0_startsIn_44 (by decide) ?_
    exact hret _ _ () _ _ _ dX0_startsIn_45 (Or.inl rfl) ⟨hF.symm.trans hsp, (Or.inl rfl)⟩ hw
  · skip
    have hF := hF.trans (if_neg c5)
    refine lv_aload_n hx hb dX0_startsIn_19 rfl (lv_at hl 0 rfl) ?_
    refine g_get (v := .ref (ad 12)) (C := RX0) (T := TX0) (N := 10) (ci := 2) X inX0 hw 95 rfl rfl 1 (by decide) (List.mem_of_getElem? (i := 1) rfl) rfl rfl dX0_startsIn_20 ?_
    refine lv_iload_n hx hb dX0_startsIn_23 rfl (lv_at hl 1 rfl) ?_
    refine gcV_i (rest := []) X (cR_at l D cy ad rest C 6 (by decide) q1) gy_X4_at gX0_startsIn_X4_at ⟨rfl, rfl, Nat.le_of_ble_eq_true rfl, Nat.le_of_ble_eq_true rfl⟩ 12 rfl rfl rfl hl rfl (Nat.le_of_ble_eq_true rfl) dX0_startsIn_24 ⟨Nat.zero_le _, Nat.zero_le _⟩ hw (fun r6 _ H locs hr6 hw => ?_)
    have hr6 : r6 = rAt 100 (C.1 6) q1 := hr6
    rw [show r6 = r1 from hr6.trans hr1.symm]
    refine lv_aload_n hx hb dX0_startsIn_27 rfl (lv_at hl 0 rfl) ?_
    refine g_get (v := .ref (ad 14)) (C := RX0) (T := TX0) (N := 10) (ci := 2) X inX0 hw 95 rfl rfl 2 (by decide) (List.mem_of_getElem? (i := 2) rfl) rfl rfl dX0_startsIn_28 ?_
    refine lv_iload_n hx hb dX0_startsIn_31 rfl (lv_at hl 2 rfl) ?_
    refine gcV_i (rest := [.int r1]) X (cR_at l D cy ad rest C 7 (by decide) q2) gy_X4_at gX0_startsIn_X4_at ⟨rfl, rfl, Nat.le_of_ble_eq_true rfl, Nat.le_of_ble_eq_true rfl⟩ 14 rfl rfl rfl hl rfl (Nat.le_of_ble_eq_true rfl) dX0_startsIn_32 ⟨Nat.zero_le _, Nat.zero_le _⟩ hw (fun r8 _ H locs hr8 hw => ?_)
    have hr8 : r8 = rAt 100 (C.1 7) q2 := hr8
    have hF := hF.trans (bnd_eq hr8)
    refine lv_iload_n hx hb dX0_startsIn_35 rfl (lv_at hl 3 rfl) ?_
    refine lv_iadd hx hb dX0_startsIn_36 ?_
    refine lv_icmp_gt (tgt := 44) hx hb dX0_startsIn_37 (by decide) (fun c10 => ?_) (fun c10 => ?_)
    · skip
      have hF := hF.trans (if_pos c10)
      refine lv_iconst (v := 0) hx hb dX0_startsIn_44 (by decide) ?_
      exact hret _ _ () _ _ _ dX0_startsIn_45 (Or.inl rfl) ⟨hF.symm.trans hsp, (Or.inl rfl)⟩ hw
    · skip
      have hF := hF.trans (if_neg c10)
      refine lv_iconst (v := 1) hx hb dX0_startsIn_40 (by decide) ?_
      refine lv_goto (tgt := 45) hx hb dX0_startsIn_41 (by decide) ?_
      exact hret _ _ () _ _ _ dX0_startsIn_45 (Or.inr rfl) ⟨hF.symm.trans hsp, (Or.inr rfl)⟩ hw
theorem gy_X0_partnerOf : gY yX0_partnerOf RX0 cX0_partnerOf 4 (some .int) wsX0_partnerOf 2 := ⟨⟨_, rfl⟩, rfl, by decide +kernel, by decide +kernel, by decide +kernel⟩
def st_X0_partnerOf_4 (q1 : Int32) (q2 : Int32) (C : CS) (v1_3 : Int32) : (Int32) ⊕ Int32 := (if C.2.1 6 ≤ v1_3 then .inr ((-1)) else (bnd (rAt 100 (C.1 5) q1) (fun r3 => (bnd (F_X0_isOpenOfKey C v1_3 r3) (fun r5 => (if r5 = 0 then .inl (v1_3 + 1) else (bnd (F_X0_startsIn C v1_3 q1 q2) (fun r8 => (if r8 = 0 then (bnd (F_X0_startsIn C q1 v1_3 q2) (fun r11 => (if r11 = 0 then .inl (v1_3 + 1) else .inr (v1_3)))) else .inr (v1_3))))))))))
def F_X0_partnerOf (C : CS) (q1 : Int32) (q2 : Int32) : Int32 := lp (fun (z : Int32) => st_X0_partnerOf_4 q1 q2 C z) 0 (((C.2.1 6).toInt - (q1 + 1).toInt).toNat + 1) (q1 + 1)
abbrev rmX0_partnerOf : Room := { frames := 2, cells := 0, slots := 0, locals := 44 }
set_option maxHeartbeats 4000000 in
set_option maxRecDepth 100000 in
theorem c_X0_partnerOf (l : Launch) (D : va_G) (cy : Nat → ClassId) (ad : Nat → Nat) (rest : va_W) (C : CS) (q1 : Int32) (q2 : Int32) : GMi l yX0_partnerOf wsX0_partnerOf rmX0_partnerOf D cy [.ref (ad 95), .int q1, .int q2] (CW cy ad C ++ rest) (fun (r : Int32) (_ : Unit) => r = F_X0_partnerOf C q1 q2) (fun _ => CW cy ad C ++ rest) := by
  refine GMi.intro cX0_partnerOf 4 RX0 (by decide) rfl rfl (Nat.le_of_ble_eq_true rfl) ?_
  intro p e s m args below meth c A Q ls X hret hl hw
  have hx := X.1
  have hb := X.2.1
  have hl : lv_has ls 4 [(0, .ref (ad 95)), (1, .int q1), (2, .int q2)] := hl
  have inX0 : ∀ w ∈ wsX00, w ∈ wsX0_partnerOf := fun w h => List.mem_cons_of_mem _ (List.mem_append_left _ (List.mem_append_left _ (List.mem_append_right _ h)))
  obtain ⟨sp, hsp⟩ : ∃ sp, sp = F_X0_partnerOf C q1 q2 := ⟨_, rfl⟩
  have hF := hsp.trans (F_X0_partnerOf.eq_1 C q1 q2)
  refine lv_iload_n hx hb dX0_partnerOf_0 rfl (lv_at hl 1 rfl) ?_
  refine lv_iconst (v := 1) hx hb dX0_partnerOf_1 (by decide) ?_
  refine lv_iadd hx hb dX0_partnerOf_2 ?_
  refine lv_istore_n (lv' := [(3, .int (q1 + 1)), (0, .ref (ad 95)), (1, .int q1), (2, .int q2)]) hx hb dX0_partnerOf_3 rfl hl (by decide) rfl (fun ls hl => ?_)
  have L1 : ∀ (n1 : Nat) (v1_3 : Int32), sp = lp (fun (z : Int32) => st_X0_partnerOf_4 q1 q2 C z) 0 n1 v1_3 → ((C.2.1 6).toInt - v1_3.toInt).toNat < n1 → ∀ (H : Heap) (locs : List Loc) (ls : Array Slot), lv_has ls 4 [(3, .int v1_3), (0, .ref (ad 95)), (1, .int q1), (2, .int q2)] → gw D A s.heap (CW cy ad C ++ rest) H locs → W p l e rmX0_partnerOf s m args below meth c H locs 0 0 Q (F0 m 4 ls []) := by
    intro n1
    induction n1 with
    | zero => intro v1_3 hF hm1; exact absurd hm1 (Nat.not_lt_zero _)
    | succ n1 ih1 =>
      intro v1_3 hF hm1 H locs ls hl hw
      have hT1 := st_X0_partnerOf_4.eq_1 q1 q2 C v1_3
      refine lv_iload_n hx hb dX0_partnerOf_4 rfl (lv_at hl 0 rfl) ?_
      refine lv_aload_n hx hb dX0_partnerOf_5 rfl (lv_at hl 1 rfl) ?_
      refine g_get (v := .int (C.2.1 6)) (C := RX0) (T := TX0) (N := 10) (ci := 2) X inX0 hw 95 rfl rfl 9 (by decide) (List.mem_of_getElem? (i := 1) rfl) rfl rfl dX0_partnerOf_6 ?_
      refine lv_icmp_ge (tgt := 56) hx hb dX0_partnerOf_9 (by decide) (fun c2 => ?_) (fun c2 => ?_)
      · skip
        have hT1 := hT1.trans (if_pos c2)
        refine lv_iconst (v := (-1)) hx hb dX0_partnerOf_56 (by decide) ?_
        exact hret _ _ () _ _ _ dX0_partnerOf_57 ((hF.trans (lp_r hT1)).symm.trans hsp) hw
      · skip
        have hT1 := hT1.trans (if_neg c2)
        refine lv_aload_n hx hb dX0_partnerOf_12 rfl (lv_at hl 1 rfl) ?_
        refine lv_iload_n hx hb dX0_partnerOf_13 rfl (lv_at hl 0 rfl) ?_
        refine lv_aload_n hx hb dX0_partnerOf_14 rfl (lv_at hl 1 rfl) ?_
        refine g_get (v := .ref (ad 10)) (C := RX0) (T := TX0) (N := 10) (ci := 2) X inX0 hw 95 rfl rfl 0 (by decide) (List.mem_of_getElem? (i := 2) rfl) rfl rfl dX0_partnerOf_15 ?_
        refine lv_iload_n hx hb dX0_partnerOf_18 rfl (lv_at hl 2 rfl) ?_
        refine gcV_i (rest := [.int v1_3, .ref (ad 95)]) X (cR_at l D cy ad rest C 5 (by decide) q1) gy_X4_at gX0_partnerOf_X4_at ⟨rfl, rfl, Nat.le_of_ble_eq_true rfl, Nat.le_of_ble_eq_true rfl⟩ 10 rfl rfl rfl hl rfl (Nat.le_of_ble_eq_true rfl) dX0_partnerOf_19 ⟨Nat.zero_le _, Nat.zero_le _⟩ hw (fun r3 _ H locs hr3 hw => ?_)
        have hr3 : r3 = rAt 100 (C.1 5) q1 := hr3
        have hT1 := hT1.trans (bnd_eq hr3)
        refine gcV_i (rest := []) X (c_X0_isOpenOfKey l D cy ad rest C v1_3 r3) gy_X0_isOpenOfKey gX0_partnerOf_X0_isOpenOfKey ⟨rfl, rfl, Nat.le_of_ble_eq_true rfl, Nat.le_of_ble_eq_true rfl⟩ 95 rfl rfl rfl hl rfl (Nat.le_of_ble_eq_true rfl) dX0_partnerOf_22 ⟨Nat.zero_le _, Nat.zero_le _⟩ hw (fun r5 _ H locs hr5 hw => ?_)
        obtain ⟨hr5, zr5⟩ : r5 = F_X0_isOpenOfKey C v1_3 r3 ∧ (r5 = 0 ∨ r5 = 1) := hr5
        have hT1 := hT1.trans (bnd_eq hr5)
        refine lv_if_eq (tgt := 50) hx hb dX0_partnerOf_25 (by decide) (fun c7 => ?_) (fun c7 => ?_)
        · skip
          have hT1 := hT1.trans (if_pos c7)
          refine lv_iinc (v := (v1_3 + 1)) (lv' := [(3, .int (v1_3 + 1)), (0, .ref (ad 95)), (1, .int q1), (2, .int q2)]) hx hb dX0_partnerOf_50 hl (k := 0) rfl rfl (by decide) rfl (fun ls hl => ?_)
          refine lv_goto (tgt := 4) hx hb dX0_partnerOf_53 (by decide) ?_
          exact ih1 (v1_3 + 1) (hF.trans (lp_l hT1)) (Nat.lt_of_lt_of_le (by first | exact up_dec (by assumption) | (simp only [*]; exact up_dec (by assumption))) (Nat.le_of_lt_succ hm1)) _ _ ls (lv_sub hl [0, 1, 2, 3] rfl) hw
        · skip
          have hT1 := hT1.trans (if_neg c7)
          refine lv_aload_n hx hb dX0_partnerOf_28 rfl (lv_at hl 1 rfl) ?_
          refine lv_iload_n hx hb dX0_partnerOf_29 rfl (lv_at hl 0 rfl) ?_
          refine lv_iload_n hx hb dX0_partnerOf_30 rfl (lv_at hl 2 rfl) ?_
          refine lv_iload_n hx hb dX0_partnerOf_31 rfl (lv_at hl 3 rfl) ?_
          refine gcV_i (rest := []) X (c_X0_startsIn l D cy ad rest C v1_3 q1 q2) gy_X0_startsIn gX0_partnerOf_X0_startsIn ⟨rfl, rfl, Nat.le_of_ble_eq_true rfl, Nat.le_of_ble_eq_true rfl⟩ 95 rfl rfl rfl hl rfl (Nat.le_of_ble_eq_true rfl) dX0_partnerOf_32 ⟨Nat.zero_le _, Nat.zero_le _⟩ hw (fun r8 _ H locs hr8 hw => ?_)
          obtain ⟨hr8, zr8⟩ : r8 = F_X0_startsIn C v1_3 q1 q2 ∧ (r8 = 0 ∨ r8 = 1) := hr8
          have hT1 := hT1.trans (bnd_eq hr8)
          refine lv_if_ne (tgt := 48) hx hb dX0_partnerOf_35 (by decide) (fun c10 => ?_) (fun c10 => ?_)
          · skip
            have hT1 := hT1.trans (if_neg c10)
            refine lv_iload_n hx hb dX0_partnerOf_48 rfl (lv_at hl 0 rfl) ?_
            exact hret _ _ () _ _ _ dX0_partnerOf_49 ((hF.trans (lp_r hT1)).symm.trans hsp) hw
          · skip
            have hT1 := hT1.trans (if_pos c10)
            refine lv_aload_n hx hb dX0_partnerOf_38 rfl (lv_at hl 1 rfl) ?_
            refine lv_iload_n hx hb dX0_partnerOf_39 rfl (lv_at hl 2 rfl) ?_
            refine lv_iload_n hx hb dX0_partnerOf_40 rfl (lv_at hl 0 rfl) ?_
            refine lv_iload_n hx hb dX0_partnerOf_41 rfl (lv_at hl 3 rfl) ?_
            refine gcV_i (rest := []) X (c_X0_startsIn l D cy ad rest C q1 v1_3 q2) gy_X0_startsIn gX0_partnerOf_X0_startsIn ⟨rfl, rfl, Nat.le_of_ble_eq_true rfl, Nat.le_of_ble_eq_true rfl⟩ 95 rfl rfl rfl hl rfl (Nat.le_of_ble_eq_true rfl) dX0_partnerOf_42 ⟨Nat.zero_le _, Nat.zero_le _⟩ hw (fun r11 _ H locs hr11 hw => ?_)
            obtain ⟨hr11, zr11⟩ : r11 = F_X0_startsIn C q1 v1_3 q2 ∧ (r11 = 0 ∨ r11 = 1) := hr11
            have hT1 := hT1.trans (bnd_eq hr11)
            refine lv_if_eq (tgt := 50) hx hb dX0_partnerOf_45 (by decide) (fun c13 => ?_) (fun c13 => ?_)
            · skip
              have hT1 := hT1.trans (if_pos c13)
              refine lv_iinc (v := (v1_3 + 1)) (lv' := [(3, .int (v1_3 + 1)), (0, .ref (ad 95)), (1, .int q1), (2, .int q2)]) hx hb dX0_partnerOf_50 hl (k := 0) rfl rfl (by decide) rfl (fun ls hl => ?_)
              refine lv_goto (tgt := 4) hx hb dX0_partnerOf_53 (by decide) ?_
              exact ih1 (v1_3 + 1) (hF.trans (lp_l hT1)) (Nat.lt_of_lt_of_le (by first | exact up_dec (by assumption) | (simp only [*]; exact up_dec (by assumption))) (Nat.le_of_lt_succ hm1)) _ _ ls (lv_sub hl [0, 1, 2, 3] rfl) hw
            · skip
              have hT1 := hT1.trans (if_neg c13)
              refine lv_iload_n hx hb dX0_partnerOf_48 rfl (lv_at hl 0 rfl) ?_
              exact hret _ _ () _ _ _ dX0_partnerOf_49 ((hF.trans (lp_r hT1)).symm.trans hsp) hw
  exact L1 _ (q1 + 1) hF (Nat.lt_succ_self _) _ _ ls (lv_sub hl [0, 1, 2, 3] rfl) hw
theorem gy_X0_swallow : gY yX0_swallow RX0 cX0_swallow 3 none wsX0_swallow 2 := ⟨⟨_, rfl⟩, rfl, by decide +kernel, by decide +kernel, by decide +kernel⟩
def F_X0_swallow (C : CS) (q1 : Int32) (q2 : Int32) : CS := (bnd (rAt 100 (C.1 6) q1) (fun r1 => (bnd (rAt 100 (C.1 6) q2) (fun r3 => (bnd (sR C 6 (rPut 100 (C.1 6) q1 (if r3 < r1 then r3 else r1))) (fun u6 => (bnd (rAt 100 (u6.1 7) q1) (fun r7 => (bnd (rAt 100 (u6.1 7) q2) (fun r9 => (bnd (sR u6 7 (rPut 100 (u6.1 7) q1 (if r7 < r9 then r9 else r7))) (fun u12 => (bnd (sR u12 8 (rPut 100 (u12.1 8) q2 2)) (fun u14 => u14))))))))))))))
abbrev rmX0_swallow : Room := { frames := 1, cells := 0, slots := 0, locals := 22 }
set_option maxHeartbeats 4000000 in
set_option maxRecDepth 100000 in
theorem c_X0_swallow (l : Launch) (D : va_G) (cy : Nat → ClassId) (ad : Nat → Nat) (rest : va_W) (C : CS) (q1 : Int32) (q2 : Int32) : GMv l yX0_swallow wsX0_swallow rmX0_swallow D cy [.ref (ad 95), .int q1, .int q2] (CW cy ad C ++ rest) (fun (u : CS) => u = F_X0_swallow C q1 q2) (fun u => CW cy ad u ++ rest) := by
  refine GMv.intro cX0_swallow 3 RX0 (by decide) rfl rfl (Nat.le_of_ble_eq_true rfl) ?_
  intro p e s m args below meth c A Q ls X hret hl hw
  have hx := X.1
  have hb := X.2.1
  have hl : lv_has ls 3 [(0, .ref (ad 95)), (1, .int q1), (2, .int q2)] := hl
  have inX0 : ∀ w ∈ wsX00, w ∈ wsX0_swallow := fun w h => List.mem_cons_of_mem _ (List.mem_append_left _ (List.mem_append_left _ (List.mem_append_right _ h)))
  obtain ⟨sp, hsp⟩ : ∃ sp, sp = F_X0_swallow C q1 q2 := ⟨_, rfl⟩
  have hF := hsp.trans (F_X0_swallow.eq_1 C q1 q2)
  refine lv_aload_n hx hb dX0_swallow_0 rfl (lv_at hl 0 rfl) ?_
  refine g_get (v := .ref (ad 12)) (C := RX0) (T := TX0) (N := 10) (ci := 2) X inX0 hw 95 rfl rfl 1 (by decide) (List.mem_of_getElem? (i := 1) rfl) rfl rfl dX0_swallow_1 ?_
  refine lv_iload_n hx hb dX0_swallow_4 rfl (lv_at hl 1 rfl) ?_
  refine lv_aload_n hx hb dX0_swallow_5 rfl (lv_at hl 0 rfl) ?_
  refine g_get (v := .ref (ad 12)) (C := RX0) (T := TX0) (N := 10) (ci := 2) X inX0 hw 95 rfl rfl 1 (by decide) (List.mem_of_getElem? (i := 1) rfl) rfl rfl dX0_swallow_6 ?_
  refine lv_iload_n hx hb dX0_swallow_9 rfl (lv_at hl 1 rfl) ?_
  refine gcV_i (rest := [.int q1, .ref (ad 12)]) X (cR_at l D cy ad rest C 6 (by decide) q1) gy_X4_at gX0_swallow_X4_at ⟨rfl, rfl, Nat.le_of_ble_eq_true rfl, Nat.le_of_ble_eq_true rfl⟩ 12 rfl rfl rfl hl rfl (Nat.le_of_ble_eq_true rfl) dX0_swallow_10 ⟨Nat.zero_le _, Nat.zero_le _⟩ hw (fun r1 _ H locs hr1 hw => ?_)
  have hr1 : r1 = rAt 100 (C.1 6) q1 := hr1
  have hF := hF.trans (bnd_eq hr1)
  refine lv_aload_n hx hb dX0_swallow_13 rfl (lv_at hl 0 rfl) ?_
  refine g_get (v := .ref (ad 12)) (C := RX0) (T := TX0) (N := 10) (ci := 2) X inX0 hw 95 rfl rfl 1 (by decide) (List.mem_of_getElem? (i := 1) rfl) rfl rfl dX0_swallow_14 ?_
  refine lv_iload_n hx hb dX0_swallow_17 rfl (lv_at hl 2 rfl) ?_
  refine gcV_i (rest := [.int r1, .int q1, .ref (ad 12)]) X (cR_at l D cy ad rest C 6 (by decide) q2) gy_X4_at gX0_swallow_X4_at ⟨rfl, rfl, Nat.le_of_ble_eq_true rfl, Nat.le_of_ble_eq_true rfl⟩ 12 rfl rfl rfl hl rfl (Nat.le_of_ble_eq_true rfl) dX0_swallow_18 ⟨Nat.zero_le _, Nat.zero_le _⟩ hw (fun r3 _ H locs hr3 hw => ?_)
  have hr3 : r3 = rAt 100 (C.1 6) q2 := hr3
  have hF := hF.trans (bnd_eq hr3)
  refine va_mmin hx hb (X.2.2.2.1.trans hl.1.symm) X.2.2.2.2.1 (X.2.2.2.2.2.1 _ (List.mem_of_getElem? (i := 2) rfl)) (X.2.2.2.2.2.1 _ (List.mem_of_getElem? (i := 3) rfl)) (X.2.2.2.2.2.1 _ (List.mem_of_getElem? (i := 4) rfl)) (X.2.2.2.2.2.1 _ (List.mem_of_getElem? (i := 5) rfl)) (Nat.le_of_ble_eq_true rfl) (Nat.le_of_ble_eq_true rfl) (Nat.zero_le _) (Nat.zero_le _) dX0_swallow_21 ?_
  refine gcV_v (rest := []) X (cR_put l D cy ad rest C 6 (by decide) q1 (if r3 < r1 then r3 else r1)) gy_X4_put gX0_swallow_X4_put ⟨rfl, rfl, Nat.le_of_ble_eq_true rfl, Nat.le_of_ble_eq_true rfl⟩ 12 rfl rfl rfl hl rfl (Nat.le_of_ble_eq_true rfl) dX0_swallow_24 ⟨Nat.zero_le _, Nat.zero_le _⟩ hw (fun u6 H locs hu6 hw => ?_)
  have hu6 : u6 = sR C 6 (rPut 100 (C.1 6) q1 (if r3 < r1 then r3 else r1)) := hu6
  have hF := hF.trans (bnd_eq hu6)
  refine lv_aload_n hx hb dX0_swallow_27 rfl (lv_at hl 0 rfl) ?_
  refine g_get (v := .ref (ad 14)) (C := RX0) (T := TX0) (N := 10) (ci := 2) X inX0 hw 95 rfl rfl 2 (by decide) (List.mem_of_getElem? (i := 6) rfl) rfl rfl dX0_swallow_28 ?_
  refine lv_iload_n hx hb dX0_swallow_31 rfl (lv_at hl 1 rfl) ?_
  refine lv_aload_n hx hb dX0_swallow_32 rfl (lv_at hl 0 rfl) ?_
  refine g_get (v := .ref (ad 14)) (C := RX0) (T := TX0) (N := 10) (ci := 2) X inX0 hw 95 rfl rfl 2 (by decide) (List.mem_of_getElem? (i := 6) rfl) rfl rfl dX0_swallow_33 ?_
  refine lv_iload_n hx hb dX0_swallow_36 rfl (lv_at hl 1 rfl) ?_
  refine gcV_i (rest := [.int q1, .ref (ad 14)]) X (cR_at l D cy ad rest u6 7 (by decide) q1) gy_X4_at gX0_swallow_X4_at ⟨rfl, rfl, Nat.le_of_ble_eq_true rfl, Nat.le_of_ble_eq_true rfl⟩ 14 rfl rfl rfl hl rfl (Nat.le_of_ble_eq_true rfl) dX0_swallow_37 ⟨Nat.zero_le _, Nat.zero_le _⟩ hw (fun r7 _ H locs hr7 hw => ?_)
  have hr7 : r7 = rAt 100 (u6.1 7) q1 := hr7
  have hF := hF.trans (bnd_eq hr7)
  refine lv_aload_n hx hb dX0_swallow_40 rfl (lv_at hl 0 rfl) ?_
  refine g_get (v := .ref (ad 14)) (C := RX0) (T := TX0) (N := 10) (ci := 2) X inX0 hw 95 rfl rfl 2 (by decide) (List.mem_of_getElem? (i := 6) rfl) rfl rfl dX0_swallow_41 ?_
  refine lv_iload_n hx hb dX0_swallow_44 rfl (lv_at hl 2 rfl) ?_
  refine gcV_i (rest := [.int r7, .int q1, .ref (ad 14)]) X (cR_at l D cy ad rest u6 7 (by decide) q2) gy_X4_at gX0_swallow_X4_at ⟨rfl, rfl, Nat.le_of_ble_eq_true rfl, Nat.le_of_ble_eq_true rfl⟩ 14 rfl rfl rfl hl rfl (Nat.le_of_ble_eq_true rfl) dX0_swallow_45 ⟨Nat.zero_le _, Nat.zero_le _⟩ hw (fun r9 _ H locs hr9 hw => ?_)
  have hr9 : r9 = rAt 100 (u6.1 7) q2 := hr9
  have hF := hF.trans (bnd_eq hr9)
  refine va_mmax hx hb (X.2.2.2.1.trans hl.1.symm) X.2.2.2.2.1 (X.2.2.2.2.2.1 _ (List.mem_of_getElem? (i := 7) rfl)) (X.2.2.2.2.2.1 _ (List.mem_of_getElem? (i := 8) rfl)) (X.2.2.2.2.2.1 _ (List.mem_of_getElem? (i := 4) rfl)) (X.2.2.2.2.2.1 _ (List.mem_of_getElem? (i := 9) rfl)) (Nat.le_of_ble_eq_true rfl) (Nat.le_of_ble_eq_true rfl) (Nat.zero_le _) (Nat.zero_le _) dX0_swallow_48 ?_
  refine gcV_v (rest := []) X (cR_put l D cy ad rest u6 7 (by decide) q1 (if r7 < r9 then r9 else r7)) gy_X4_put gX0_swallow_X4_put ⟨rfl, rfl, Nat.le_of_ble_eq_true rfl, Nat.le_of_ble_eq_true rfl⟩ 14 rfl rfl rfl hl rfl (Nat.le_of_ble_eq_true rfl) dX0_swallow_51 ⟨Nat.zero_le _, Nat.zero_le _⟩ hw (fun u12 H locs hu12 hw => ?_)
  have hu12 : u12 = sR u6 7 (rPut 100 (u6.1 7) q1 (if r7 < r9 then r9 else r7)) := hu12
  have hF := hF.trans (bnd_eq hu12)
  refine lv_aload_n hx hb dX0_swallow_54 rfl (lv_at hl 0 rfl) ?_
  refine g_get (v := .ref (ad 16)) (C := RX0) (T := TX0) (N := 10) (ci := 2) X inX0 hw 95 rfl rfl 3 (by decide) (List.mem_of_getElem? (i := 10) rfl) rfl rfl dX0_swallow_55 ?_
  refine lv_iload_n hx hb dX0_swallow_58 rfl (lv_at hl 2 rfl) ?_
  refine lv_iconst (v := 2) hx hb dX0_swallow_59 (by decide) ?_
  refine gcV_v (rest := []) X (cR_put l D cy ad rest u12 8 (by decide) q2 2) gy_X4_put gX0_swallow_X4_put ⟨rfl, rfl, Nat.le_of_ble_eq_true rfl, Nat.le_of_ble_eq_true rfl⟩ 16 rfl rfl rfl hl rfl (Nat.le_of_ble_eq_true rfl) dX0_swallow_60 ⟨Nat.zero_le _, Nat.zero_le _⟩ hw (fun u14 H locs hu14 hw => ?_)
  have hu14 : u14 = sR u12 8 (rPut 100 (u12.1 8) q2 2) := hu14
  have hF := hF.trans (bnd_eq hu14)
  exact hret _ _ _ _ _ dX0_swallow_63 (hF.symm.trans hsp) hw
theorem gy_X0_differsFromFired : gY yX0_differsFromFired RX0 cX0_differsFromFired 3 (some .boolean) wsX0_differsFromFired 2 := ⟨⟨_, rfl⟩, rfl, by decide +kernel, by decide +kernel, by decide +kernel⟩
def F_X0_differsFromFired (C : CS) (q1 : Int32) (q2 : Int32) : Int32 := (bnd (rAt 100 (C.1 11) q1) (fun r1 => (if q2 = r1 then (bnd (rAt 100 (C.1 6) q1) (fun r4 => (bnd (rAt 100 (C.1 12) q1) (fun r6 => (if r4 = r6 then (bnd (rAt 100 (C.1 7) q1) (fun r9 => (bnd (rAt 100 (C.1 13) q1) (fun r11 => (if r9 = r11 then 0 else 1))))) else 1))))) else 1)))
abbrev rmX0_differsFromFired : Room := { frames := 1, cells := 0, slots := 0, locals := 21 }
set_option maxHeartbeats 4000000 in
set_option maxRecDepth 100000 in
theorem c_X0_differsFromFired (l : Launch) (D : va_G) (cy : Nat → ClassId) (ad : Nat → Nat) (rest : va_W) (C : CS) (q1 : Int32) (q2 : Int32) : GMi l yX0_differsFromFired wsX0_differsFromFired rmX0_differsFromFired D cy [.ref (ad 95), .int q1, .int q2] (CW cy ad C ++ rest) (fun (r : Int32) (_ : Unit) => r = F_X0_differsFromFired C q1 q2 ∧ (r = 0 ∨ r = 1)) (fun _ => CW cy ad C ++ rest) := by
  refine GMz.intro cX0_differsFromFired 3 RX0 (by decide) rfl rfl (Nat.le_of_ble_eq_true rfl) ?_
  intro p e s m args below meth c A Q ls X hret hl hw
  have hx := X.1
  have hb := X.2.1
  have hl : lv_has ls 3 [(0, .ref (ad 95)), (1, .int q1), (2, .int q2)] := hl
  have inX0 : ∀ w ∈ wsX00, w ∈ wsX0_differsFromFired := fun w h => List.mem_cons_of_mem _ (List.mem_append_left _ (List.mem_append_left _ (List.mem_append_right _ h)))
  obtain ⟨sp, hsp⟩ : ∃ sp, sp = F_X0_differsFromFired C q1 q2 := ⟨_, rfl⟩
  have hF := hsp.trans (F_X0_differsFromFired.eq_1 C q1 q2)
  refine lv_iload_n hx hb dX0_differsFromFired_0 rfl (lv_at hl 2 rfl) ?_
  refine lv_aload_n hx hb dX0_differsFromFired_1 rfl (lv_at hl 0 rfl) ?_
  refine g_get (v := .ref (ad 22)) (C := RX0) (T := TX0) (N := 10) (ci := 2) X inX0 hw 95 rfl rfl 6 (by decide) (List.mem_of_getElem? (i := 1) rfl) rfl rfl dX0_differsFromFired_2 ?_
  refine lv_iload_n hx hb dX0_differsFromFired_5 rfl (lv_at hl 1 rfl) ?_
  refine gcV_i (rest := [.int q2]) X (cR_at l D cy ad rest C 11 (by decide) q1) gy_X4_at gX0_differsFromFired_X4_at ⟨rfl, rfl, Nat.le_of_ble_eq_true rfl, Nat.le_of_ble_eq_true rfl⟩ 22 rfl rfl rfl hl rfl (Nat.le_of_ble_eq_true rfl) dX0_differsFromFired_6 ⟨Nat.zero_le _, Nat.zero_le _⟩ hw (fun r1 _ H locs hr1 hw => ?_)
  have hr1 : r1 = rAt 100 (C.1 11) q1 := hr1
  have hF := hF.trans (bnd_eq hr1)
  refine lv_icmp_ne (tgt := 50) hx hb dX0_differsFromFired_9 (by decide) (fun c3 => ?_) (fun c3 => ?_)
  · skip
    have hF := hF.trans (if_neg c3)
    refine lv_iconst (v := 1) hx hb dX0_differsFromFired_50 (by decide) ?_
    refine lv_goto (tgt := 55) hx hb dX0_differsFromFired_51 (by decide) ?_
    exact hret _ _ () _ _ _ dX0_differsFromFired_55 (Or.inr rfl) ⟨hF.symm.trans hsp, (Or.inr rfl)⟩ hw
  · skip
    have hF := hF.trans (if_pos c3)
    refine lv_aload_n hx hb dX0_differsFromFired_12 rfl (lv_at hl 0 rfl) ?_
    refine g_get (v := .ref (ad 12)) (C := RX0) (T := TX0) (N := 10) (ci := 2) X inX0 hw 95 rfl rfl 1 (by decide) (List.mem_of_getElem? (i := 2) rfl) rfl rfl dX0_differsFromFired_13 ?_
    refine lv_iload_n hx hb dX0_differsFromFired_16 rfl (lv_at hl 1 rfl) ?_
    refine gcV_i (rest := []) X (cR_at l D cy ad rest C 6 (by decide) q1) gy_X4_at gX0_differsFromFired_X4_at ⟨rfl, rfl, Nat.le_of_ble_eq_true rfl, Nat.le_of_ble_eq_true rfl⟩ 12 rfl rfl rfl hl rfl (Nat.le_of_ble_eq_true rfl) dX0_differsFromFired_17 ⟨Nat.zero_le _, Nat.zero_le _⟩ hw (fun r4 _ H locs hr4 hw => ?_)
    have hr4 : r4 = rAt 100 (C.1 6) q1 := hr4
    have hF := hF.trans (bnd_eq hr4)
    refine lv_aload_n hx hb dX0_differsFromFired_20 rfl (lv_at hl 0 rfl) ?_
    refine g_get (v := .ref (ad 24)) (C := RX0) (T := TX0) (N := 10) (ci := 2) X inX0 hw 95 rfl rfl 7 (by decide) (List.mem_of_getElem? (i := 3) rfl) rfl rfl dX0_differsFromFired_21 ?_
    refine lv_iload_n hx hb dX0_differsFromFired_24 rfl (lv_at hl 1 rfl) ?_
    refine gcV_i (rest := [.int r4]) X (cR_at l D cy ad rest C 12 (by decide) q1) gy_X4_at gX0_differsFromFired_X4_at ⟨rfl, rfl, Nat.le_of_ble_eq_true rfl, Nat.le_of_ble_eq_true rfl⟩ 24 rfl rfl rfl hl rfl (Nat.le_of_ble_eq_true rfl) dX0_differsFromFired_25 ⟨Nat.zero_le _, Nat.zero_le _⟩ hw (fun r6 _ H locs hr6 hw => ?_)
    have hr6 : r6 = rAt 100 (C.1 12) q1 := hr6
    have hF := hF.trans (bnd_eq hr6)
    refine lv_icmp_ne (tgt := 50) hx hb dX0_differsFromFired_28 (by decide) (fun c8 => ?_) (fun c8 => ?_)
    · skip
      have hF := hF.trans (if_neg c8)
      refine lv_iconst (v := 1) hx hb dX0_differsFromFired_50 (by decide) ?_
      refine lv_goto (tgt := 55) hx hb dX0_differsFromFired_51 (by decide) ?_
      exact hret _ _ () _ _ _ dX0_differsFromFired_55 (Or.inr rfl) ⟨hF.symm.trans hsp, (Or.inr rfl)⟩ hw
    · skip
      have hF := hF.trans (if_pos c8)
      refine lv_aload_n hx hb dX0_differsFromFired_31 rfl (lv_at hl 0 rfl) ?_
      refine g_get (v := .ref (ad 14)) (C := RX0) (T := TX0) (N := 10) (ci := 2) X inX0 hw 95 rfl rfl 2 (by decide) (List.mem_of_getElem? (i := 4) rfl) rfl rfl dX0_differsFromFired_32 ?_
      refine lv_iload_n hx hb dX0_differsFromFired_35 rfl (lv_at hl 1 rfl) ?_
      refine gcV_i (rest := []) X (cR_at l D cy ad rest C 7 (by decide) q1) gy_X4_at gX0_differsFromFired_X4_at ⟨rfl, rfl, Nat.le_of_ble_eq_true rfl, Nat.le_of_ble_eq_true rfl⟩ 14 rfl rfl rfl hl rfl (Nat.le_of_ble_eq_true rfl) dX0_differsFromFired_36 ⟨Nat.zero_le _, Nat.zero_le _⟩ hw (fun r9 _ H locs hr9 hw => ?_)
      have hr9 : r9 = rAt 100 (C.1 7) q1 := hr9
      have hF := hF.trans (bnd_eq hr9)
      refine lv_aload_n hx hb dX0_differsFromFired_39 rfl (lv_at hl 0 rfl) ?_
      refine g_get (v := .ref (ad 26)) (C := RX0) (T := TX0) (N := 10) (ci := 2) X inX0 hw 95 rfl rfl 8 (by decide) (List.mem_of_getElem? (i := 5) rfl) rfl rfl dX0_differsFromFired_40 ?_
      refine lv_iload_n hx hb dX0_differsFromFired_43 rfl (lv_at hl 1 rfl) ?_
      refine gcV_i (rest := [.int r9]) X (cR_at l D cy ad rest C 13 (by decide) q1) gy_X4_at gX0_differsFromFired_X4_at ⟨rfl, rfl, Nat.le_of_ble_eq_true rfl, Nat.le_of_ble_eq_true rfl⟩ 26 rfl rfl rfl hl rfl (Nat.le_of_ble_eq_true rfl) dX0_differsFromFired_44 ⟨Nat.zero_le _, Nat.zero_le _⟩ hw (fun r11 _ H locs hr11 hw => ?_)
      have hr11 : r11 = rAt 100 (C.1 13) q1 := hr11
      have hF := hF.trans (bnd_eq hr11)
      refine lv_icmp_eq (tgt := 54) hx hb dX0_differsFromFired_47 (by decide) (fun c13 => ?_) (fun c13 => ?_)
      · skip
        have hF := hF.trans (if_pos c13)
        refine lv_iconst (v := 0) hx hb dX0_differsFromFired_54 (by decide) ?_
        exact hret _ _ () _ _ _ dX0_differsFromFired_55 (Or.inl rfl) ⟨hF.symm.trans hsp, (Or.inl rfl)⟩ hw
      · skip
        have hF := hF.trans (if_neg c13)
        refine lv_iconst (v := 1) hx hb dX0_differsFromFired_50 (by decide) ?_
        refine lv_goto (tgt := 55) hx hb dX0_differsFromFired_51 (by decide) ?_
        exact hret _ _ () _ _ _ dX0_differsFromFired_55 (Or.inr rfl) ⟨hF.symm.trans hsp, (Or.inr rfl)⟩ hw
theorem gy_X0_noteFired : gY yX0_noteFired RX0 cX0_noteFired 3 none wsX0_noteFired 2 := ⟨⟨_, rfl⟩, rfl, by decide +kernel, by decide +kernel, by decide +kernel⟩
def F_X0_noteFired (C : CS) (q1 : Int32) (q2 : Int32) : CS := (bnd (sR C 10 (rPut 100 (C.1 10) q1 1)) (fun u2 => (bnd (sR u2 11 (rPut 100 (u2.1 11) q1 q2)) (fun u4 => (bnd (rAt 100 (u4.1 6) q1) (fun r5 => (bnd (sR u4 12 (rPut 100 (u4.1 12) q1 r5)) (fun u8 => (bnd (rAt 100 (u8.1 7) q1) (fun r9 => (bnd (sR u8 13 (rPut 100 (u8.1 13) q1 r9)) (fun u12 => (bnd (rAt 100 (u12.1 9) q1) (fun r13 => (bnd (sR u12 9 (rPut 100 (u12.1 9) q1 (r13 + 1))) (fun u16 => u16))))))))))))))))
abbrev rmX0_noteFired : Room := { frames := 1, cells := 0, slots := 0, locals := 22 }
set_option maxHeartbeats 4000000 in
set_option maxRecDepth 100000 in
theorem c_X0_noteFired (l : Launch) (D : va_G) (cy : Nat → ClassId) (ad : Nat → Nat) (rest : va_W) (C : CS) (q1 : Int32) (q2 : Int32) : GMv l yX0_noteFired wsX0_noteFired rmX0_noteFired D cy [.ref (ad 95), .int q1, .int q2] (CW cy ad C ++ rest) (fun (u : CS) => u = F_X0_noteFired C q1 q2) (fun u => CW cy ad u ++ rest) := by
  refine GMv.intro cX0_noteFired 3 RX0 (by decide) rfl rfl (Nat.le_of_ble_eq_true rfl) ?_
  intro p e s m args below meth c A Q ls X hret hl hw
  have hx := X.1
  have hb := X.2.1
  have hl : lv_has ls 3 [(0, .ref (ad 95)), (1, .int q1), (2, .int q2)] := hl
  have inX0 : ∀ w ∈ wsX00, w ∈ wsX0_noteFired := fun w h => List.mem_cons_of_mem _ (List.mem_append_left _ (List.mem_append_left _ (List.mem_append_right _ h)))
  obtain ⟨sp, hsp⟩ : ∃ sp, sp = F_X0_noteFired C q1 q2 := ⟨_, rfl⟩
  have hF := hsp.trans (F_X0_noteFired.eq_1 C q1 q2)
  refine lv_aload_n hx hb dX0_noteFired_0 rfl (lv_at hl 0 rfl) ?_
  refine g_get (v := .ref (ad 20)) (C := RX0) (T := TX0) (N := 10) (ci := 2) X inX0 hw 95 rfl rfl 5 (by decide) (List.mem_of_getElem? (i := 1) rfl) rfl rfl dX0_noteFired_1 ?_
  refine lv_iload_n hx hb dX0_noteFired_4 rfl (lv_at hl 1 rfl) ?_
  refine lv_iconst (v := 1) hx hb dX0_noteFired_5 (by decide) ?_
  refine gcV_v (rest := []) X (cR_put l D cy ad rest C 10 (by decide) q1 1) gy_X4_put gX0_noteFired_X4_put ⟨rfl, rfl, Nat.le_of_ble_eq_true rfl, Nat.le_of_ble_eq_true rfl⟩ 20 rfl rfl rfl hl rfl (Nat.le_of_ble_eq_true rfl) dX0_noteFired_6 ⟨Nat.zero_le _, Nat.zero_le _⟩ hw (fun u2 H locs hu2 hw => ?_)
  have hu2 : u2 = sR C 10 (rPut 100 (C.1 10) q1 1) := hu2
  have hF := hF.trans (bnd_eq hu2)
  refine lv_aload_n hx hb dX0_noteFired_9 rfl (lv_at hl 0 rfl) ?_
  refine g_get (v := .ref (ad 22)) (C := RX0) (T := TX0) (N := 10) (ci := 2) X inX0 hw 95 rfl rfl 6 (by decide) (List.mem_of_getElem? (i := 2) rfl) rfl rfl dX0_noteFired_10 ?_
  refine lv_iload_n hx hb dX0_noteFired_13 rfl (lv_at hl 1 rfl) ?_
  refine lv_iload_n hx hb dX0_noteFired_14 rfl (lv_at hl 2 rfl) ?_
  refine gcV_v (rest := []) X (cR_put l D cy ad rest u2 11 (by decide) q1 q2) gy_X4_put gX0_noteFired_X4_put ⟨rfl, rfl, Nat.le_of_ble_eq_true rfl, Nat.le_of_ble_eq_true rfl⟩ 22 rfl rfl rfl hl rfl (Nat.le_of_ble_eq_true rfl) dX0_noteFired_15 ⟨Nat.zero_le _, Nat.zero_le _⟩ hw (fun u4 H locs hu4 hw => ?_)
  have hu4 : u4 = sR u2 11 (rPut 100 (u2.1 11) q1 q2) := hu4
  have hF := hF.trans (bnd_eq hu4)
  refine lv_aload_n hx hb dX0_noteFired_18 rfl (lv_at hl 0 rfl) ?_
  refine g_get (v := .ref (ad 24)) (C := RX0) (T := TX0) (N := 10) (ci := 2) X inX0 hw 95 rfl rfl 7 (by decide) (List.mem_of_getElem? (i := 3) rfl) rfl rfl dX0_noteFired_19 ?_
  refine lv_iload_n hx hb dX0_noteFired_22 rfl (lv_at hl 1 rfl) ?_
  refine lv_aload_n hx hb dX0_noteFired_23 rfl (lv_at hl 0 rfl) ?_
  refine g_get (v := .ref (ad 12)) (C := RX0) (T := TX0) (N := 10) (ci := 2) X inX0 hw 95 rfl rfl 1 (by decide) (List.mem_of_getElem? (i := 4) rfl) rfl rfl dX0_noteFired_24 ?_
  refine lv_iload_n hx hb dX0_noteFired_27 rfl (lv_at hl 1 rfl) ?_
  refine gcV_i (rest := [.int q1, .ref (ad 24)]) X (cR_at l D cy ad rest u4 6 (by decide) q1) gy_X4_at gX0_noteFired_X4_at ⟨rfl, rfl, Nat.le_of_ble_eq_true rfl, Nat.le_of_ble_eq_true rfl⟩ 12 rfl rfl rfl hl rfl (Nat.le_of_ble_eq_true rfl) dX0_noteFired_28 ⟨Nat.zero_le _, Nat.zero_le _⟩ hw (fun r5 _ H locs hr5 hw => ?_)
  have hr5 : r5 = rAt 100 (u4.1 6) q1 := hr5
  have hF := hF.trans (bnd_eq hr5)
  refine gcV_v (rest := []) X (cR_put l D cy ad rest u4 12 (by decide) q1 r5) gy_X4_put gX0_noteFired_X4_put ⟨rfl, rfl, Nat.le_of_ble_eq_true rfl, Nat.le_of_ble_eq_true rfl⟩ 24 rfl rfl rfl hl rfl (Nat.le_of_ble_eq_true rfl) dX0_noteFired_31 ⟨Nat.zero_le _, Nat.zero_le _⟩ hw (fun u8 H locs hu8 hw => ?_)
  have hu8 : u8 = sR u4 12 (rPut 100 (u4.1 12) q1 r5) := hu8
  have hF := hF.trans (bnd_eq hu8)
  refine lv_aload_n hx hb dX0_noteFired_34 rfl (lv_at hl 0 rfl) ?_
  refine g_get (v := .ref (ad 26)) (C := RX0) (T := TX0) (N := 10) (ci := 2) X inX0 hw 95 rfl rfl 8 (by decide) (List.mem_of_getElem? (i := 5) rfl) rfl rfl dX0_noteFired_35 ?_
  refine lv_iload_n hx hb dX0_noteFired_38 rfl (lv_at hl 1 rfl) ?_
  refine lv_aload_n hx hb dX0_noteFired_39 rfl (lv_at hl 0 rfl) ?_
  refine g_get (v := .ref (ad 14)) (C := RX0) (T := TX0) (N := 10) (ci := 2) X inX0 hw 95 rfl rfl 2 (by decide) (List.mem_of_getElem? (i := 6) rfl) rfl rfl dX0_noteFired_40 ?_
  refine lv_iload_n hx hb dX0_noteFired_43 rfl (lv_at hl 1 rfl) ?_
  refine gcV_i (rest := [.int q1, .ref (ad 26)]) X (cR_at l D cy ad rest u8 7 (by decide) q1) gy_X4_at gX0_noteFired_X4_at ⟨rfl, rfl, Nat.le_of_ble_eq_true rfl, Nat.le_of_ble_eq_true rfl⟩ 14 rfl rfl rfl hl rfl (Nat.le_of_ble_eq_true rfl) dX0_noteFired_44 ⟨Nat.zero_le _, Nat.zero_le _⟩ hw (fun r9 _ H locs hr9 hw => ?_)
  have hr9 : r9 = rAt 100 (u8.1 7) q1 := hr9
  have hF := hF.trans (bnd_eq hr9)
  refine gcV_v (rest := []) X (cR_put l D cy ad rest u8 13 (by decide) q1 r9) gy_X4_put gX0_noteFired_X4_put ⟨rfl, rfl, Nat.le_of_ble_eq_true rfl, Nat.le_of_ble_eq_true rfl⟩ 26 rfl rfl rfl hl rfl (Nat.le_of_ble_eq_true rfl) dX0_noteFired_47 ⟨Nat.zero_le _, Nat.zero_le _⟩ hw (fun u12 H locs hu12 hw => ?_)
  have hu12 : u12 = sR u8 13 (rPut 100 (u8.1 13) q1 r9) := hu12
  have hF := hF.trans (bnd_eq hu12)
  refine lv_aload_n hx hb dX0_noteFired_50 rfl (lv_at hl 0 rfl) ?_
  refine g_get (v := .ref (ad 18)) (C := RX0) (T := TX0) (N := 10) (ci := 2) X inX0 hw 95 rfl rfl 4 (by decide) (List.mem_of_getElem? (i := 7) rfl) rfl rfl dX0_noteFired_51 ?_
  refine lv_iload_n hx hb dX0_noteFired_54 rfl (lv_at hl 1 rfl) ?_
  refine lv_aload_n hx hb dX0_noteFired_55 rfl (lv_at hl 0 rfl) ?_
  refine g_get (v := .ref (ad 18)) (C := RX0) (T := TX0) (N := 10) (ci := 2) X inX0 hw 95 rfl rfl 4 (by decide) (List.mem_of_getElem? (i := 7) rfl) rfl rfl dX0_noteFired_56 ?_
  refine lv_iload_n hx hb dX0_noteFired_59 rfl (lv_at hl 1 rfl) ?_
  refine gcV_i (rest := [.int q1, .ref (ad 18)]) X (cR_at l D cy ad rest u12 9 (by decide) q1) gy_X4_at gX0_noteFired_X4_at ⟨rfl, rfl, Nat.le_of_ble_eq_true rfl, Nat.le_of_ble_eq_true rfl⟩ 18 rfl rfl rfl hl rfl (Nat.le_of_ble_eq_true rfl) dX0_noteFired_60 ⟨Nat.zero_le _, Nat.zero_le _⟩ hw (fun r13 _ H locs hr13 hw => ?_)
  have hr13 : r13 = rAt 100 (u12.1 9) q1 := hr13
  have hF := hF.trans (bnd_eq hr13)
  refine lv_iconst (v := 1) hx hb dX0_noteFired_63 (by decide) ?_
  refine lv_iadd hx hb dX0_noteFired_64 ?_
  refine gcV_v (rest := []) X (cR_put l D cy ad rest u12 9 (by decide) q1 (r13 + 1)) gy_X4_put gX0_noteFired_X4_put ⟨rfl, rfl, Nat.le_of_ble_eq_true rfl, Nat.le_of_ble_eq_true rfl⟩ 18 rfl rfl rfl hl rfl (Nat.le_of_ble_eq_true rfl) dX0_noteFired_65 ⟨Nat.zero_le _, Nat.zero_le _⟩ hw (fun u16 H locs hu16 hw => ?_)
  have hu16 : u16 = sR u12 9 (rPut 100 (u12.1 9) q1 (r13 + 1)) := hu16
  have hF := hF.trans (bnd_eq hu16)
  exact hret _ _ _ _ _ dX0_noteFired_68 (hF.symm.trans hsp) hw
theorem gy_X0_sumOfFired : gY yX0_sumOfFired RX0 cX0_sumOfFired 4 (some .long) wsX0_sumOfFired 0 := ⟨⟨_, rfl⟩, rfl, by decide +kernel, by decide +kernel, by decide +kernel⟩
def st_X0_sumOfFired_4 (C : CS) (v1_3 : Int32) (v1_1 : Int64) : (Int32 × Int64) ⊕ Int64 := (if C.2.1 6 ≤ v1_3 then .inr (v1_1) else (bnd (F_X0_hasFired C v1_3) (fun r3 => (if r3 = 0 then .inl ((v1_3 + 1), v1_1) else (bnd (rAt 100 (C.1 11) v1_3) (fun r6 => .inl ((v1_3 + 1), (v1_1 + r6.toInt64))))))))
def F_X0_sumOfFired (C : CS) : Int64 := lp (fun (z : Int32 × Int64) => st_X0_sumOfFired_4 C z.1 z.2) 0 (((C.2.1 6).toInt - (0 : Int32).toInt).toNat + 1) (0, 0)
abbrev rmX0_sumOfFired : Room := { frames := 2, cells := 0, slots := 0, locals := 42 }
set_option maxHeartbeats 4000000 in
set_option maxRecDepth 100000 in
theorem c_X0_sumOfFired (l : Launch) (D : va_G) (cy : Nat → ClassId) (ad : Nat → Nat) (rest : va_W) (C : CS) : GMl l yX0_sumOfFired wsX0_sumOfFired rmX0_sumOfFired D cy [.ref (ad 95)] (CW cy ad C ++ rest) (fun (r : Int64) (_ : Unit) => r = F_X0_sumOfFired C) (fun _ => CW cy ad C ++ rest) := by
  refine GMl.intro cX0_sumOfFired 4 RX0 (by decide) rfl rfl (Nat.le_of_ble_eq_true rfl) ?_
  intro p e s m args below meth c A Q ls X hret hl hw
  have hx := X.1
  have hb := X.2.1
  have hl : lv_has ls 4 [(0, .ref (ad 95))] := hl
  have inX0 : ∀ w ∈ wsX00, w ∈ wsX0_sumOfFired := fun w h => List.mem_cons_of_mem _ (List.mem_append_left _ (List.mem_append_left _ (List.mem_append_right _ h)))
  obtain ⟨sp, hsp⟩ : ∃ sp, sp = F_X0_sumOfFired C := ⟨_, rfl⟩
  have hF := hsp.trans (F_X0_sumOfFired.eq_1 C)
  refine lv_lconst (v := 0) hx hb dX0_sumOfFired_0 (by decide) ?_
  refine lv_lstore_n (lv' := [(1, .long 0), (0, .ref (ad 95))]) hx hb dX0_sumOfFired_1 rfl hl (by decide) rfl (fun ls hl => ?_)
  refine lv_iconst (v := 0) hx hb dX0_sumOfFired_2 (by decide) ?_
  refine lv_istore_n (lv' := [(3, .int 0), (1, .long 0), (0, .ref (ad 95))]) hx hb dX0_sumOfFired_3 rfl hl (by decide) rfl (fun ls hl => ?_)
  have L1 : ∀ (n1 : Nat) (v1_3 : Int32) (v1_1 : Int64), sp = lp (fun (z : Int32 × Int64) => st_X0_sumOfFired_4 C z.1 z.2) 0 n1 (v1_3, v1_1) → ((C.2.1 6).toInt - v1_3.toInt).toNat < n1 → ∀ (H : Heap) (locs : List Loc) (ls : Array Slot), lv_has ls 4 [(3, .int v1_3), (1, .long v1_1), (0, .ref (ad 95))] → gw D A s.heap (CW cy ad C ++ rest) H locs → W p l e rmX0_sumOfFired s m args below meth c H locs 0 0 Q (F0 m 4 ls []) := by
    intro n1
    induction n1 with
    | zero => intro v1_3 v1_1 hF hm1; exact absurd hm1 (Nat.not_lt_zero _)
    | succ n1 ih1 =>
      intro v1_3 v1_1 hF hm1 H locs ls hl hw
      have hT1 := st_X0_sumOfFired_4.eq_1 C v1_3 v1_1
      refine lv_iload_n hx hb dX0_sumOfFired_4 rfl (lv_at hl 0 rfl) ?_
      refine lv_aload_n hx hb dX0_sumOfFired_5 rfl (lv_at hl 2 rfl) ?_
      refine g_get (v := .int (C.2.1 6)) (C := RX0) (T := TX0) (N := 10) (ci := 2) X inX0 hw 95 rfl rfl 9 (by decide) (List.mem_of_getElem? (i := 1) rfl) rfl rfl dX0_sumOfFired_6 ?_
      refine lv_icmp_ge (tgt := 38) hx hb dX0_sumOfFired_9 (by decide) (fun c2 => ?_) (fun c2 => ?_)
      · skip
        have hT1 := hT1.trans (if_pos c2)
        refine lv_lload_n hx hb dX0_sumOfFired_38 rfl (lv_at hl 1 rfl) ?_
        exact hret _ _ () _ _ _ dX0_sumOfFired_39 ((hF.trans (lp_r hT1)).symm.trans hsp) hw
      · skip
        have hT1 := hT1.trans (if_neg c2)
        refine lv_aload_n hx hb dX0_sumOfFired_12 rfl (lv_at hl 2 rfl) ?_
        refine lv_iload_n hx hb dX0_sumOfFired_13 rfl (lv_at hl 0 rfl) ?_
        refine gcV_i (rest := []) X (c_X0_hasFired l D cy ad rest C v1_3) gy_X0_hasFired gX0_sumOfFired_X0_hasFired ⟨rfl, rfl, Nat.le_of_ble_eq_true rfl, Nat.le_of_ble_eq_true rfl⟩ 95 rfl rfl rfl hl rfl (Nat.le_of_ble_eq_true rfl) dX0_sumOfFired_14 ⟨Nat.zero_le _, Nat.zero_le _⟩ hw (fun r3 _ H locs hr3 hw => ?_)
        obtain ⟨hr3, zr3⟩ : r3 = F_X0_hasFired C v1_3 ∧ (r3 = 0 ∨ r3 = 1) := hr3
        have hT1 := hT1.trans (bnd_eq hr3)
        refine lv_if_eq (tgt := 32) hx hb dX0_sumOfFired_17 (by decide) (fun c5 => ?_) (fun c5 => ?_)
        · skip
          have hT1 := hT1.trans (if_pos c5)
          refine lv_iinc (v := (v1_3 + 1)) (lv' := [(3, .int (v1_3 + 1)), (1, .long v1_1), (0, .ref (ad 95))]) hx hb dX0_sumOfFired_32 hl (k := 0) rfl rfl (by decide) rfl (fun ls hl => ?_)
          refine lv_goto (tgt := 4) hx hb dX0_sumOfFired_35 (by decide) ?_
          exact ih1 (v1_3 + 1) v1_1 (hF.trans (lp_l hT1)) (Nat.lt_of_lt_of_le (by first | exact up_dec (by assumption) | (simp only [*]; exact up_dec (by assumption))) (Nat.le_of_lt_succ hm1)) _ _ ls (lv_sub hl [0, 1, 2] rfl) hw
        · skip
          have hT1 := hT1.trans (if_neg c5)
          refine lv_lload_n hx hb dX0_sumOfFired_20 rfl (lv_at hl 1 rfl) ?_
          refine lv_aload_n hx hb dX0_sumOfFired_21 rfl (lv_at hl 2 rfl) ?_
          refine g_get (v := .ref (ad 22)) (C := RX0) (T := TX0) (N := 10) (ci := 2) X inX0 hw 95 rfl rfl 6 (by decide) (List.mem_of_getElem? (i := 2) rfl) rfl rfl dX0_sumOfFired_22 ?_
          refine lv_iload_n hx hb dX0_sumOfFired_25 rfl (lv_at hl 0 rfl) ?_
          refine gcV_i (rest := [.long v1_1]) X (cR_at l D cy ad rest C 11 (by decide) v1_3) gy_X4_at gX0_sumOfFired_X4_at ⟨rfl, rfl, Nat.le_of_ble_eq_true rfl, Nat.le_of_ble_eq_true rfl⟩ 22 rfl rfl rfl hl rfl (Nat.le_of_ble_eq_true rfl) dX0_sumOfFired_26 ⟨Nat.zero_le _, Nat.zero_le _⟩ hw (fun r6 _ H locs hr6 hw => ?_)
          have hr6 : r6 = rAt 100 (C.1 11) v1_3 := hr6
          have hT1 := hT1.trans (bnd_eq hr6)
          refine lv_i2l (v := r6.toInt64) hx hb dX0_sumOfFired_29 rfl ?_
          refine lv_ladd hx hb dX0_sumOfFired_30 ?_
          refine lv_lstore_n (lv' := [(1, .long (v1_1 + r6.toInt64)), (3, .int v1_3), (0, .ref (ad 95))]) hx hb dX0_sumOfFired_31 rfl hl (by decide) rfl (fun ls hl => ?_)
          refine lv_iinc (v := (v1_3 + 1)) (lv' := [(3, .int (v1_3 + 1)), (1, .long (v1_1 + r6.toInt64)), (0, .ref (ad 95))]) hx hb dX0_sumOfFired_32 hl (k := 1) rfl rfl (by decide) rfl (fun ls hl => ?_)
          refine lv_goto (tgt := 4) hx hb dX0_sumOfFired_35 (by decide) ?_
          exact ih1 (v1_3 + 1) (v1_1 + r6.toInt64) (hF.trans (lp_l hT1)) (Nat.lt_of_lt_of_le (by first | exact up_dec (by assumption) | (simp only [*]; exact up_dec (by assumption))) (Nat.le_of_lt_succ hm1)) _ _ ls (lv_sub hl [0, 1, 2] rfl) hw
  exact L1 _ 0 0 hF (Nat.lt_succ_self _) _ _ ls (lv_sub hl [0, 1, 2] rfl) hw
theorem gy_X0_copyFrom : gY yX0_copyFrom RX0 cX0_copyFrom 2 none wsX0_copyFrom 1 := ⟨⟨_, rfl⟩, rfl, by decide +kernel, by decide +kernel, by decide +kernel⟩
def F_X0_copyFrom_nk (C : CS) : CS := (bnd (sR C 5 (rCopy 100 (C.1 5) 100 (C.1 26))) (fun u2 => (bnd (sR u2 6 (rCopy 100 (u2.1 6) 100 (u2.1 27))) (fun u4 => (bnd (sR u4 7 (rCopy 100 (u4.1 7) 100 (u4.1 28))) (fun u6 => (bnd (sR u6 8 (rCopy 100 (u6.1 8) 100 (u6.1 29))) (fun u8 => (bnd (sR u8 9 (rCopy 100 (u8.1 9) 100 (u8.1 30))) (fun u10 => (bnd (sR u10 10 (rCopy 100 (u10.1 10) 100 (u10.1 31))) (fun u12 => (bnd (sR u12 11 (rCopy 100 (u12.1 11) 100 (u12.1 32))) (fun u14 => (bnd (sR u14 12 (rCopy 100 (u14.1 12) 100 (u14.1 33))) (fun u16 => (bnd (sR u16 13 (rCopy 100 (u16.1 13) 100 (u16.1 34))) (fun u18 => (bnd (sI u18 6 (u18.2.1 15)) (fun u19 => u19))))))))))))))))))))
abbrev rmX0_copyFrom_nk : Room := { frames := 2, cells := 0, slots := 0, locals := 43 }
set_option maxHeartbeats 4000000 in
set_option maxRecDepth 100000 in
theorem c_X0_copyFrom_nk (l : Launch) (D : va_G) (cy : Nat → ClassId) (ad : Nat → Nat) (rest : va_W) (C : CS) : GMv l yX0_copyFrom wsX0_copyFrom rmX0_copyFrom_nk D cy [.ref (ad 95), .ref (ad 99)] (CW cy ad C ++ rest) (fun (u : CS) => u = F_X0_copyFrom_nk C) (fun u => CW cy ad u ++ rest) := by
  refine GMv.intro cX0_copyFrom 2 RX0 (by decide) rfl rfl (Nat.le_of_ble_eq_true rfl) ?_
  intro p e s m args below meth c A Q ls X hret hl hw
  have hx := X.1
  have hb := X.2.1
  have hl : lv_has ls 2 [(0, .ref (ad 95)), (1, .ref (ad 99))] := hl
  have inX0 : ∀ w ∈ wsX00, w ∈ wsX0_copyFrom := fun w h => List.mem_cons_of_mem _ (List.mem_append_left _ (List.mem_append_left _ (List.mem_append_right _ h)))
  obtain ⟨sp, hsp⟩ : ∃ sp, sp = F_X0_copyFrom_nk C := ⟨_, rfl⟩
  have hF := hsp.trans (F_X0_copyFrom_nk.eq_1 C)
  refine lv_aload_n hx hb dX0_copyFrom_0 rfl (lv_at hl 1 rfl) ?_
  refine lv_ifnonnull (tgt := 5) hx hb dX0_copyFrom_1 (by decide) ?_
  refine lv_aload_n hx hb dX0_copyFrom_5 rfl (lv_at hl 0 rfl) ?_
  refine g_get (v := .ref (ad 10)) (C := RX0) (T := TX0) (N := 10) (ci := 2) X inX0 hw 95 rfl rfl 0 (by decide) (List.mem_of_getElem? (i := 1) rfl) rfl rfl dX0_copyFrom_6 ?_
  refine lv_aload_n hx hb dX0_copyFrom_9 rfl (lv_at hl 1 rfl) ?_
  refine g_get (v := .ref (ad 52)) (C := RX0) (T := TX0) (N := 10) (ci := 2) X inX0 hw 99 rfl rfl 0 (by decide) (List.mem_of_getElem? (i := 1) rfl) rfl rfl dX0_copyFrom_10 ?_
  refine gcV_v (rest := []) X (cR_copyFrom l D cy ad rest C 5 26 (by decide) (by decide) (by decide)) gy_X4_copyFrom gX0_copyFrom_X4_copyFrom ⟨rfl, rfl, Nat.le_of_ble_eq_true rfl, Nat.le_of_ble_eq_true rfl⟩ 10 rfl rfl rfl hl rfl (Nat.le_of_ble_eq_true rfl) dX0_copyFrom_13 ⟨Nat.zero_le _, Nat.zero_le _⟩ hw (fun u2 H locs hu2 hw => ?_)
  have hu2 : u2 = sR C 5 (rCopy 100 (C.1 5) 100 (C.1 26)) := hu2
  have hF := hF.trans (bnd_eq hu2)
  refine lv_aload_n hx hb dX0_copyFrom_16 rfl (lv_at hl 0 rfl) ?_
  refine g_get (v := .ref (ad 12)) (C := RX0) (T := TX0) (N := 10) (ci := 2) X inX0 hw 95 rfl rfl 1 (by decide) (List.mem_of_getElem? (i := 2) rfl) rfl rfl dX0_copyFrom_17 ?_
  refine lv_aload_n hx hb dX0_copyFrom_20 rfl (lv_at hl 1 rfl) ?_
  refine g_get (v := .ref (ad 54)) (C := RX0) (T := TX0) (N := 10) (ci := 2) X inX0 hw 99 rfl rfl 1 (by decide) (List.mem_of_getElem? (i := 2) rfl) rfl rfl dX0_copyFrom_21 ?_
  refine gcV_v (rest := []) X (cR_copyFrom l D cy ad rest u2 6 27 (by decide) (by decide) (by decide)) gy_X4_copyFrom gX0_copyFrom_X4_copyFrom ⟨rfl, rfl, Nat.le_of_ble_eq_true rfl, Nat.le_of_ble_eq_true rfl⟩ 12 rfl rfl rfl hl rfl (Nat.le_of_ble_eq_true rfl) dX0_copyFrom_24 ⟨Nat.zero_le _, Nat.zero_le _⟩ hw (fun u4 H locs hu4 hw => ?_)
  have hu4 : u4 = sR u2 6 (rCopy 100 (u2.1 6) 100 (u2.1 27)) := hu4
  have hF := hF.trans (bnd_eq hu4)
  refine lv_aload_n hx hb dX0_copyFrom_27 rfl (lv_at hl 0 rfl) ?_
  refine g_get (v := .ref (ad 14)) (C := RX0) (T := TX0) (N := 10) (ci := 2) X inX0 hw 95 rfl rfl 2 (by decide) (List.mem_of_getElem? (i := 3) rfl) rfl rfl dX0_copyFrom_28 ?_
  refine lv_aload_n hx hb dX0_copyFrom_31 rfl (lv_at hl 1 rfl) ?_
  refine g_get (v := .ref (ad 56)) (C := RX0) (T := TX0) (N := 10) (ci := 2) X inX0 hw 99 rfl rfl 2 (by decide) (List.mem_of_getElem? (i := 3) rfl) rfl rfl dX0_copyFrom_32 ?_
  refine gcV_v (rest := []) X (cR_copyFrom l D cy ad rest u4 7 28 (by decide) (by decide) (by decide)) gy_X4_copyFrom gX0_copyFrom_X4_copyFrom ⟨rfl, rfl, Nat.le_of_ble_eq_true rfl, Nat.le_of_ble_eq_true rfl⟩ 14 rfl rfl rfl hl rfl (Nat.le_of_ble_eq_true rfl) dX0_copyFrom_35 ⟨Nat.zero_le _, Nat.zero_le _⟩ hw (fun u6 H locs hu6 hw => ?_)
  have hu6 : u6 = sR u4 7 (rCopy 100 (u4.1 7) 100 (u4.1 28)) := hu6
  have hF := hF.trans (bnd_eq hu6)
  refine lv_aload_n hx hb dX0_copyFrom_38 rfl (lv_at hl 0 rfl) ?_
  refine g_get (v := .ref (ad 16)) (C := RX0) (T := TX0) (N := 10) (ci := 2) X inX0 hw 95 rfl rfl 3 (by decide) (List.mem_of_getElem? (i := 4) rfl) rfl rfl dX0_copyFrom_39 ?_
  refine lv_aload_n hx hb dX0_copyFrom_42 rfl (lv_at hl 1 rfl) ?_
  refine g_get (v := .ref (ad 58)) (C := RX0) (T := TX0) (N := 10) (ci := 2) X inX0 hw 99 rfl rfl 3 (by decide) (List.mem_of_getElem? (i := 4) rfl) rfl rfl dX0_copyFrom_43 ?_
  refine gcV_v (rest := []) X (cR_copyFrom l D cy ad rest u6 8 29 (by decide) (by decide) (by decide)) gy_X4_copyFrom gX0_copyFrom_X4_copyFrom ⟨rfl, rfl, Nat.le_of_ble_eq_true rfl, Nat.le_of_ble_eq_true rfl⟩ 16 rfl rfl rfl hl rfl (Nat.le_of_ble_eq_true rfl) dX0_copyFrom_46 ⟨Nat.zero_le _, Nat.zero_le _⟩ hw (fun u8 H locs hu8 hw => ?_)
  have hu8 : u8 = sR u6 8 (rCopy 100 (u6.1 8) 100 (u6.1 29)) := hu8
  have hF := hF.trans (bnd_eq hu8)
  refine lv_aload_n hx hb dX0_copyFrom_49 rfl (lv_at hl 0 rfl) ?_
  refine g_get (v := .ref (ad 18)) (C := RX0) (T := TX0) (N := 10) (ci := 2) X inX0 hw 95 rfl rfl 4 (by decide) (List.mem_of_getElem? (i := 5) rfl) rfl rfl dX0_copyFrom_50 ?_
  refine lv_aload_n hx hb dX0_copyFrom_53 rfl (lv_at hl 1 rfl) ?_
  refine g_get (v := .ref (ad 60)) (C := RX0) (T := TX0) (N := 10) (ci := 2) X inX0 hw 99 rfl rfl 4 (by decide) (List.mem_of_getElem? (i := 5) rfl) rfl rfl dX0_copyFrom_54 ?_
  refine gcV_v (rest := []) X (cR_copyFrom l D cy ad rest u8 9 30 (by decide) (by decide) (by decide)) gy_X4_copyFrom gX0_copyFrom_X4_copyFrom ⟨rfl, rfl, Nat.le_of_ble_eq_true rfl, Nat.le_of_ble_eq_true rfl⟩ 18 rfl rfl rfl hl rfl (Nat.le_of_ble_eq_true rfl) dX0_copyFrom_57 ⟨Nat.zero_le _, Nat.zero_le _⟩ hw (fun u10 H locs hu10 hw => ?_)
  have hu10 : u10 = sR u8 9 (rCopy 100 (u8.1 9) 100 (u8.1 30)) := hu10
  have hF := hF.trans (bnd_eq hu10)
  refine lv_aload_n hx hb dX0_copyFrom_60 rfl (lv_at hl 0 rfl) ?_
  refine g_get (v := .ref (ad 20)) (C := RX0) (T := TX0) (N := 10) (ci := 2) X inX0 hw 95 rfl rfl 5 (by decide) (List.mem_of_getElem? (i := 6) rfl) rfl rfl dX0_copyFrom_61 ?_
  refine lv_aload_n hx hb dX0_copyFrom_64 rfl (lv_at hl 1 rfl) ?_
  refine g_get (v := .ref (ad 62)) (C := RX0) (T := TX0) (N := 10) (ci := 2) X inX0 hw 99 rfl rfl 5 (by decide) (List.mem_of_getElem? (i := 6) rfl) rfl rfl dX0_copyFrom_65 ?_
  refine gcV_v (rest := []) X (cR_copyFrom l D cy ad rest u10 10 31 (by decide) (by decide) (by decide)) gy_X4_copyFrom gX0_copyFrom_X4_copyFrom ⟨rfl, rfl, Nat.le_of_ble_eq_true rfl, Nat.le_of_ble_eq_true rfl⟩ 20 rfl rfl rfl hl rfl (Nat.le_of_ble_eq_true rfl) dX0_copyFrom_68 ⟨Nat.zero_le _, Nat.zero_le _⟩ hw (fun u12 H locs hu12 hw => ?_)
  have hu12 : u12 = sR u10 10 (rCopy 100 (u10.1 10) 100 (u10.1 31)) := hu12
  have hF := hF.trans (bnd_eq hu12)
  refine lv_aload_n hx hb dX0_copyFrom_71 rfl (lv_at hl 0 rfl) ?_
  refine g_get (v := .ref (ad 22)) (C := RX0) (T := TX0) (N := 10) (ci := 2) X inX0 hw 95 rfl rfl 6 (by decide) (List.mem_of_getElem? (i := 7) rfl) rfl rfl dX0_copyFrom_72 ?_
  refine lv_aload_n hx hb dX0_copyFrom_75 rfl (lv_at hl 1 rfl) ?_
  refine g_get (v := .ref (ad 64)) (C := RX0) (T := TX0) (N := 10) (ci := 2) X inX0 hw 99 rfl rfl 6 (by decide) (List.mem_of_getElem? (i := 7) rfl) rfl rfl dX0_copyFrom_76 ?_
  refine gcV_v (rest := []) X (cR_copyFrom l D cy ad rest u12 11 32 (by decide) (by decide) (by decide)) gy_X4_copyFrom gX0_copyFrom_X4_copyFrom ⟨rfl, rfl, Nat.le_of_ble_eq_true rfl, Nat.le_of_ble_eq_true rfl⟩ 22 rfl rfl rfl hl rfl (Nat.le_of_ble_eq_true rfl) dX0_copyFrom_79 ⟨Nat.zero_le _, Nat.zero_le _⟩ hw (fun u14 H locs hu14 hw => ?_)
  have hu14 : u14 = sR u12 11 (rCopy 100 (u12.1 11) 100 (u12.1 32)) := hu14
  have hF := hF.trans (bnd_eq hu14)
  refine lv_aload_n hx hb dX0_copyFrom_82 rfl (lv_at hl 0 rfl) ?_
  refine g_get (v := .ref (ad 24)) (C := RX0) (T := TX0) (N := 10) (ci := 2) X inX0 hw 95 rfl rfl 7 (by decide) (List.mem_of_getElem? (i := 8) rfl) rfl rfl dX0_copyFrom_83 ?_
  refine lv_aload_n hx hb dX0_copyFrom_86 rfl (lv_at hl 1 rfl) ?_
  refine g_get (v := .ref (ad 66)) (C := RX0) (T := TX0) (N := 10) (ci := 2) X inX0 hw 99 rfl rfl 7 (by decide) (List.mem_of_getElem? (i := 8) rfl) rfl rfl dX0_copyFrom_87 ?_
  refine gcV_v (rest := []) X (cR_copyFrom l D cy ad rest u14 12 33 (by decide) (by decide) (by decide)) gy_X4_copyFrom gX0_copyFrom_X4_copyFrom ⟨rfl, rfl, Nat.le_of_ble_eq_true rfl, Nat.le_of_ble_eq_true rfl⟩ 24 rfl rfl rfl hl rfl (Nat.le_of_ble_eq_true rfl) dX0_copyFrom_90 ⟨Nat.zero_le _, Nat.zero_le _⟩ hw (fun u16 H locs hu16 hw => ?_)
  have hu16 : u16 = sR u14 12 (rCopy 100 (u14.1 12) 100 (u14.1 33)) := hu16
  have hF := hF.trans (bnd_eq hu16)
  refine lv_aload_n hx hb dX0_copyFrom_93 rfl (lv_at hl 0 rfl) ?_
  refine g_get (v := .ref (ad 26)) (C := RX0) (T := TX0) (N := 10) (ci := 2) X inX0 hw 95 rfl rfl 8 (by decide) (List.mem_of_getElem? (i := 9) rfl) rfl rfl dX0_copyFrom_94 ?_
  refine lv_aload_n hx hb dX0_copyFrom_97 rfl (lv_at hl 1 rfl) ?_
  refine g_get (v := .ref (ad 68)) (C := RX0) (T := TX0) (N := 10) (ci := 2) X inX0 hw 99 rfl rfl 8 (by decide) (List.mem_of_getElem? (i := 9) rfl) rfl rfl dX0_copyFrom_98 ?_
  refine gcV_v (rest := []) X (cR_copyFrom l D cy ad rest u16 13 34 (by decide) (by decide) (by decide)) gy_X4_copyFrom gX0_copyFrom_X4_copyFrom ⟨rfl, rfl, Nat.le_of_ble_eq_true rfl, Nat.le_of_ble_eq_true rfl⟩ 26 rfl rfl rfl hl rfl (Nat.le_of_ble_eq_true rfl) dX0_copyFrom_101 ⟨Nat.zero_le _, Nat.zero_le _⟩ hw (fun u18 H locs hu18 hw => ?_)
  have hu18 : u18 = sR u16 13 (rCopy 100 (u16.1 13) 100 (u16.1 34)) := hu18
  have hF := hF.trans (bnd_eq hu18)
  refine lv_aload_n hx hb dX0_copyFrom_104 rfl (lv_at hl 0 rfl) ?_
  refine lv_aload_n hx hb dX0_copyFrom_105 rfl (lv_at hl 1 rfl) ?_
  refine g_get (v := .int (u18.2.1 15)) (C := RX0) (T := TX0) (N := 10) (ci := 2) X inX0 hw 99 rfl rfl 9 (by decide) (List.mem_of_getElem? (i := 10) rfl) rfl rfl dX0_copyFrom_106 ?_
  refine g_put (v := .int (u18.2.1 15)) (C := RX0) (T := TX0) (N := 10) (ci := 2) (w' := CW cy ad (sI u18 6 (u18.2.1 15)) ++ rest) X inX0 tyX0 tyX0_ok nmX0 hw 95 rfl rfl 9 (by decide) (List.mem_of_getElem? (i := 10) rfl) rfl rfl rfl rfl (Nat.le_of_ble_eq_true rfl) rfl dX0_copyFrom_109 (fun H locs hw => ?_)
  obtain ⟨u19, hu19⟩ : ∃ z, z = sI u18 6 (u18.2.1 15) := ⟨_, rfl⟩
  rw [← hu19] at hw
  have hF := hF.trans (bnd_eq hu19)
  exact hret _ _ _ _ _ dX0_copyFrom_112 (hF.symm.trans hsp) hw
def F_X0_copyFrom_kn (C : CS) : CS := (bnd (sR C 26 (rCopy 100 (C.1 26) 100 (C.1 5))) (fun u2 => (bnd (sR u2 27 (rCopy 100 (u2.1 27) 100 (u2.1 6))) (fun u4 => (bnd (sR u4 28 (rCopy 100 (u4.1 28) 100 (u4.1 7))) (fun u6 => (bnd (sR u6 29 (rCopy 100 (u6.1 29) 100 (u6.1 8))) (fun u8 => (bnd (sR u8 30 (rCopy 100 (u8.1 30) 100 (u8.1 9))) (fun u10 => (bnd (sR u10 31 (rCopy 100 (u10.1 31) 100 (u10.1 10))) (fun u12 => (bnd (sR u12 32 (rCopy 100 (u12.1 32) 100 (u12.1 11))) (fun u14 => (bnd (sR u14 33 (rCopy 100 (u14.1 33) 100 (u14.1 12))) (fun u16 => (bnd (sR u16 34 (rCopy 100 (u16.1 34) 100 (u16.1 13))) (fun u18 => (bnd (sI u18 15 (u18.2.1 6)) (fun u19 => u19))))))))))))))))))))
abbrev rmX0_copyFrom_kn : Room := { frames := 2, cells := 0, slots := 0, locals := 43 }
set_option maxHeartbeats 4000000 in
set_option maxRecDepth 100000 in
theorem c_X0_copyFrom_kn (l : Launch) (D : va_G) (cy : Nat → ClassId) (ad : Nat → Nat) (rest : va_W) (C : CS) : GMv l yX0_copyFrom wsX0_copyFrom rmX0_copyFrom_kn D cy [.ref (ad 99), .ref (ad 95)] (CW cy ad C ++ rest) (fun (u : CS) => u = F_X0_copyFrom_kn C) (fun u => CW cy ad u ++ rest) := by
  refine GMv.intro cX0_copyFrom 2 RX0 (by decide) rfl rfl (Nat.le_of_ble_eq_true rfl) ?_
  intro p e s m args below meth c A Q ls X hret hl hw
  have hx := X.1
  have hb := X.2.1
  have hl : lv_has ls 2 [(0, .ref (ad 99)), (1, .ref (ad 95))] := hl
  have inX0 : ∀ w ∈ wsX00, w ∈ wsX0_copyFrom := fun w h => List.mem_cons_of_mem _ (List.mem_append_left _ (List.mem_append_left _ (List.mem_append_right _ h)))
  obtain ⟨sp, hsp⟩ : ∃ sp, sp = F_X0_copyFrom_kn C := ⟨_, rfl⟩
  have hF := hsp.trans (F_X0_copyFrom_kn.eq_1 C)
  refine lv_aload_n hx hb dX0_copyFrom_0 rfl (lv_at hl 1 rfl) ?_
  refine lv_ifnonnull (tgt := 5) hx hb dX0_copyFrom_1 (by decide) ?_
  refine lv_aload_n hx hb dX0_copyFrom_5 rfl (lv_at hl 0 rfl) ?_
  refine g_get (v := .ref (ad 52)) (C := RX0) (T := TX0) (N := 10) (ci := 2) X inX0 hw 99 rfl rfl 0 (by decide) (List.mem_of_getElem? (i := 1) rfl) rfl rfl dX0_copyFrom_6 ?_
  refine lv_aload_n hx hb dX0_copyFrom_9 rfl (lv_at hl 1 rfl) ?_
  refine g_get (v := .ref (ad 10)) (C := RX0) (T := TX0) (N := 10) (ci := 2) X inX0 hw 95 rfl rfl 0 (by decide) (List.mem_of_getElem? (i := 1) rfl) rfl rfl dX0_copyFrom_10 ?_
  refine gcV_v (rest := []) X (cR_copyFrom l D cy ad rest C 26 5 (by decide) (by decide) (by decide)) gy_X4_copyFrom gX0_copyFrom_X4_copyFrom ⟨rfl, rfl, Nat.le_of_ble_eq_true rfl, Nat.le_of_ble_eq_true rfl⟩ 52 rfl rfl rfl hl rfl (Nat.le_of_ble_eq_true rfl) dX0_copyFrom_13 ⟨Nat.zero_le _, Nat.zero_le _⟩ hw (fun u2 H locs hu2 hw => ?_)
  have hu2 : u2 = sR C 26 (rCopy 100 (C.1 26) 100 (C.1 5)) := hu2
  have hF := hF.trans (bnd_eq hu2)
  refine lv_aload_n hx hb dX0_copyFrom_16 rfl (lv_at hl 0 rfl) ?_
  refine g_get (v := .ref (ad 54)) (C := RX0) (T := TX0) (N := 10) (ci := 2) X inX0 hw 99 rfl rfl 1 (by decide) (List.mem_of_getElem? (i := 2) rfl) rfl rfl dX0_copyFrom_17 ?_
  refine lv_aload_n hx hb dX0_copyFrom_20 rfl (lv_at hl 1 rfl) ?_
  refine g_get (v := .ref (ad 12)) (C := RX0) (T := TX0) (N := 10) (ci := 2) X inX0 hw 95 rfl rfl 1 (by decide) (List.mem_of_getElem? (i := 2) rfl) rfl rfl dX0_copyFrom_21 ?_
  refine gcV_v (rest := []) X (cR_copyFrom l D cy ad rest u2 27 6 (by decide) (by decide) (by decide)) gy_X4_copyFrom gX0_copyFrom_X4_copyFrom ⟨rfl, rfl, Nat.le_of_ble_eq_true rfl, Nat.le_of_ble_eq_true rfl⟩ 54 rfl rfl rfl hl rfl (Nat.le_of_ble_eq_true rfl) dX0_copyFrom_24 ⟨Nat.zero_le _, Nat.zero_le _⟩ hw (fun u4 H locs hu4 hw => ?_)
  have hu4 : u4 = sR u2 27 (rCopy 100 (u2.1 27) 100 (u2.1 6)) := hu4
  have hF := hF.trans (bnd_eq hu4)
  refine lv_aload_n hx hb dX0_copyFrom_27 rfl (lv_at hl 0 rfl) ?_
  refine g_get (v := .ref (ad 56)) (C := RX0) (T := TX0) (N := 10) (ci := 2) X inX0 hw 99 rfl rfl 2 (by decide) (List.mem_of_getElem? (i := 3) rfl) rfl rfl dX0_copyFrom_28 ?_
  refine lv_aload_n hx hb dX0_copyFrom_31 rfl (lv_at hl 1 rfl) ?_
  refine g_get (v := .ref (ad 14)) (C := RX0) (T := TX0) (N := 10) (ci := 2) X inX0 hw 95 rfl rfl 2 (by decide) (List.mem_of_getElem? (i := 3) rfl) rfl rfl dX0_copyFrom_32 ?_
  refine gcV_v (rest := []) X (cR_copyFrom l D cy ad rest u4 28 7 (by decide) (by decide) (by decide)) gy_X4_copyFrom gX0_copyFrom_X4_copyFrom ⟨rfl, rfl, Nat.le_of_ble_eq_true rfl, Nat.le_of_ble_eq_true rfl⟩ 56 rfl rfl rfl hl rfl (Nat.le_of_ble_eq_true rfl) dX0_copyFrom_35 ⟨Nat.zero_le _, Nat.zero_le _⟩ hw (fun u6 H locs hu6 hw => ?_)
  have hu6 : u6 = sR u4 28 (rCopy 100 (u4.1 28) 100 (u4.1 7)) := hu6
  have hF := hF.trans (bnd_eq hu6)
  refine lv_aload_n hx hb dX0_copyFrom_38 rfl (lv_at hl 0 rfl) ?_
  refine g_get (v := .ref (ad 58)) (C := RX0) (T := TX0) (N := 10) (ci := 2) X inX0 hw 99 rfl rfl 3 (by decide) (List.mem_of_getElem? (i := 4) rfl) rfl rfl dX0_copyFrom_39 ?_
  refine lv_aload_n hx hb dX0_copyFrom_42 rfl (lv_at hl 1 rfl) ?_
  refine g_get (v := .ref (ad 16)) (C := RX0) (T := TX0) (N := 10) (ci := 2) X inX0 hw 95 rfl rfl 3 (by decide) (List.mem_of_getElem? (i := 4) rfl) rfl rfl dX0_copyFrom_43 ?_
  refine gcV_v (rest := []) X (cR_copyFrom l D cy ad rest u6 29 8 (by decide) (by decide) (by decide)) gy_X4_copyFrom gX0_copyFrom_X4_copyFrom ⟨rfl, rfl, Nat.le_of_ble_eq_true rfl, Nat.le_of_ble_eq_true rfl⟩ 58 rfl rfl rfl hl rfl (Nat.le_of_ble_eq_true rfl) dX0_copyFrom_46 ⟨Nat.zero_le _, Nat.zero_le _⟩ hw (fun u8 H locs hu8 hw => ?_)
  have hu8 : u8 = sR u6 29 (rCopy 100 (u6.1 29) 100 (u6.1 8)) := hu8
  have hF := hF.trans (bnd_eq hu8)
  refine lv_aload_n hx hb dX0_copyFrom_49 rfl (lv_at hl 0 rfl) ?_
  refine g_get (v := .ref (ad 60)) (C := RX0) (T := TX0) (N := 10) (ci := 2) X inX0 hw 99 rfl rfl 4 (by decide) (List.mem_of_getElem? (i := 5) rfl) rfl rfl dX0_copyFrom_50 ?_
  refine lv_aload_n hx hb dX0_copyFrom_53 rfl (lv_at hl 1 rfl) ?_
  refine g_get (v := .ref (ad 18)) (C := RX0) (T := TX0) (N := 10) (ci := 2) X inX0 hw 95 rfl rfl 4 (by decide) (List.mem_of_getElem? (i := 5) rfl) rfl rfl dX0_copyFrom_54 ?_
  refine gcV_v (rest := []) X (cR_copyFrom l D cy ad rest u8 30 9 (by decide) (by decide) (by decide)) gy_X4_copyFrom gX0_copyFrom_X4_copyFrom ⟨rfl, rfl, Nat.le_of_ble_eq_true rfl, Nat.le_of_ble_eq_true rfl⟩ 60 rfl rfl rfl hl rfl (Nat.le_of_ble_eq_true rfl) dX0_copyFrom_57 ⟨Nat.zero_le _, Nat.zero_le _⟩ hw (fun u10 H locs hu10 hw => ?_)
  have hu10 : u10 = sR u8 30 (rCopy 100 (u8.1 30) 100 (u8.1 9)) := hu10
  have hF := hF.trans (bnd_eq hu10)
  refine lv_aload_n hx hb dX0_copyFrom_60 rfl (lv_at hl 0 rfl) ?_
  refine g_get (v := .ref (ad 62)) (C := RX0) (T := TX0) (N := 10) (ci := 2) X inX0 hw 99 rfl rfl 5 (by decide) (List.mem_of_getElem? (i := 6) rfl) rfl rfl dX0_copyFrom_61 ?_
  refine lv_aload_n hx hb dX0_copyFrom_64 rfl (lv_at hl 1 rfl) ?_
  refine g_get (v := .ref (ad 20)) (C := RX0) (T := TX0) (N := 10) (ci := 2) X inX0 hw 95 rfl rfl 5 (by decide) (List.mem_of_getElem? (i := 6) rfl) rfl rfl dX0_copyFrom_65 ?_
  refine gcV_v (rest := []) X (cR_copyFrom l D cy ad rest u10 31 10 (by decide) (by decide) (by decide)) gy_X4_copyFrom gX0_copyFrom_X4_copyFrom ⟨rfl, rfl, Nat.le_of_ble_eq_true rfl, Nat.le_of_ble_eq_true rfl⟩ 62 rfl rfl rfl hl rfl (Nat.le_of_ble_eq_true rfl) dX0_copyFrom_68 ⟨Nat.zero_le _, Nat.zero_le _⟩ hw (fun u12 H locs hu12 hw => ?_)
  have hu12 : u12 = sR u10 31 (rCopy 100 (u10.1 31) 100 (u10.1 10)) := hu12
  have hF := hF.trans (bnd_eq hu12)
  refine lv_aload_n hx hb dX0_copyFrom_71 rfl (lv_at hl 0 rfl) ?_
  refine g_get (v := .ref (ad 64)) (C := RX0) (T := TX0) (N := 10) (ci := 2) X inX0 hw 99 rfl rfl 6 (by decide) (List.mem_of_getElem? (i := 7) rfl) rfl rfl dX0_copyFrom_72 ?_
  refine lv_aload_n hx hb dX0_copyFrom_75 rfl (lv_at hl 1 rfl) ?_
  refine g_get (v := .ref (ad 22)) (C := RX0) (T := TX0) (N := 10) (ci := 2) X inX0 hw 95 rfl rfl 6 (by decide) (List.mem_of_getElem? (i := 7) rfl) rfl rfl dX0_copyFrom_76 ?_
  refine gcV_v (rest := []) X (cR_copyFrom l D cy ad rest u12 32 11 (by decide) (by decide) (by decide)) gy_X4_copyFrom gX0_copyFrom_X4_copyFrom ⟨rfl, rfl, Nat.le_of_ble_eq_true rfl, Nat.le_of_ble_eq_true rfl⟩ 64 rfl rfl rfl hl rfl (Nat.le_of_ble_eq_true rfl) dX0_copyFrom_79 ⟨Nat.zero_le _, Nat.zero_le _⟩ hw (fun u14 H locs hu14 hw => ?_)
  have hu14 : u14 = sR u12 32 (rCopy 100 (u12.1 32) 100 (u12.1 11)) := hu14
  have hF := hF.trans (bnd_eq hu14)
  refine lv_aload_n hx hb dX0_copyFrom_82 rfl (lv_at hl 0 rfl) ?_
  refine g_get (v := .ref (ad 66)) (C := RX0) (T := TX0) (N := 10) (ci := 2) X inX0 hw 99 rfl rfl 7 (by decide) (List.mem_of_getElem? (i := 8) rfl) rfl rfl dX0_copyFrom_83 ?_
  refine lv_aload_n hx hb dX0_copyFrom_86 rfl (lv_at hl 1 rfl) ?_
  refine g_get (v := .ref (ad 24)) (C := RX0) (T := TX0) (N := 10) (ci := 2) X inX0 hw 95 rfl rfl 7 (by decide) (List.mem_of_getElem? (i := 8) rfl) rfl rfl dX0_copyFrom_87 ?_
  refine gcV_v (rest := []) X (cR_copyFrom l D cy ad rest u14 33 12 (by decide) (by decide) (by decide)) gy_X4_copyFrom gX0_copyFrom_X4_copyFrom ⟨rfl, rfl, Nat.le_of_ble_eq_true rfl, Nat.le_of_ble_eq_true rfl⟩ 66 rfl rfl rfl hl rfl (Nat.le_of_ble_eq_true rfl) dX0_copyFrom_90 ⟨Nat.zero_le _, Nat.zero_le _⟩ hw (fun u16 H locs hu16 hw => ?_)
  have hu16 : u16 = sR u14 33 (rCopy 100 (u14.1 33) 100 (u14.1 12)) := hu16
  have hF := hF.trans (bnd_eq hu16)
  refine lv_aload_n hx hb dX0_copyFrom_93 rfl (lv_at hl 0 rfl) ?_
  refine g_get (v := .ref (ad 68)) (C := RX0) (T := TX0) (N := 10) (ci := 2) X inX0 hw 99 rfl rfl 8 (by decide) (List.mem_of_getElem? (i := 9) rfl) rfl rfl dX0_copyFrom_94 ?_
  refine lv_aload_n hx hb dX0_copyFrom_97 rfl (lv_at hl 1 rfl) ?_
  refine g_get (v := .ref (ad 26)) (C := RX0) (T := TX0) (N := 10) (ci := 2) X inX0 hw 95 rfl rfl 8 (by decide) (List.mem_of_getElem? (i := 9) rfl) rfl rfl dX0_copyFrom_98 ?_
  refine gcV_v (rest := []) X (cR_copyFrom l D cy ad rest u16 34 13 (by decide) (by decide) (by decide)) gy_X4_copyFrom gX0_copyFrom_X4_copyFrom ⟨rfl, rfl, Nat.le_of_ble_eq_true rfl, Nat.le_of_ble_eq_true rfl⟩ 68 rfl rfl rfl hl rfl (Nat.le_of_ble_eq_true rfl) dX0_copyFrom_101 ⟨Nat.zero_le _, Nat.zero_le _⟩ hw (fun u18 H locs hu18 hw => ?_)
  have hu18 : u18 = sR u16 34 (rCopy 100 (u16.1 34) 100 (u16.1 13)) := hu18
  have hF := hF.trans (bnd_eq hu18)
  refine lv_aload_n hx hb dX0_copyFrom_104 rfl (lv_at hl 0 rfl) ?_
  refine lv_aload_n hx hb dX0_copyFrom_105 rfl (lv_at hl 1 rfl) ?_
  refine g_get (v := .int (u18.2.1 6)) (C := RX0) (T := TX0) (N := 10) (ci := 2) X inX0 hw 95 rfl rfl 9 (by decide) (List.mem_of_getElem? (i := 10) rfl) rfl rfl dX0_copyFrom_106 ?_
  refine g_put (v := .int (u18.2.1 6)) (C := RX0) (T := TX0) (N := 10) (ci := 2) (w' := CW cy ad (sI u18 15 (u18.2.1 6)) ++ rest) X inX0 tyX0 tyX0_ok nmX0 hw 99 rfl rfl 9 (by decide) (List.mem_of_getElem? (i := 10) rfl) rfl rfl rfl rfl (Nat.le_of_ble_eq_true rfl) rfl dX0_copyFrom_109 (fun H locs hw => ?_)
  obtain ⟨u19, hu19⟩ : ∃ z, z = sI u18 15 (u18.2.1 6) := ⟨_, rfl⟩
  rw [← hu19] at hw
  have hF := hF.trans (bnd_eq hu19)
  exact hret _ _ _ _ _ dX0_copyFrom_112 (hF.symm.trans hsp) hw
