theorem gy_X5_lengthen : gY yX5_lengthen RX5 cX5_lengthen 2 (some .int) wsX5_lengthen 1 := ⟨⟨_, rfl⟩, rfl, by decide +kernel, by decide +kernel, by decide +kernel⟩
def F_X5_lengthen (C : CS) (q1 : Int32) : Int32 × CS := (bnd (sR C 42 (rPut 40 (C.1 42) (C.2.1 18) q1)) (fun u2 => (bnd (sI u2 18 (u2.2.1 18 + 1)) (fun u3 => (u3.2.1 18, u3)))))
abbrev rmX5_lengthen : Room := { frames := 1, cells := 0, slots := 0, locals := 22 }
set_option maxHeartbeats 4000000 in
set_option maxRecDepth 100000 in
theorem c_X5_lengthen (l : Launch) (D : va_G) (cy : Nat → ClassId) (ad : Nat → Nat) (rest : va_W) (C : CS) (q1 : Int32) : GMi l yX5_lengthen wsX5_lengthen rmX5_lengthen D cy [.ref (ad 101), .int q1] (CW cy ad C ++ rest) (fun (r : Int32) (u : CS) => r = (F_X5_lengthen C q1).1 ∧ u = (F_X5_lengthen C q1).2) (fun u => CW cy ad u ++ rest) := by
  refine GMi.intro cX5_lengthen 2 RX5 (by decide) rfl rfl (Nat.le_of_ble_eq_true rfl) ?_
  intro p e s m args below meth c A Q ls X hret hl hw
  have hx := X.1
  have hb := X.2.1
  have hl : lv_has ls 2 [(0, .ref (ad 101)), (1, .int q1)] := hl
  have inX5 : ∀ w ∈ wsX50, w ∈ wsX5_lengthen := fun w h => List.mem_cons_of_mem _ (List.mem_append_left _ (List.mem_append_left _ (List.mem_append_right _ h)))
  obtain ⟨sp, hsp⟩ : ∃ sp, sp = F_X5_lengthen C q1 := ⟨_, rfl⟩
  have hF := hsp.trans (F_X5_lengthen.eq_1 C q1)
  refine lv_aload_n hx hb dX5_lengthen_0 rfl (lv_at hl 0 rfl) ?_
  refine g_get (v := .ref (ad 84)) (C := RX5) (T := TX5) (N := 7) (ci := 7) X inX5 hw 101 rfl rfl 0 (by decide) (List.mem_of_getElem? (i := 1) rfl) rfl rfl dX5_lengthen_1 ?_
  refine lv_aload_n hx hb dX5_lengthen_4 rfl (lv_at hl 0 rfl) ?_
  refine g_get (v := .int (C.2.1 18)) (C := RX5) (T := TX5) (N := 7) (ci := 7) X inX5 hw 101 rfl rfl 1 (by decide) (List.mem_of_getElem? (i := 2) rfl) rfl rfl dX5_lengthen_5 ?_
  refine lv_iload_n hx hb dX5_lengthen_8 rfl (lv_at hl 1 rfl) ?_
  refine gcV_v (rest := []) X (cR_put l D cy ad rest C 42 (by decide) (C.2.1 18) q1) gy_X4_put gX5_lengthen_X4_put ⟨rfl, rfl, Nat.le_of_ble_eq_true rfl, Nat.le_of_ble_eq_true rfl⟩ 84 rfl rfl rfl hl rfl (Nat.le_of_ble_eq_true rfl) dX5_lengthen_9 ⟨Nat.zero_le _, Nat.zero_le _⟩ hw (fun u2 H locs hu2 hw => ?_)
  have hu2 : u2 = sR C 42 (rPut 40 (C.1 42) (C.2.1 18) q1) := hu2
  have hF := hF.trans (bnd_eq hu2)
  refine lv_aload_n hx hb dX5_lengthen_12 rfl (lv_at hl 0 rfl) ?_
  refine lv_dup hx hb dX5_lengthen_13 rfl ?_
  refine g_get (v := .int (u2.2.1 18)) (C := RX5) (T := TX5) (N := 7) (ci := 7) X inX5 hw 101 rfl rfl 1 (by decide) (List.mem_of_getElem? (i := 2) rfl) rfl rfl dX5_lengthen_14 ?_
  refine lv_iconst (v := 1) hx hb dX5_lengthen_17 (by decide) ?_
  refine lv_iadd hx hb dX5_lengthen_18 ?_
  refine g_put (v := .int (u2.2.1 18 + 1)) (C := RX5) (T := TX5) (N := 7) (ci := 7) (w' := CW cy ad (sI u2 18 (u2.2.1 18 + 1)) ++ rest) X inX5 tyX5 tyX5_ok nmX5 hw 101 rfl rfl 1 (by decide) (List.mem_of_getElem? (i := 2) rfl) rfl rfl rfl rfl (Nat.le_of_ble_eq_true rfl) rfl dX5_lengthen_19 (fun H locs hw => ?_)
  obtain ⟨u3, hu3⟩ : ∃ z, z = sI u2 18 (u2.2.1 18 + 1) := ⟨_, rfl⟩
  rw [← hu3] at hw
  have hF := hF.trans (bnd_eq hu3)
  refine lv_aload_n hx hb dX5_lengthen_22 rfl (lv_at hl 0 rfl) ?_
  refine g_get (v := .int (u3.2.1 18)) (C := RX5) (T := TX5) (N := 7) (ci := 7) X inX5 hw 101 rfl rfl 1 (by decide) (List.mem_of_getElem? (i := 2) rfl) rfl rfl dX5_lengthen_23 ?_
  exact hret _ _ _ _ _ _ dX5_lengthen_26 ⟨congrArg Prod.fst (hF.symm.trans hsp), congrArg Prod.snd (hF.symm.trans hsp)⟩ hw
theorem gy_X5_noteEntry : gY yX5_noteEntry RX5 cX5_noteEntry 4 none wsX5_noteEntry 3 := ⟨⟨_, rfl⟩, rfl, by decide +kernel, by decide +kernel, by decide +kernel⟩
def F_X5_noteEntry (C : CS) (q1 : Int32) (q2 : Int32) (q3 : Int32) : CS := (bnd (sR C 43 (rPut 14 (C.1 43) (C.2.1 20) q1)) (fun u2 => (bnd (sR u2 44 (rPut 14 (u2.1 44) (u2.2.1 20) q2)) (fun u4 => (bnd (sR u4 45 (rPut 14 (u4.1 45) (u4.2.1 20) q3)) (fun u6 => (bnd (sI u6 20 (u6.2.1 20 + 1)) (fun u7 => u7))))))))
abbrev rmX5_noteEntry : Room := { frames := 1, cells := 0, slots := 0, locals := 22 }
set_option maxHeartbeats 4000000 in
set_option maxRecDepth 100000 in
theorem c_X5_noteEntry (l : Launch) (D : va_G) (cy : Nat → ClassId) (ad : Nat → Nat) (rest : va_W) (C : CS) (q1 : Int32) (q2 : Int32) (q3 : Int32) : GMv l yX5_noteEntry wsX5_noteEntry rmX5_noteEntry D cy [.ref (ad 101), .int q1, .int q2, .int q3] (CW cy ad C ++ rest) (fun (u : CS) => u = F_X5_noteEntry C q1 q2 q3) (fun u => CW cy ad u ++ rest) := by
  refine GMv.intro cX5_noteEntry 4 RX5 (by decide) rfl rfl (Nat.le_of_ble_eq_true rfl) ?_
  intro p e s m args below meth c A Q ls X hret hl hw
  have hx := X.1
  have hb := X.2.1
  have hl : lv_has ls 4 [(0, .ref (ad 101)), (1, .int q1), (2, .int q2), (3, .int q3)] := hl
  have inX5 : ∀ w ∈ wsX50, w ∈ wsX5_noteEntry := fun w h => List.mem_cons_of_mem _ (List.mem_append_left _ (List.mem_append_left _ (List.mem_append_right _ h)))
  obtain ⟨sp, hsp⟩ : ∃ sp, sp = F_X5_noteEntry C q1 q2 q3 := ⟨_, rfl⟩
  have hF := hsp.trans (F_X5_noteEntry.eq_1 C q1 q2 q3)
  refine lv_aload_n hx hb dX5_noteEntry_0 rfl (lv_at hl 0 rfl) ?_
  refine g_get (v := .ref (ad 86)) (C := RX5) (T := TX5) (N := 7) (ci := 7) X inX5 hw 101 rfl rfl 3 (by decide) (List.mem_of_getElem? (i := 1) rfl) rfl rfl dX5_noteEntry_1 ?_
  refine lv_aload_n hx hb dX5_noteEntry_4 rfl (lv_at hl 0 rfl) ?_
  refine g_get (v := .int (C.2.1 20)) (C := RX5) (T := TX5) (N := 7) (ci := 7) X inX5 hw 101 rfl rfl 6 (by decide) (List.mem_of_getElem? (i := 2) rfl) rfl rfl dX5_noteEntry_5 ?_
  refine lv_iload_n hx hb dX5_noteEntry_8 rfl (lv_at hl 1 rfl) ?_
  refine gcV_v (rest := []) X (cR_put l D cy ad rest C 43 (by decide) (C.2.1 20) q1) gy_X4_put gX5_noteEntry_X4_put ⟨rfl, rfl, Nat.le_of_ble_eq_true rfl, Nat.le_of_ble_eq_true rfl⟩ 86 rfl rfl rfl hl rfl (Nat.le_of_ble_eq_true rfl) dX5_noteEntry_9 ⟨Nat.zero_le _, Nat.zero_le _⟩ hw (fun u2 H locs hu2 hw => ?_)
  have hu2 : u2 = sR C 43 (rPut 14 (C.1 43) (C.2.1 20) q1) := hu2
  have hF := hF.trans (bnd_eq hu2)
  refine lv_aload_n hx hb dX5_noteEntry_12 rfl (lv_at hl 0 rfl) ?_
  refine g_get (v := .ref (ad 88)) (C := RX5) (T := TX5) (N := 7) (ci := 7) X inX5 hw 101 rfl rfl 4 (by decide) (List.mem_of_getElem? (i := 3) rfl) rfl rfl dX5_noteEntry_13 ?_
  refine lv_aload_n hx hb dX5_noteEntry_16 rfl (lv_at hl 0 rfl) ?_
  refine g_get (v := .int (u2.2.1 20)) (C := RX5) (T := TX5) (N := 7) (ci := 7) X inX5 hw 101 rfl rfl 6 (by decide) (List.mem_of_getElem? (i := 2) rfl) rfl rfl dX5_noteEntry_17 ?_
  refine lv_iload_n hx hb dX5_noteEntry_20 rfl (lv_at hl 2 rfl) ?_
  refine gcV_v (rest := []) X (cR_put l D cy ad rest u2 44 (by decide) (u2.2.1 20) q2) gy_X4_put gX5_noteEntry_X4_put ⟨rfl, rfl, Nat.le_of_ble_eq_true rfl, Nat.le_of_ble_eq_true rfl⟩ 88 rfl rfl rfl hl rfl (Nat.le_of_ble_eq_true rfl) dX5_noteEntry_21 ⟨Nat.zero_le _, Nat.zero_le _⟩ hw (fun u4 H locs hu4 hw => ?_)
  have hu4 : u4 = sR u2 44 (rPut 14 (u2.1 44) (u2.2.1 20) q2) := hu4
  have hF := hF.trans (bnd_eq hu4)
  refine lv_aload_n hx hb dX5_noteEntry_24 rfl (lv_at hl 0 rfl) ?_
  refine g_get (v := .ref (ad 90)) (C := RX5) (T := TX5) (N := 7) (ci := 7) X inX5 hw 101 rfl rfl 5 (by decide) (List.mem_of_getElem? (i := 4) rfl) rfl rfl dX5_noteEntry_25 ?_
  refine lv_aload_n hx hb dX5_noteEntry_28 rfl (lv_at hl 0 rfl) ?_
  refine g_get (v := .int (u4.2.1 20)) (C := RX5) (T := TX5) (N := 7) (ci := 7) X inX5 hw 101 rfl rfl 6 (by decide) (List.mem_of_getElem? (i := 2) rfl) rfl rfl dX5_noteEntry_29 ?_
  refine lv_iload_n hx hb dX5_noteEntry_32 rfl (lv_at hl 3 rfl) ?_
  refine gcV_v (rest := []) X (cR_put l D cy ad rest u4 45 (by decide) (u4.2.1 20) q3) gy_X4_put gX5_noteEntry_X4_put ⟨rfl, rfl, Nat.le_of_ble_eq_true rfl, Nat.le_of_ble_eq_true rfl⟩ 90 rfl rfl rfl hl rfl (Nat.le_of_ble_eq_true rfl) dX5_noteEntry_33 ⟨Nat.zero_le _, Nat.zero_le _⟩ hw (fun u6 H locs hu6 hw => ?_)
  have hu6 : u6 = sR u4 45 (rPut 14 (u4.1 45) (u4.2.1 20) q3) := hu6
  have hF := hF.trans (bnd_eq hu6)
  refine lv_aload_n hx hb dX5_noteEntry_36 rfl (lv_at hl 0 rfl) ?_
  refine lv_dup hx hb dX5_noteEntry_37 rfl ?_
  refine g_get (v := .int (u6.2.1 20)) (C := RX5) (T := TX5) (N := 7) (ci := 7) X inX5 hw 101 rfl rfl 6 (by decide) (List.mem_of_getElem? (i := 2) rfl) rfl rfl dX5_noteEntry_38 ?_
  refine lv_iconst (v := 1) hx hb dX5_noteEntry_41 (by decide) ?_
  refine lv_iadd hx hb dX5_noteEntry_42 ?_
  refine g_put (v := .int (u6.2.1 20 + 1)) (C := RX5) (T := TX5) (N := 7) (ci := 7) (w' := CW cy ad (sI u6 20 (u6.2.1 20 + 1)) ++ rest) X inX5 tyX5 tyX5_ok nmX5 hw 101 rfl rfl 6 (by decide) (List.mem_of_getElem? (i := 2) rfl) rfl rfl rfl rfl (Nat.le_of_ble_eq_true rfl) rfl dX5_noteEntry_43 (fun H locs hw => ?_)
  obtain ⟨u7, hu7⟩ : ∃ z, z = sI u6 20 (u6.2.1 20 + 1) := ⟨_, rfl⟩
  rw [← hu7] at hw
  have hF := hF.trans (bnd_eq hu7)
  exact hret _ _ _ _ _ dX5_noteEntry_46 (hF.symm.trans hsp) hw
theorem gy_X5_takeSign : gY yX5_takeSign RX5 cX5_takeSign 2 (some .boolean) wsX5_takeSign 1 := ⟨⟨_, rfl⟩, rfl, by decide +kernel, by decide +kernel, by decide +kernel⟩
def F_X5_takeSign (C : CS) (q1 : Int32) : Int32 × CS := (if C.2.1 18 ≤ C.2.1 19 then (0, C) else (bnd (rAt 40 (C.1 42) (C.2.1 19)) (fun r2 => (if r2 = q1 then (bnd (sI C 19 (C.2.1 19 + 1)) (fun u5 => (1, u5))) else (0, C)))))
abbrev rmX5_takeSign : Room := { frames := 1, cells := 0, slots := 0, locals := 21 }
set_option maxHeartbeats 4000000 in
set_option maxRecDepth 100000 in
theorem c_X5_takeSign (l : Launch) (D : va_G) (cy : Nat → ClassId) (ad : Nat → Nat) (rest : va_W) (C : CS) (q1 : Int32) : GMi l yX5_takeSign wsX5_takeSign rmX5_takeSign D cy [.ref (ad 101), .int q1] (CW cy ad C ++ rest) (fun (r : Int32) (u : CS) => (r = (F_X5_takeSign C q1).1 ∧ u = (F_X5_takeSign C q1).2) ∧ (r = 0 ∨ r = 1)) (fun u => CW cy ad u ++ rest) := by
  refine GMz.intro cX5_takeSign 2 RX5 (by decide) rfl rfl (Nat.le_of_ble_eq_true rfl) ?_
  intro p e s m args below meth c A Q ls X hret hl hw
  have hx := X.1
  have hb := X.2.1
  have hl : lv_has ls 2 [(0, .ref (ad 101)), (1, .int q1)] := hl
  have inX5 : ∀ w ∈ wsX50, w ∈ wsX5_takeSign := fun w h => List.mem_cons_of_mem _ (List.mem_append_left _ (List.mem_append_left _ (List.mem_append_right _ h)))
  obtain ⟨sp, hsp⟩ : ∃ sp, sp = F_X5_takeSign C q1 := ⟨_, rfl⟩
  have hF := hsp.trans (F_X5_takeSign.eq_1 C q1)
  refine lv_aload_n hx hb dX5_takeSign_0 rfl (lv_at hl 0 rfl) ?_
  refine g_get (v := .int (C.2.1 19)) (C := RX5) (T := TX5) (N := 7) (ci := 7) X inX5 hw 101 rfl rfl 2 (by decide) (List.mem_of_getElem? (i := 1) rfl) rfl rfl dX5_takeSign_1 ?_
  refine lv_aload_n hx hb dX5_takeSign_4 rfl (lv_at hl 0 rfl) ?_
  refine g_get (v := .int (C.2.1 18)) (C := RX5) (T := TX5) (N := 7) (ci := 7) X inX5 hw 101 rfl rfl 1 (by decide) (List.mem_of_getElem? (i := 2) rfl) rfl rfl dX5_takeSign_5 ?_
  refine lv_icmp_ge (tgt := 26) hx hb dX5_takeSign_8 (by decide) (fun c1 => ?_) (fun c1 => ?_)
  · skip
    have hF := hF.trans (if_pos c1)
    refine lv_iconst (v := 0) hx hb dX5_takeSign_26 (by decide) ?_
    exact hret _ _ _ _ _ _ dX5_takeSign_27 (Or.inl rfl) ⟨⟨congrArg Prod.fst (hF.symm.trans hsp), congrArg Prod.snd (hF.symm.trans hsp)⟩, (Or.inl rfl)⟩ hw
  · skip
    have hF := hF.trans (if_neg c1)
    refine lv_aload_n hx hb dX5_takeSign_11 rfl (lv_at hl 0 rfl) ?_
    refine g_get (v := .ref (ad 84)) (C := RX5) (T := TX5) (N := 7) (ci := 7) X inX5 hw 101 rfl rfl 0 (by decide) (List.mem_of_getElem? (i := 3) rfl) rfl rfl dX5_takeSign_12 ?_
    refine lv_aload_n hx hb dX5_takeSign_15 rfl (lv_at hl 0 rfl) ?_
    refine g_get (v := .int (C.2.1 19)) (C := RX5) (T := TX5) (N := 7) (ci := 7) X inX5 hw 101 rfl rfl 2 (by decide) (List.mem_of_getElem? (i := 1) rfl) rfl rfl dX5_takeSign_16 ?_
    refine gcV_i (rest := []) X (cR_at l D cy ad rest C 42 (by decide) (C.2.1 19)) gy_X4_at gX5_takeSign_X4_at ⟨rfl, rfl, Nat.le_of_ble_eq_true rfl, Nat.le_of_ble_eq_true rfl⟩ 84 rfl rfl rfl hl rfl (Nat.le_of_ble_eq_true rfl) dX5_takeSign_19 ⟨Nat.zero_le _, Nat.zero_le _⟩ hw (fun r2 _ H locs hr2 hw => ?_)
    have hr2 : r2 = rAt 40 (C.1 42) (C.2.1 19) := hr2
    have hF := hF.trans (bnd_eq hr2)
    refine lv_iload_n hx hb dX5_takeSign_22 rfl (lv_at hl 1 rfl) ?_
    refine lv_icmp_eq (tgt := 28) hx hb dX5_takeSign_23 (by decide) (fun c4 => ?_) (fun c4 => ?_)
    · skip
      have hF := hF.trans (if_pos c4)
      refine lv_aload_n hx hb dX5_takeSign_28 rfl (lv_at hl 0 rfl) ?_
      refine lv_dup hx hb dX5_takeSign_29 rfl ?_
      refine g_get (v := .int (C.2.1 19)) (C := RX5) (T := TX5) (N := 7) (ci := 7) X inX5 hw 101 rfl rfl 2 (by decide) (List.mem_of_getElem? (i := 1) rfl) rfl rfl dX5_takeSign_30 ?_
      refine lv_iconst (v := 1) hx hb dX5_takeSign_33 (by decide) ?_
      refine lv_iadd hx hb dX5_takeSign_34 ?_
      refine g_put (v := .int (C.2.1 19 + 1)) (C := RX5) (T := TX5) (N := 7) (ci := 7) (w' := CW cy ad (sI C 19 (C.2.1 19 + 1)) ++ rest) X inX5 tyX5 tyX5_ok nmX5 hw 101 rfl rfl 2 (by decide) (List.mem_of_getElem? (i := 1) rfl) rfl rfl rfl rfl (Nat.le_of_ble_eq_true rfl) rfl dX5_takeSign_35 (fun H locs hw => ?_)
      obtain ⟨u5, hu5⟩ : ∃ z, z = sI C 19 (C.2.1 19 + 1) := ⟨_, rfl⟩
      rw [← hu5] at hw
      have hF := hF.trans (bnd_eq hu5)
      refine lv_iconst (v := 1) hx hb dX5_takeSign_38 (by decide) ?_
      exact hret _ _ _ _ _ _ dX5_takeSign_39 (Or.inr rfl) ⟨⟨congrArg Prod.fst (hF.symm.trans hsp), congrArg Prod.snd (hF.symm.trans hsp)⟩, (Or.inr rfl)⟩ hw
    · skip
      have hF := hF.trans (if_neg c4)
      refine lv_iconst (v := 0) hx hb dX5_takeSign_26 (by decide) ?_
      exact hret _ _ _ _ _ _ dX5_takeSign_27 (Or.inl rfl) ⟨⟨congrArg Prod.fst (hF.symm.trans hsp), congrArg Prod.snd (hF.symm.trans hsp)⟩, (Or.inl rfl)⟩ hw
theorem gy_X5_takeDigit : gY yX5_takeDigit RX5 cX5_takeDigit 3 (some .int) wsX5_takeDigit 1 := ⟨⟨_, rfl⟩, rfl, by decide +kernel, by decide +kernel, by decide +kernel⟩
def F_X5_takeDigit (C : CS) (q1 : Int32) : Int32 × CS := (if C.2.1 19 < C.2.1 18 then (bnd (rAt 40 (C.1 42) (C.2.1 19)) (fun r2 => (if (r2 - 48) < 0 then ((-1), C) else (if (r2 - 48) ≤ q1 then (bnd (sI C 19 (C.2.1 19 + 1)) (fun u6 => ((r2 - 48), u6))) else ((-1), C))))) else ((-1), C))
abbrev rmX5_takeDigit : Room := { frames := 1, cells := 0, slots := 0, locals := 21 }
set_option maxHeartbeats 4000000 in
set_option maxRecDepth 100000 in
theorem c_X5_takeDigit (l : Launch) (D : va_G) (cy : Nat → ClassId) (ad : Nat → Nat) (rest : va_W) (C : CS) (q1 : Int32) : GMi l yX5_takeDigit wsX5_takeDigit rmX5_takeDigit D cy [.ref (ad 101), .int q1] (CW cy ad C ++ rest) (fun (r : Int32) (u : CS) => r = (F_X5_takeDigit C q1).1 ∧ u = (F_X5_takeDigit C q1).2) (fun u => CW cy ad u ++ rest) := by
  refine GMi.intro cX5_takeDigit 3 RX5 (by decide) rfl rfl (Nat.le_of_ble_eq_true rfl) ?_
  intro p e s m args below meth c A Q ls X hret hl hw
  have hx := X.1
  have hb := X.2.1
  have hl : lv_has ls 3 [(0, .ref (ad 101)), (1, .int q1)] := hl
  have inX5 : ∀ w ∈ wsX50, w ∈ wsX5_takeDigit := fun w h => List.mem_cons_of_mem _ (List.mem_append_left _ (List.mem_append_left _ (List.mem_append_right _ h)))
  obtain ⟨sp, hsp⟩ : ∃ sp, sp = F_X5_takeDigit C q1 := ⟨_, rfl⟩
  have hF := hsp.trans (F_X5_takeDigit.eq_1 C q1)
  refine lv_aload_n hx hb dX5_takeDigit_0 rfl (lv_at hl 0 rfl) ?_
  refine g_get (v := .int (C.2.1 19)) (C := RX5) (T := TX5) (N := 7) (ci := 7) X inX5 hw 101 rfl rfl 2 (by decide) (List.mem_of_getElem? (i := 1) rfl) rfl rfl dX5_takeDigit_1 ?_
  refine lv_aload_n hx hb dX5_takeDigit_4 rfl (lv_at hl 0 rfl) ?_
  refine g_get (v := .int (C.2.1 18)) (C := RX5) (T := TX5) (N := 7) (ci := 7) X inX5 hw 101 rfl rfl 1 (by decide) (List.mem_of_getElem? (i := 2) rfl) rfl rfl dX5_takeDigit_5 ?_
  refine lv_icmp_lt (tgt := 13) hx hb dX5_takeDigit_8 (by decide) (fun c1 => ?_) (fun c1 => ?_)
  · skip
    have hF := hF.trans (if_pos c1)
    refine lv_aload_n hx hb dX5_takeDigit_13 rfl (lv_at hl 0 rfl) ?_
    refine g_get (v := .ref (ad 84)) (C := RX5) (T := TX5) (N := 7) (ci := 7) X inX5 hw 101 rfl rfl 0 (by decide) (List.mem_of_getElem? (i := 3) rfl) rfl rfl dX5_takeDigit_14 ?_
    refine lv_aload_n hx hb dX5_takeDigit_17 rfl (lv_at hl 0 rfl) ?_
    refine g_get (v := .int (C.2.1 19)) (C := RX5) (T := TX5) (N := 7) (ci := 7) X inX5 hw 101 rfl rfl 2 (by decide) (List.mem_of_getElem? (i := 1) rfl) rfl rfl dX5_takeDigit_18 ?_
    refine gcV_i (rest := []) X (cR_at l D cy ad rest C 42 (by decide) (C.2.1 19)) gy_X4_at gX5_takeDigit_X4_at ⟨rfl, rfl, Nat.le_of_ble_eq_true rfl, Nat.le_of_ble_eq_true rfl⟩ 84 rfl rfl rfl hl rfl (Nat.le_of_ble_eq_true rfl) dX5_takeDigit_21 ⟨Nat.zero_le _, Nat.zero_le _⟩ hw (fun r2 _ H locs hr2 hw => ?_)
    have hr2 : r2 = rAt 40 (C.1 42) (C.2.1 19) := hr2
    have hF := hF.trans (bnd_eq hr2)
    refine lv_bipush (v := 48) hx hb dX5_takeDigit_24 (by decide) ?_
    refine lv_isub hx hb dX5_takeDigit_26 ?_
    refine lv_istore_n (lv' := [(2, .int (r2 - 48)), (0, .ref (ad 101)), (1, .int q1)]) hx hb dX5_takeDigit_27 rfl hl (by decide) rfl (fun ls hl => ?_)
    refine lv_iload_n hx hb dX5_takeDigit_28 rfl (lv_at hl 0 rfl) ?_
    refine lv_if_lt (tgt := 37) hx hb dX5_takeDigit_29 (by decide) (fun c4 => ?_) (fun c4 => ?_)
    · skip
      have hF := hF.trans (if_pos c4)
      refine lv_iconst (v := (-1)) hx hb dX5_takeDigit_37 (by decide) ?_
      exact hret _ _ _ _ _ _ dX5_takeDigit_38 ⟨congrArg Prod.fst (hF.symm.trans hsp), congrArg Prod.snd (hF.symm.trans hsp)⟩ hw
    · skip
      have hF := hF.trans (if_neg c4)
      refine lv_iload_n hx hb dX5_takeDigit_32 rfl (lv_at hl 0 rfl) ?_
      refine lv_iload_n hx hb dX5_takeDigit_33 rfl (lv_at hl 2 rfl) ?_
      refine lv_icmp_le (tgt := 39) hx hb dX5_takeDigit_34 (by decide) (fun c5 => ?_) (fun c5 => ?_)
      · skip
        have hF := hF.trans (if_pos c5)
        refine lv_aload_n hx hb dX5_takeDigit_39 rfl (lv_at hl 1 rfl) ?_
        refine lv_dup hx hb dX5_takeDigit_40 rfl ?_
        refine g_get (v := .int (C.2.1 19)) (C := RX5) (T := TX5) (N := 7) (ci := 7) X inX5 hw 101 rfl rfl 2 (by decide) (List.mem_of_getElem? (i := 1) rfl) rfl rfl dX5_takeDigit_41 ?_
        refine lv_iconst (v := 1) hx hb dX5_takeDigit_44 (by decide) ?_
        refine lv_iadd hx hb dX5_takeDigit_45 ?_
        refine g_put (v := .int (C.2.1 19 + 1)) (C := RX5) (T := TX5) (N := 7) (ci := 7) (w' := CW cy ad (sI C 19 (C.2.1 19 + 1)) ++ rest) X inX5 tyX5 tyX5_ok nmX5 hw 101 rfl rfl 2 (by decide) (List.mem_of_getElem? (i := 1) rfl) rfl rfl rfl rfl (Nat.le_of_ble_eq_true rfl) rfl dX5_takeDigit_46 (fun H locs hw => ?_)
        obtain ⟨u6, hu6⟩ : ∃ z, z = sI C 19 (C.2.1 19 + 1) := ⟨_, rfl⟩
        rw [← hu6] at hw
        have hF := hF.trans (bnd_eq hu6)
        refine lv_iload_n hx hb dX5_takeDigit_49 rfl (lv_at hl 0 rfl) ?_
        exact hret _ _ _ _ _ _ dX5_takeDigit_50 ⟨congrArg Prod.fst (hF.symm.trans hsp), congrArg Prod.snd (hF.symm.trans hsp)⟩ hw
      · skip
        have hF := hF.trans (if_neg c5)
        refine lv_iconst (v := (-1)) hx hb dX5_takeDigit_37 (by decide) ?_
        exact hret _ _ _ _ _ _ dX5_takeDigit_38 ⟨congrArg Prod.fst (hF.symm.trans hsp), congrArg Prod.snd (hF.symm.trans hsp)⟩ hw
  · skip
    have hF := hF.trans (if_neg c1)
    refine lv_iconst (v := (-1)) hx hb dX5_takeDigit_11 (by decide) ?_
    exact hret _ _ _ _ _ _ dX5_takeDigit_12 ⟨congrArg Prod.fst (hF.symm.trans hsp), congrArg Prod.snd (hF.symm.trans hsp)⟩ hw
theorem gy_X5_takeNumber : gY yX5_takeNumber RX5 cX5_takeNumber 5 (some .int) wsX5_takeNumber 1 := ⟨⟨_, rfl⟩, rfl, by decide +kernel, by decide +kernel, by decide +kernel⟩
def st_X5_takeNumber_4 (q1 : Int32) (v1_3 : Int32) (v1_2 : Int32) (w1 : CS) : (Int32 × Int32 × CS) ⊕ (Int32 × CS) := (if q1 ≤ v1_3 then .inr ((v1_2, w1)) else (bnd ((F_X5_takeDigit w1 9).2) (fun u4 => (bnd ((F_X5_takeDigit w1 9).1) (fun r3 => (if r3 = (-1) then .inr ((v1_2, u4)) else (if v1_2 = (-1) then .inl ((v1_3 + 1), r3, u4) else .inl ((v1_3 + 1), ((v1_2 * 10) + r3), u4))))))))
def F_X5_takeNumber (C : CS) (q1 : Int32) : Int32 × CS := lp (fun (z : Int32 × Int32 × CS) => st_X5_takeNumber_4 q1 z.1 z.2.1 z.2.2) (0, C) ((q1.toInt - (0 : Int32).toInt).toNat + 1) (0, (-1), C)
abbrev rmX5_takeNumber : Room := { frames := 2, cells := 0, slots := 0, locals := 43 }
set_option maxHeartbeats 4000000 in
set_option maxRecDepth 100000 in
theorem c_X5_takeNumber (l : Launch) (D : va_G) (cy : Nat → ClassId) (ad : Nat → Nat) (rest : va_W) (C : CS) (q1 : Int32) : GMi l yX5_takeNumber wsX5_takeNumber rmX5_takeNumber D cy [.ref (ad 101), .int q1] (CW cy ad C ++ rest) (fun (r : Int32) (u : CS) => r = (F_X5_takeNumber C q1).1 ∧ u = (F_X5_takeNumber C q1).2) (fun u => CW cy ad u ++ rest) := by
  refine GMi.intro cX5_takeNumber 5 RX5 (by decide) rfl rfl (Nat.le_of_ble_eq_true rfl) ?_
  intro p e s m args below meth c A Q ls X hret hl hw
  have hx := X.1
  have hb := X.2.1
  have hl : lv_has ls 5 [(0, .ref (ad 101)), (1, .int q1)] := hl
  obtain ⟨sp, hsp⟩ : ∃ sp, sp = F_X5_takeNumber C q1 := ⟨_, rfl⟩
  have hF := hsp.trans (F_X5_takeNumber.eq_1 C q1)
  refine lv_iconst (v := (-1)) hx hb dX5_takeNumber_0 (by decide) ?_
  refine lv_istore_n (lv' := [(2, .int (-1)), (0, .ref (ad 101)), (1, .int q1)]) hx hb dX5_takeNumber_1 rfl hl (by decide) rfl (fun ls hl => ?_)
  refine lv_iconst (v := 0) hx hb dX5_takeNumber_2 (by decide) ?_
  refine lv_istore_n (lv' := [(3, .int 0), (2, .int (-1)), (0, .ref (ad 101)), (1, .int q1)]) hx hb dX5_takeNumber_3 rfl hl (by decide) rfl (fun ls hl => ?_)
  have L1 : ∀ (n1 : Nat) (v1_3 : Int32) (v1_2 : Int32) (w1 : CS), sp = lp (fun (z : Int32 × Int32 × CS) => st_X5_takeNumber_4 q1 z.1 z.2.1 z.2.2) (0, C) n1 (v1_3, v1_2, w1) → (q1.toInt - v1_3.toInt).toNat < n1 → ∀ (H : Heap) (locs : List Loc) (ls : Array Slot), lv_has ls 5 [(3, .int v1_3), (2, .int v1_2), (0, .ref (ad 101)), (1, .int q1)] → gw D A s.heap (CW cy ad w1 ++ rest) H locs → W p l e rmX5_takeNumber s m args below meth c H locs 0 0 Q (F0 m 4 ls []) := by
    intro n1
    induction n1 with
    | zero => intro v1_3 v1_2 w1 hF hm1; exact absurd hm1 (Nat.not_lt_zero _)
    | succ n1 ih1 =>
      intro v1_3 v1_2 w1 hF hm1 H locs ls hl hw
      have hT1 := st_X5_takeNumber_4.eq_1 q1 v1_3 v1_2 w1
      refine lv_iload_n hx hb dX5_takeNumber_4 rfl (lv_at hl 0 rfl) ?_
      refine lv_iload_n hx hb dX5_takeNumber_5 rfl (lv_at hl 3 rfl) ?_
      refine lv_icmp_ge (tgt := 49) hx hb dX5_takeNumber_6 (by decide) (fun c2 => ?_) (fun c2 => ?_)
      · skip
        have hT1 := hT1.trans (if_pos c2)
        refine lv_iload_n hx hb dX5_takeNumber_49 rfl (lv_at hl 1 rfl) ?_
        exact hret _ _ _ _ _ _ dX5_takeNumber_50 ⟨congrArg Prod.fst ((hF.trans (lp_r hT1)).symm.trans hsp), congrArg Prod.snd ((hF.trans (lp_r hT1)).symm.trans hsp)⟩ hw
      · skip
        have hT1 := hT1.trans (if_neg c2)
        refine lv_aload_n hx hb dX5_takeNumber_9 rfl (lv_at hl 2 rfl) ?_
        refine lv_bipush (v := 9) hx hb dX5_takeNumber_10 (by decide) ?_
        refine gcV_i (rest := []) X (c_X5_takeDigit l D cy ad rest w1 9) gy_X5_takeDigit gX5_takeNumber_X5_takeDigit ⟨rfl, rfl, Nat.le_of_ble_eq_true rfl, Nat.le_of_ble_eq_true rfl⟩ 101 rfl rfl rfl hl rfl (Nat.le_of_ble_eq_true rfl) dX5_takeNumber_12 ⟨Nat.zero_le _, Nat.zero_le _⟩ hw (fun r3 u4 H locs hr3 hw => ?_)
        obtain ⟨hr3, hu4⟩ : r3 = (F_X5_takeDigit w1 9).1 ∧ u4 = (F_X5_takeDigit w1 9).2 := hr3
        have hT1 := hT1.trans (bnd_eq hu4)
        have hT1 := hT1.trans (bnd_eq hr3)
        refine lv_istore (lv' := [(4, .int r3), (3, .int v1_3), (2, .int v1_2), (0, .ref (ad 101)), (1, .int q1)]) hx hb dX5_takeNumber_15 hl (by decide) rfl (fun ls hl => ?_)
        refine lv_iload hx hb dX5_takeNumber_17 (lv_at hl 0 rfl) ?_
        refine lv_iconst (v := (-1)) hx hb dX5_takeNumber_19 (by decide) ?_
        refine lv_icmp_ne (tgt := 25) hx hb dX5_takeNumber_20 (by decide) (fun c5 => ?_) (fun c5 => ?_)
        · skip
          have hT1 := hT1.trans (if_neg c5)
          refine lv_iload_n hx hb dX5_takeNumber_25 rfl (lv_at hl 2 rfl) ?_
          refine lv_iconst (v := (-1)) hx hb dX5_takeNumber_26 (by decide) ?_
          refine lv_icmp_ne (tgt := 35) hx hb dX5_takeNumber_27 (by decide) (fun c6 => ?_) (fun c6 => ?_)
          · skip
            have hT1 := hT1.trans (if_neg c6)
            refine lv_iload_n hx hb dX5_takeNumber_35 rfl (lv_at hl 2 rfl) ?_
            refine lv_bipush (v := 10) hx hb dX5_takeNumber_36 (by decide) ?_
            refine lv_imul hx hb dX5_takeNumber_38 ?_
            refine lv_iload hx hb dX5_takeNumber_39 (lv_at hl 0 rfl) ?_
            refine lv_iadd hx hb dX5_takeNumber_41 ?_
            refine lv_istore_n (lv' := [(2, .int ((v1_2 * 10) + r3)), (4, .int r3), (3, .int v1_3), (0, .ref (ad 101)), (1, .int q1)]) hx hb dX5_takeNumber_42 rfl hl (by decide) rfl (fun ls hl => ?_)
            refine lv_iinc (v := (v1_3 + 1)) (lv' := [(3, .int (v1_3 + 1)), (2, .int ((v1_2 * 10) + r3)), (4, .int r3), (0, .ref (ad 101)), (1, .int q1)]) hx hb dX5_takeNumber_43 hl (k := 2) rfl rfl (by decide) rfl (fun ls hl => ?_)
            refine lv_goto (tgt := 4) hx hb dX5_takeNumber_46 (by decide) ?_
            exact ih1 (v1_3 + 1) ((v1_2 * 10) + r3) u4 (hF.trans (lp_l hT1)) (Nat.lt_of_lt_of_le (by first | exact up_dec (by assumption) | (simp only [*]; exact up_dec (by assumption))) (Nat.le_of_lt_succ hm1)) _ _ ls (lv_sub hl [0, 1, 3, 4] rfl) hw
          · skip
            have hT1 := hT1.trans (if_pos c6)
            refine lv_iload hx hb dX5_takeNumber_30 (lv_at hl 0 rfl) ?_
            refine lv_goto (tgt := 42) hx hb dX5_takeNumber_32 (by decide) ?_
            refine lv_istore_n (lv' := [(2, .int r3), (4, .int r3), (3, .int v1_3), (0, .ref (ad 101)), (1, .int q1)]) hx hb dX5_takeNumber_42 rfl hl (by decide) rfl (fun ls hl => ?_)
            refine lv_iinc (v := (v1_3 + 1)) (lv' := [(3, .int (v1_3 + 1)), (2, .int r3), (4, .int r3), (0, .ref (ad 101)), (1, .int q1)]) hx hb dX5_takeNumber_43 hl (k := 2) rfl rfl (by decide) rfl (fun ls hl => ?_)
            refine lv_goto (tgt := 4) hx hb dX5_takeNumber_46 (by decide) ?_
            exact ih1 (v1_3 + 1) r3 u4 (hF.trans (lp_l hT1)) (Nat.lt_of_lt_of_le (by first | exact up_dec (by assumption) | (simp only [*]; exact up_dec (by assumption))) (Nat.le_of_lt_succ hm1)) _ _ ls (lv_sub hl [0, 1, 3, 4] rfl) hw
        · skip
          have hT1 := hT1.trans (if_pos c5)
          refine lv_iload_n hx hb dX5_takeNumber_23 rfl (lv_at hl 2 rfl) ?_
          exact hret _ _ _ _ _ _ dX5_takeNumber_24 ⟨congrArg Prod.fst ((hF.trans (lp_r hT1)).symm.trans hsp), congrArg Prod.snd ((hF.trans (lp_r hT1)).symm.trans hsp)⟩ hw
  exact L1 _ 0 (-1) C hF (Nat.lt_succ_self _) _ _ ls (lv_sub hl [0, 1, 2, 3] rfl) hw
theorem gy_X5_parseRecord : gY yX5_parseRecord RX5 cX5_parseRecord 5 (some .boolean) wsX5_parseRecord 0 := ⟨⟨_, rfl⟩, rfl, by decide +kernel, by decide +kernel, by decide +kernel⟩
def F_X5_parseRecord (C : CS) : Int32 × CS := (bnd ((F_X5_takeDigit C 7).2) (fun u2 => (bnd ((F_X5_takeDigit C 7).1) (fun r1 => (if r1 = (-1) then (0, u2) else (bnd ((F_X5_takeSign u2 58).2) (fun u5 => (bnd ((F_X5_takeSign u2 58).1) (fun r4 => (if r4 = 0 then (0, u5) else (bnd ((F_X5_takeNumber u5 4).2) (fun u8 => (bnd ((F_X5_takeNumber u5 4).1) (fun r7 => (if r7 = (-1) then (0, u8) else (bnd ((F_X5_takeSign u8 61).2) (fun u11 => (bnd ((F_X5_takeSign u8 61).1) (fun r10 => (if r10 = 0 then (0, u11) else (bnd ((F_X5_takeSign u11 45).2) (fun u14 => (bnd ((F_X5_takeSign u11 45).1) (fun r13 => (bnd ((F_X5_takeNumber u14 3).2) (fun u16 => (bnd ((F_X5_takeNumber u14 3).1) (fun r15 => (if r15 = (-1) then (0, u16) else (bnd ((F_X5_takeSign u16 59).2) (fun u19 => (bnd ((F_X5_takeSign u16 59).1) (fun r18 => (if r18 = 0 then (0, u19) else (if r13 = 0 then (bnd (F_X5_noteEntry u19 r1 r7 r15) (fun u23 => (1, u23))) else (bnd (F_X5_noteEntry u19 r1 r7 (-r15)) (fun u25 => (1, u25))))))))))))))))))))))))))))))))))))))
abbrev rmX5_parseRecord : Room := { frames := 3, cells := 0, slots := 0, locals := 67 }
set_option maxHeartbeats 4000000 in
set_option maxRecDepth 100000 in
theorem c_X5_parseRecord (l : Launch) (D : va_G) (cy : Nat → ClassId) (ad : Nat → Nat) (rest : va_W) (C : CS) : GMi l yX5_parseRecord wsX5_parseRecord rmX5_parseRecord D cy [.ref (ad 101)] (CW cy ad C ++ rest) (fun (r : Int32) (u : CS) => (r = (F_X5_parseRecord C).1 ∧ u = (F_X5_parseRecord C).2) ∧ (r = 0 ∨ r = 1)) (fun u => CW cy ad u ++ rest) := by
  refine GMz.intro cX5_parseRecord 5 RX5 (by decide) rfl rfl (Nat.le_of_ble_eq_true rfl) ?_
  intro p e s m args below meth c A Q ls X hret hl hw
  have hx := X.1
  have hb := X.2.1
  have hl : lv_has ls 5 [(0, .ref (ad 101))] := hl
  obtain ⟨sp, hsp⟩ : ∃ sp, sp = F_X5_parseRecord C := ⟨_, rfl⟩
  have hF := hsp.trans (F_X5_parseRecord.eq_1 C)
  refine lv_aload_n hx hb dX5_parseRecord_0 rfl (lv_at hl 0 rfl) ?_
  refine lv_bipush (v := 7) hx hb dX5_parseRecord_1 (by decide) ?_
  refine gcV_i (rest := []) X (c_X5_takeDigit l D cy ad rest C 7) gy_X5_takeDigit gX5_parseRecord_X5_takeDigit ⟨rfl, rfl, Nat.le_of_ble_eq_true rfl, Nat.le_of_ble_eq_true rfl⟩ 101 rfl rfl rfl hl rfl (Nat.le_of_ble_eq_true rfl) dX5_parseRecord_3 ⟨Nat.zero_le _, Nat.zero_le _⟩ hw (fun r1 u2 H locs hr1 hw => ?_)
  obtain ⟨hr1, hu2⟩ : r1 = (F_X5_takeDigit C 7).1 ∧ u2 = (F_X5_takeDigit C 7).2 := hr1
  have hF := hF.trans (bnd_eq hu2)
  have hF := hF.trans (bnd_eq hr1)
  refine lv_istore_n (lv' := [(1, .int r1), (0, .ref (ad 101))]) hx hb dX5_parseRecord_6 rfl hl (by decide) rfl (fun ls hl => ?_)
  refine lv_iload_n hx hb dX5_parseRecord_7 rfl (lv_at hl 0 rfl) ?_
  refine lv_iconst (v := (-1)) hx hb dX5_parseRecord_8 (by decide) ?_
  refine lv_icmp_eq (tgt := 21) hx hb dX5_parseRecord_9 (by decide) (fun c3 => ?_) (fun c3 => ?_)
  · skip
    have hF := hF.trans (if_pos c3)
    refine lv_iconst (v := 0) hx hb dX5_parseRecord_21 (by decide) ?_
    exact hret _ _ _ _ _ _ dX5_parseRecord_22 (Or.inl rfl) ⟨⟨congrArg Prod.fst (hF.symm.trans hsp), congrArg Prod.snd (hF.symm.trans hsp)⟩, (Or.inl rfl)⟩ hw
  · skip
    have hF := hF.trans (if_neg c3)
    refine lv_aload_n hx hb dX5_parseRecord_12 rfl (lv_at hl 1 rfl) ?_
    refine lv_bipush (v := 58) hx hb dX5_parseRecord_13 (by decide) ?_
    refine gcV_i (rest := []) X (c_X5_takeSign l D cy ad rest u2 58) gy_X5_takeSign gX5_parseRecord_X5_takeSign ⟨rfl, rfl, Nat.le_of_ble_eq_true rfl, Nat.le_of_ble_eq_true rfl⟩ 101 rfl rfl rfl hl rfl (Nat.le_of_ble_eq_true rfl) dX5_parseRecord_15 ⟨Nat.zero_le _, Nat.zero_le _⟩ hw (fun r4 u5 H locs hr4 hw => ?_)
    obtain ⟨⟨hr4, hu5⟩, zr4⟩ : (r4 = (F_X5_takeSign u2 58).1 ∧ u5 = (F_X5_takeSign u2 58).2) ∧ (r4 = 0 ∨ r4 = 1) := hr4
    have hF := hF.trans (bnd_eq hu5)
    have hF := hF.trans (bnd_eq hr4)
    refine lv_if_ne (tgt := 23) hx hb dX5_parseRecord_18 (by decide) (fun c6 => ?_) (fun c6 => ?_)
    · skip
      have hF := hF.trans (if_neg c6)
      refine lv_aload_n hx hb dX5_parseRecord_23 rfl (lv_at hl 1 rfl) ?_
      refine lv_iconst (v := 4) hx hb dX5_parseRecord_24 (by decide) ?_
      refine gcV_i (rest := []) X (c_X5_takeNumber l D cy ad rest u5 4) gy_X5_takeNumber gX5_parseRecord_X5_takeNumber ⟨rfl, rfl, Nat.le_of_ble_eq_true rfl, Nat.le_of_ble_eq_true rfl⟩ 101 rfl rfl rfl hl rfl (Nat.le_of_ble_eq_true rfl) dX5_parseRecord_25 ⟨Nat.zero_le _, Nat.zero_le _⟩ hw (fun r7 u8 H locs hr7 hw => ?_)
      obtain ⟨hr7, hu8⟩ : r7 = (F_X5_takeNumber u5 4).1 ∧ u8 = (F_X5_takeNumber u5 4).2 := hr7
      have hF := hF.trans (bnd_eq hu8)
      have hF := hF.trans (bnd_eq hr7)
      refine lv_istore_n (lv' := [(2, .int r7), (1, .int r1), (0, .ref (ad 101))]) hx hb dX5_parseRecord_28 rfl hl (by decide) rfl (fun ls hl => ?_)
      refine lv_iload_n hx hb dX5_parseRecord_29 rfl (lv_at hl 0 rfl) ?_
      refine lv_iconst (v := (-1)) hx hb dX5_parseRecord_30 (by decide) ?_
      refine lv_icmp_eq (tgt := 43) hx hb dX5_parseRecord_31 (by decide) (fun c9 => ?_) (fun c9 => ?_)
      · skip
        have hF := hF.trans (if_pos c9)
        refine lv_iconst (v := 0) hx hb dX5_parseRecord_43 (by decide) ?_
        exact hret _ _ _ _ _ _ dX5_parseRecord_44 (Or.inl rfl) ⟨⟨congrArg Prod.fst (hF.symm.trans hsp), congrArg Prod.snd (hF.symm.trans hsp)⟩, (Or.inl rfl)⟩ hw
      · skip
        have hF := hF.trans (if_neg c9)
        refine lv_aload_n hx hb dX5_parseRecord_34 rfl (lv_at hl 2 rfl) ?_
        refine lv_bipush (v := 61) hx hb dX5_parseRecord_35 (by decide) ?_
        refine gcV_i (rest := []) X (c_X5_takeSign l D cy ad rest u8 61) gy_X5_takeSign gX5_parseRecord_X5_takeSign ⟨rfl, rfl, Nat.le_of_ble_eq_true rfl, Nat.le_of_ble_eq_true rfl⟩ 101 rfl rfl rfl hl rfl (Nat.le_of_ble_eq_true rfl) dX5_parseRecord_37 ⟨Nat.zero_le _, Nat.zero_le _⟩ hw (fun r10 u11 H locs hr10 hw => ?_)
        obtain ⟨⟨hr10, hu11⟩, zr10⟩ : (r10 = (F_X5_takeSign u8 61).1 ∧ u11 = (F_X5_takeSign u8 61).2) ∧ (r10 = 0 ∨ r10 = 1) := hr10
        have hF := hF.trans (bnd_eq hu11)
        have hF := hF.trans (bnd_eq hr10)
        refine lv_if_ne (tgt := 45) hx hb dX5_parseRecord_40 (by decide) (fun c12 => ?_) (fun c12 => ?_)
        · skip
          have hF := hF.trans (if_neg c12)
          refine lv_aload_n hx hb dX5_parseRecord_45 rfl (lv_at hl 2 rfl) ?_
          refine lv_bipush (v := 45) hx hb dX5_parseRecord_46 (by decide) ?_
          refine gcV_i (rest := []) X (c_X5_takeSign l D cy ad rest u11 45) gy_X5_takeSign gX5_parseRecord_X5_takeSign ⟨rfl, rfl, Nat.le_of_ble_eq_true rfl, Nat.le_of_ble_eq_true rfl⟩ 101 rfl rfl rfl hl rfl (Nat.le_of_ble_eq_true rfl) dX5_parseRecord_48 ⟨Nat.zero_le _, Nat.zero_le _⟩ hw (fun r13 u14 H locs hr13 hw => ?_)
          obtain ⟨⟨hr13, hu14⟩, zr13⟩ : (r13 = (F_X5_takeSign u11 45).1 ∧ u14 = (F_X5_takeSign u11 45).2) ∧ (r13 = 0 ∨ r13 = 1) := hr13
          have hF := hF.trans (bnd_eq hu14)
          have hF := hF.trans (bnd_eq hr13)
          refine lv_istore_n (lv' := [(3, .int r13), (2, .int r7), (1, .int r1), (0, .ref (ad 101))]) hx hb dX5_parseRecord_51 rfl hl (by decide) rfl (fun ls hl => ?_)
          refine lv_aload_n hx hb dX5_parseRecord_52 rfl (lv_at hl 3 rfl) ?_
          refine lv_iconst (v := 3) hx hb dX5_parseRecord_53 (by decide) ?_
          refine gcV_i (rest := []) X (c_X5_takeNumber l D cy ad rest u14 3) gy_X5_takeNumber gX5_parseRecord_X5_takeNumber ⟨rfl, rfl, Nat.le_of_ble_eq_true rfl, Nat.le_of_ble_eq_true rfl⟩ 101 rfl rfl rfl hl rfl (Nat.le_of_ble_eq_true rfl) dX5_parseRecord_54 ⟨Nat.zero_le _, Nat.zero_le _⟩ hw (fun r15 u16 H locs hr15 hw => ?_)
          obtain ⟨hr15, hu16⟩ : r15 = (F_X5_takeNumber u14 3).1 ∧ u16 = (F_X5_takeNumber u14 3).2 := hr15
          have hF := hF.trans (bnd_eq hu16)
          have hF := hF.trans (bnd_eq hr15)
          refine lv_istore (lv' := [(4, .int r15), (3, .int r13), (2, .int r7), (1, .int r1), (0, .ref (ad 101))]) hx hb dX5_parseRecord_57 hl (by decide) rfl (fun ls hl => ?_)
          refine lv_iload hx hb dX5_parseRecord_59 (lv_at hl 0 rfl) ?_
          refine lv_iconst (v := (-1)) hx hb dX5_parseRecord_61 (by decide) ?_
          refine lv_icmp_eq (tgt := 74) hx hb dX5_parseRecord_62 (by decide) (fun c17 => ?_) (fun c17 => ?_)
          · skip
            have hF := hF.trans (if_pos c17)
            refine lv_iconst (v := 0) hx hb dX5_parseRecord_74 (by decide) ?_
            exact hret _ _ _ _ _ _ dX5_parseRecord_75 (Or.inl rfl) ⟨⟨congrArg Prod.fst (hF.symm.trans hsp), congrArg Prod.snd (hF.symm.trans hsp)⟩, (Or.inl rfl)⟩ hw
          · skip
            have hF := hF.trans (if_neg c17)
            refine lv_aload_n hx hb dX5_parseRecord_65 rfl (lv_at hl 4 rfl) ?_
            refine lv_bipush (v := 59) hx hb dX5_parseRecord_66 (by decide) ?_
            refine gcV_i (rest := []) X (c_X5_takeSign l D cy ad rest u16 59) gy_X5_takeSign gX5_parseRecord_X5_takeSign ⟨rfl, rfl, Nat.le_of_ble_eq_true rfl, Nat.le_of_ble_eq_true rfl⟩ 101 rfl rfl rfl hl rfl (Nat.le_of_ble_eq_true rfl) dX5_parseRecord_68 ⟨Nat.zero_le _, Nat.zero_le _⟩ hw (fun r18 u19 H locs hr18 hw => ?_)
            obtain ⟨⟨hr18, hu19⟩, zr18⟩ : (r18 = (F_X5_takeSign u16 59).1 ∧ u19 = (F_X5_takeSign u16 59).2) ∧ (r18 = 0 ∨ r18 = 1) := hr18
            have hF := hF.trans (bnd_eq hu19)
            have hF := hF.trans (bnd_eq hr18)
            refine lv_if_ne (tgt := 76) hx hb dX5_parseRecord_71 (by decide) (fun c20 => ?_) (fun c20 => ?_)
            · skip
              have hF := hF.trans (if_neg c20)
              refine lv_aload_n hx hb dX5_parseRecord_76 rfl (lv_at hl 4 rfl) ?_
              refine lv_iload_n hx hb dX5_parseRecord_77 rfl (lv_at hl 3 rfl) ?_
              refine lv_iload_n hx hb dX5_parseRecord_78 rfl (lv_at hl 2 rfl) ?_
              refine lv_iload_n hx hb dX5_parseRecord_79 rfl (lv_at hl 1 rfl) ?_
              refine lv_if_eq (tgt := 89) hx hb dX5_parseRecord_80 (by decide) (fun c21 => ?_) (fun c21 => ?_)
              · skip
                have hF := hF.trans (if_pos c21)
                refine lv_iload hx hb dX5_parseRecord_89 (lv_at hl 0 rfl) ?_
                refine gcV_v (rest := []) X (c_X5_noteEntry l D cy ad rest u19 r1 r7 r15) gy_X5_noteEntry gX5_parseRecord_X5_noteEntry ⟨rfl, rfl, Nat.le_of_ble_eq_true rfl, Nat.le_of_ble_eq_true rfl⟩ 101 rfl rfl rfl hl rfl (Nat.le_of_ble_eq_true rfl) dX5_parseRecord_91 ⟨Nat.zero_le _, Nat.zero_le _⟩ hw (fun u23 H locs hu23 hw => ?_)
                have hu23 : u23 = F_X5_noteEntry u19 r1 r7 r15 := hu23
                have hF := hF.trans (bnd_eq hu23)
                refine lv_iconst (v := 1) hx hb dX5_parseRecord_94 (by decide) ?_
                exact hret _ _ _ _ _ _ dX5_parseRecord_95 (Or.inr rfl) ⟨⟨congrArg Prod.fst (hF.symm.trans hsp), congrArg Prod.snd (hF.symm.trans hsp)⟩, (Or.inr rfl)⟩ hw
              · skip
                have hF := hF.trans (if_neg c21)
                refine lv_iload hx hb dX5_parseRecord_83 (lv_at hl 0 rfl) ?_
                refine lv_ineg hx hb dX5_parseRecord_85 ?_
                refine lv_goto (tgt := 91) hx hb dX5_parseRecord_86 (by decide) ?_
                refine gcV_v (rest := []) X (c_X5_noteEntry l D cy ad rest u19 r1 r7 (-r15)) gy_X5_noteEntry gX5_parseRecord_X5_noteEntry ⟨rfl, rfl, Nat.le_of_ble_eq_true rfl, Nat.le_of_ble_eq_true rfl⟩ 101 rfl rfl rfl hl rfl (Nat.le_of_ble_eq_true rfl) dX5_parseRecord_91 ⟨Nat.zero_le _, Nat.zero_le _⟩ hw (fun u25 H locs hu25 hw => ?_)
                have hu25 : u25 = F_X5_noteEntry u19 r1 r7 (-r15) := hu25
                have hF := hF.trans (bnd_eq hu25)
                refine lv_iconst (v := 1) hx hb dX5_parseRecord_94 (by decide) ?_
                exact hret _ _ _ _ _ _ dX5_parseRecord_95 (Or.inr rfl) ⟨⟨congrArg Prod.fst (hF.symm.trans hsp), congrArg Prod.snd (hF.symm.trans hsp)⟩, (Or.inr rfl)⟩ hw
            · skip
              have hF := hF.trans (if_pos c20)
              refine lv_iconst (v := 0) hx hb dX5_parseRecord_74 (by decide) ?_
              exact hret _ _ _ _ _ _ dX5_parseRecord_75 (Or.inl rfl) ⟨⟨congrArg Prod.fst (hF.symm.trans hsp), congrArg Prod.snd (hF.symm.trans hsp)⟩, (Or.inl rfl)⟩ hw
        · skip
          have hF := hF.trans (if_pos c12)
          refine lv_iconst (v := 0) hx hb dX5_parseRecord_43 (by decide) ?_
          exact hret _ _ _ _ _ _ dX5_parseRecord_44 (Or.inl rfl) ⟨⟨congrArg Prod.fst (hF.symm.trans hsp), congrArg Prod.snd (hF.symm.trans hsp)⟩, (Or.inl rfl)⟩ hw
    · skip
      have hF := hF.trans (if_pos c6)
      refine lv_iconst (v := 0) hx hb dX5_parseRecord_21 (by decide) ?_
      exact hret _ _ _ _ _ _ dX5_parseRecord_22 (Or.inl rfl) ⟨⟨congrArg Prod.fst (hF.symm.trans hsp), congrArg Prod.snd (hF.symm.trans hsp)⟩, (Or.inl rfl)⟩ hw
theorem gy_X5_parseWatermark : gY yX5_parseWatermark RX5 cX5_parseWatermark 2 (some .boolean) wsX5_parseWatermark 0 := ⟨⟨_, rfl⟩, rfl, by decide +kernel, by decide +kernel, by decide +kernel⟩
def F_X5_parseWatermark (C : CS) : Int32 × CS := (bnd ((F_X5_takeNumber C 4).2) (fun u2 => (bnd ((F_X5_takeNumber C 4).1) (fun r1 => (if r1 = (-1) then (0, u2) else (bnd ((F_X5_takeSign u2 59).2) (fun u5 => (bnd ((F_X5_takeSign u2 59).1) (fun r4 => (if r4 = 0 then (0, u5) else (bnd (F_X5_noteEntry u5 (-1) r1 0) (fun u8 => (1, u8)))))))))))))
abbrev rmX5_parseWatermark : Room := { frames := 3, cells := 0, slots := 0, locals := 67 }
set_option maxHeartbeats 4000000 in
set_option maxRecDepth 100000 in
theorem c_X5_parseWatermark (l : Launch) (D : va_G) (cy : Nat → ClassId) (ad : Nat → Nat) (rest : va_W) (C : CS) : GMi l yX5_parseWatermark wsX5_parseWatermark rmX5_parseWatermark D cy [.ref (ad 101)] (CW cy ad C ++ rest) (fun (r : Int32) (u : CS) => (r = (F_X5_parseWatermark C).1 ∧ u = (F_X5_parseWatermark C).2) ∧ (r = 0 ∨ r = 1)) (fun u => CW cy ad u ++ rest) := by
  refine GMz.intro cX5_parseWatermark 2 RX5 (by decide) rfl rfl (Nat.le_of_ble_eq_true rfl) ?_
  intro p e s m args below meth c A Q ls X hret hl hw
  have hx := X.1
  have hb := X.2.1
  have hl : lv_has ls 2 [(0, .ref (ad 101))] := hl
  obtain ⟨sp, hsp⟩ : ∃ sp, sp = F_X5_parseWatermark C := ⟨_, rfl⟩
  have hF := hsp.trans (F_X5_parseWatermark.eq_1 C)
  refine lv_aload_n hx hb dX5_parseWatermark_0 rfl (lv_at hl 0 rfl) ?_
  refine lv_iconst (v := 4) hx hb dX5_parseWatermark_1 (by decide) ?_
  refine gcV_i (rest := []) X (c_X5_takeNumber l D cy ad rest C 4) gy_X5_takeNumber gX5_parseWatermark_X5_takeNumber ⟨rfl, rfl, Nat.le_of_ble_eq_true rfl, Nat.le_of_ble_eq_true rfl⟩ 101 rfl rfl rfl hl rfl (Nat.le_of_ble_eq_true rfl) dX5_parseWatermark_2 ⟨Nat.zero_le _, Nat.zero_le _⟩ hw (fun r1 u2 H locs hr1 hw => ?_)
  obtain ⟨hr1, hu2⟩ : r1 = (F_X5_takeNumber C 4).1 ∧ u2 = (F_X5_takeNumber C 4).2 := hr1
  have hF := hF.trans (bnd_eq hu2)
  have hF := hF.trans (bnd_eq hr1)
  refine lv_istore_n (lv' := [(1, .int r1), (0, .ref (ad 101))]) hx hb dX5_parseWatermark_5 rfl hl (by decide) rfl (fun ls hl => ?_)
  refine lv_iload_n hx hb dX5_parseWatermark_6 rfl (lv_at hl 0 rfl) ?_
  refine lv_iconst (v := (-1)) hx hb dX5_parseWatermark_7 (by decide) ?_
  refine lv_icmp_eq (tgt := 20) hx hb dX5_parseWatermark_8 (by decide) (fun c3 => ?_) (fun c3 => ?_)
  · skip
    have hF := hF.trans (if_pos c3)
    refine lv_iconst (v := 0) hx hb dX5_parseWatermark_20 (by decide) ?_
    exact hret _ _ _ _ _ _ dX5_parseWatermark_21 (Or.inl rfl) ⟨⟨congrArg Prod.fst (hF.symm.trans hsp), congrArg Prod.snd (hF.symm.trans hsp)⟩, (Or.inl rfl)⟩ hw
  · skip
    have hF := hF.trans (if_neg c3)
    refine lv_aload_n hx hb dX5_parseWatermark_11 rfl (lv_at hl 1 rfl) ?_
    refine lv_bipush (v := 59) hx hb dX5_parseWatermark_12 (by decide) ?_
    refine gcV_i (rest := []) X (c_X5_takeSign l D cy ad rest u2 59) gy_X5_takeSign gX5_parseWatermark_X5_takeSign ⟨rfl, rfl, Nat.le_of_ble_eq_true rfl, Nat.le_of_ble_eq_true rfl⟩ 101 rfl rfl rfl hl rfl (Nat.le_of_ble_eq_true rfl) dX5_parseWatermark_14 ⟨Nat.zero_le _, Nat.zero_le _⟩ hw (fun r4 u5 H locs hr4 hw => ?_)
    obtain ⟨⟨hr4, hu5⟩, zr4⟩ : (r4 = (F_X5_takeSign u2 59).1 ∧ u5 = (F_X5_takeSign u2 59).2) ∧ (r4 = 0 ∨ r4 = 1) := hr4
    have hF := hF.trans (bnd_eq hu5)
    have hF := hF.trans (bnd_eq hr4)
    refine lv_if_ne (tgt := 22) hx hb dX5_parseWatermark_17 (by decide) (fun c6 => ?_) (fun c6 => ?_)
    · skip
      have hF := hF.trans (if_neg c6)
      refine lv_aload_n hx hb dX5_parseWatermark_22 rfl (lv_at hl 1 rfl) ?_
      refine lv_iconst (v := (-1)) hx hb dX5_parseWatermark_23 (by decide) ?_
      refine lv_iload_n hx hb dX5_parseWatermark_24 rfl (lv_at hl 0 rfl) ?_
      refine lv_iconst (v := 0) hx hb dX5_parseWatermark_25 (by decide) ?_
      refine gcV_v (rest := []) X (c_X5_noteEntry l D cy ad rest u5 (-1) r1 0) gy_X5_noteEntry gX5_parseWatermark_X5_noteEntry ⟨rfl, rfl, Nat.le_of_ble_eq_true rfl, Nat.le_of_ble_eq_true rfl⟩ 101 rfl rfl rfl hl rfl (Nat.le_of_ble_eq_true rfl) dX5_parseWatermark_26 ⟨Nat.zero_le _, Nat.zero_le _⟩ hw (fun u8 H locs hu8 hw => ?_)
      have hu8 : u8 = F_X5_noteEntry u5 (-1) r1 0 := hu8
      have hF := hF.trans (bnd_eq hu8)
      refine lv_iconst (v := 1) hx hb dX5_parseWatermark_29 (by decide) ?_
      exact hret _ _ _ _ _ _ dX5_parseWatermark_30 (Or.inr rfl) ⟨⟨congrArg Prod.fst (hF.symm.trans hsp), congrArg Prod.snd (hF.symm.trans hsp)⟩, (Or.inr rfl)⟩ hw
    · skip
      have hF := hF.trans (if_pos c6)
      refine lv_iconst (v := 0) hx hb dX5_parseWatermark_20 (by decide) ?_
      exact hret _ _ _ _ _ _ dX5_parseWatermark_21 (Or.inl rfl) ⟨⟨congrArg Prod.fst (hF.symm.trans hsp), congrArg Prod.snd (hF.symm.trans hsp)⟩, (Or.inl rfl)⟩ hw
theorem gy_X5_parseEntry : gY yX5_parseEntry RX5 cX5_parseEntry 1 (some .boolean) wsX5_parseEntry 0 := ⟨⟨_, rfl⟩, rfl, by decide +kernel, by decide +kernel, by decide +kernel⟩
def F_X5_parseEntry (C : CS) : Int32 × CS := (bnd ((F_X5_takeSign C 114).2) (fun u2 => (bnd ((F_X5_takeSign C 114).1) (fun r1 => (if r1 = 0 then (bnd ((F_X5_takeSign u2 119).2) (fun u5 => (bnd ((F_X5_takeSign u2 119).1) (fun r4 => (if r4 = 0 then (0, u5) else (bnd ((F_X5_parseWatermark u5).2) (fun u8 => (bnd ((F_X5_parseWatermark u5).1) (fun r7 => (if r7 = 0 then (0, u8) else (1, u8))))))))))) else (bnd ((F_X5_parseRecord u2).2) (fun u11 => (bnd ((F_X5_parseRecord u2).1) (fun r10 => (r10, u11))))))))))
abbrev rmX5_parseEntry : Room := { frames := 4, cells := 0, slots := 0, locals := 91 }
set_option maxHeartbeats 4000000 in
set_option maxRecDepth 100000 in
theorem c_X5_parseEntry (l : Launch) (D : va_G) (cy : Nat → ClassId) (ad : Nat → Nat) (rest : va_W) (C : CS) : GMi l yX5_parseEntry wsX5_parseEntry rmX5_parseEntry D cy [.ref (ad 101)] (CW cy ad C ++ rest) (fun (r : Int32) (u : CS) => (r = (F_X5_parseEntry C).1 ∧ u = (F_X5_parseEntry C).2) ∧ (r = 0 ∨ r = 1)) (fun u => CW cy ad u ++ rest) := by
  refine GMz.intro cX5_parseEntry 1 RX5 (by decide) rfl rfl (Nat.le_of_ble_eq_true rfl) ?_
  intro p e s m args below meth c A Q ls X hret hl hw
  have hx := X.1
  have hb := X.2.1
  have hl : lv_has ls 1 [(0, .ref (ad 101))] := hl
  obtain ⟨sp, hsp⟩ : ∃ sp, sp = F_X5_parseEntry C := ⟨_, rfl⟩
  have hF := hsp.trans (F_X5_parseEntry.eq_1 C)
  refine lv_aload_n hx hb dX5_parseEntry_0 rfl (lv_at hl 0 rfl) ?_
  refine lv_bipush (v := 114) hx hb dX5_parseEntry_1 (by decide) ?_
  refine gcV_i (rest := []) X (c_X5_takeSign l D cy ad rest C 114) gy_X5_takeSign gX5_parseEntry_X5_takeSign ⟨rfl, rfl, Nat.le_of_ble_eq_true rfl, Nat.le_of_ble_eq_true rfl⟩ 101 rfl rfl rfl hl rfl (Nat.le_of_ble_eq_true rfl) dX5_parseEntry_3 ⟨Nat.zero_le _, Nat.zero_le _⟩ hw (fun r1 u2 H locs hr1 hw => ?_)
  obtain ⟨⟨hr1, hu2⟩, zr1⟩ : (r1 = (F_X5_takeSign C 114).1 ∧ u2 = (F_X5_takeSign C 114).2) ∧ (r1 = 0 ∨ r1 = 1) := hr1
  have hF := hF.trans (bnd_eq hu2)
  have hF := hF.trans (bnd_eq hr1)
  refine lv_if_eq (tgt := 14) hx hb dX5_parseEntry_6 (by decide) (fun c3 => ?_) (fun c3 => ?_)
  · skip
    have hF := hF.trans (if_pos c3)
    refine lv_aload_n hx hb dX5_parseEntry_14 rfl (lv_at hl 0 rfl) ?_
    refine lv_bipush (v := 119) hx hb dX5_parseEntry_15 (by decide) ?_
    refine gcV_i (rest := []) X (c_X5_takeSign l D cy ad rest u2 119) gy_X5_takeSign gX5_parseEntry_X5_takeSign ⟨rfl, rfl, Nat.le_of_ble_eq_true rfl, Nat.le_of_ble_eq_true rfl⟩ 101 rfl rfl rfl hl rfl (Nat.le_of_ble_eq_true rfl) dX5_parseEntry_17 ⟨Nat.zero_le _, Nat.zero_le _⟩ hw (fun r4 u5 H locs hr4 hw => ?_)
    obtain ⟨⟨hr4, hu5⟩, zr4⟩ : (r4 = (F_X5_takeSign u2 119).1 ∧ u5 = (F_X5_takeSign u2 119).2) ∧ (r4 = 0 ∨ r4 = 1) := hr4
    have hF := hF.trans (bnd_eq hu5)
    have hF := hF.trans (bnd_eq hr4)
    refine lv_if_eq (tgt := 34) hx hb dX5_parseEntry_20 (by decide) (fun c6 => ?_) (fun c6 => ?_)
    · skip
      have hF := hF.trans (if_pos c6)
      refine lv_iconst (v := 0) hx hb dX5_parseEntry_34 (by decide) ?_
      exact hret _ _ _ _ _ _ dX5_parseEntry_35 (Or.inl rfl) ⟨⟨congrArg Prod.fst (hF.symm.trans hsp), congrArg Prod.snd (hF.symm.trans hsp)⟩, (Or.inl rfl)⟩ hw
    · skip
      have hF := hF.trans (if_neg c6)
      refine lv_aload_n hx hb dX5_parseEntry_23 rfl (lv_at hl 0 rfl) ?_
      refine gcV_i (rest := []) X (c_X5_parseWatermark l D cy ad rest u5) gy_X5_parseWatermark gX5_parseEntry_X5_parseWatermark ⟨rfl, rfl, Nat.le_of_ble_eq_true rfl, Nat.le_of_ble_eq_true rfl⟩ 101 rfl rfl rfl hl rfl (Nat.le_of_ble_eq_true rfl) dX5_parseEntry_24 ⟨Nat.zero_le _, Nat.zero_le _⟩ hw (fun r7 u8 H locs hr7 hw => ?_)
      obtain ⟨⟨hr7, hu8⟩, zr7⟩ : (r7 = (F_X5_parseWatermark u5).1 ∧ u8 = (F_X5_parseWatermark u5).2) ∧ (r7 = 0 ∨ r7 = 1) := hr7
      have hF := hF.trans (bnd_eq hu8)
      have hF := hF.trans (bnd_eq hr7)
      refine lv_if_eq (tgt := 34) hx hb dX5_parseEntry_27 (by decide) (fun c9 => ?_) (fun c9 => ?_)
      · skip
        have hF := hF.trans (if_pos c9)
        refine lv_iconst (v := 0) hx hb dX5_parseEntry_34 (by decide) ?_
        exact hret _ _ _ _ _ _ dX5_parseEntry_35 (Or.inl rfl) ⟨⟨congrArg Prod.fst (hF.symm.trans hsp), congrArg Prod.snd (hF.symm.trans hsp)⟩, (Or.inl rfl)⟩ hw
      · skip
        have hF := hF.trans (if_neg c9)
        refine lv_iconst (v := 1) hx hb dX5_parseEntry_30 (by decide) ?_
        refine lv_goto (tgt := 35) hx hb dX5_parseEntry_31 (by decide) ?_
        exact hret _ _ _ _ _ _ dX5_parseEntry_35 (Or.inr rfl) ⟨⟨congrArg Prod.fst (hF.symm.trans hsp), congrArg Prod.snd (hF.symm.trans hsp)⟩, (Or.inr rfl)⟩ hw
  · skip
    have hF := hF.trans (if_neg c3)
    refine lv_aload_n hx hb dX5_parseEntry_9 rfl (lv_at hl 0 rfl) ?_
    refine gcV_i (rest := []) X (c_X5_parseRecord l D cy ad rest u2) gy_X5_parseRecord gX5_parseEntry_X5_parseRecord ⟨rfl, rfl, Nat.le_of_ble_eq_true rfl, Nat.le_of_ble_eq_true rfl⟩ 101 rfl rfl rfl hl rfl (Nat.le_of_ble_eq_true rfl) dX5_parseEntry_10 ⟨Nat.zero_le _, Nat.zero_le _⟩ hw (fun r10 u11 H locs hr10 hw => ?_)
    obtain ⟨⟨hr10, hu11⟩, zr10⟩ : (r10 = (F_X5_parseRecord u2).1 ∧ u11 = (F_X5_parseRecord u2).2) ∧ (r10 = 0 ∨ r10 = 1) := hr10
    have hF := hF.trans (bnd_eq hu11)
    have hF := hF.trans (bnd_eq hr10)
    exact hret _ _ _ _ _ _ dX5_parseEntry_13 zr10 ⟨⟨congrArg Prod.fst (hF.symm.trans hsp), congrArg Prod.snd (hF.symm.trans hsp)⟩, zr10⟩ hw
theorem gy_X5_parse : gY yX5_parse RX5 cX5_parse 2 (some .boolean) wsX5_parse 0 := ⟨⟨_, rfl⟩, rfl, by decide +kernel, by decide +kernel, by decide +kernel⟩
def st_X5_parse_12 (v3_1 : Int32) (w3 : CS) : (Int32 × CS) ⊕ (Int32 × CS) := (if 14 ≤ v3_1 then .inr ((0, w3)) else (bnd ((F_X5_parseEntry w3).2) (fun u6 => (bnd ((F_X5_parseEntry w3).1) (fun r5 => (if r5 = 0 then .inr ((0, u6)) else (if u6.2.1 19 < u6.2.1 18 then .inl ((v3_1 + 1), u6) else .inr ((1, u6)))))))))
def F_X5_parse (C : CS) : Int32 × CS := (bnd (sI C 19 0) (fun u1 => (bnd (sI u1 20 0) (fun u2 => lp (fun (z : Int32 × CS) => st_X5_parse_12 z.1 z.2) (0, C) (((14 : Int32).toInt - (0 : Int32).toInt).toNat + 1) (0, u2)))))
abbrev rmX5_parse : Room := { frames := 5, cells := 0, slots := 0, locals := 111 }
set_option maxHeartbeats 4000000 in
set_option maxRecDepth 100000 in
theorem c_X5_parse (l : Launch) (D : va_G) (cy : Nat → ClassId) (ad : Nat → Nat) (rest : va_W) (C : CS) : GMi l yX5_parse wsX5_parse rmX5_parse D cy [.ref (ad 101)] (CW cy ad C ++ rest) (fun (r : Int32) (u : CS) => (r = (F_X5_parse C).1 ∧ u = (F_X5_parse C).2) ∧ (r = 0 ∨ r = 1)) (fun u => CW cy ad u ++ rest) := by
  refine GMz.intro cX5_parse 2 RX5 (by decide) rfl rfl (Nat.le_of_ble_eq_true rfl) ?_
  intro p e s m args below meth c A Q ls X hret hl hw
  have hx := X.1
  have hb := X.2.1
  have hl : lv_has ls 2 [(0, .ref (ad 101))] := hl
  have inX5 : ∀ w ∈ wsX50, w ∈ wsX5_parse := fun w h => List.mem_cons_of_mem _ (List.mem_append_left _ (List.mem_append_left _ (List.mem_append_right _ h)))
  obtain ⟨sp, hsp⟩ : ∃ sp, sp = F_X5_parse C := ⟨_, rfl⟩
  have hF := hsp.trans (F_X5_parse.eq_1 C)
  refine lv_aload_n hx hb dX5_parse_0 rfl (lv_at hl 0 rfl) ?_
  refine lv_iconst (v := 0) hx hb dX5_parse_1 (by decide) ?_
  refine g_put (v := .int 0) (C := RX5) (T := TX5) (N := 7) (ci := 7) (w' := CW cy ad (sI C 19 0) ++ rest) X inX5 tyX5 tyX5_ok nmX5 hw 101 rfl rfl 2 (by decide) (List.mem_of_getElem? (i := 1) rfl) rfl rfl rfl rfl (Nat.le_of_ble_eq_true rfl) rfl dX5_parse_2 (fun H locs hw => ?_)
  obtain ⟨u1, hu1⟩ : ∃ z, z = sI C 19 0 := ⟨_, rfl⟩
  rw [← hu1] at hw
  have hF := hF.trans (bnd_eq hu1)
  refine lv_aload_n hx hb dX5_parse_5 rfl (lv_at hl 0 rfl) ?_
  refine lv_iconst (v := 0) hx hb dX5_parse_6 (by decide) ?_
  refine g_put (v := .int 0) (C := RX5) (T := TX5) (N := 7) (ci := 7) (w' := CW cy ad (sI u1 20 0) ++ rest) X inX5 tyX5 tyX5_ok nmX5 hw 101 rfl rfl 6 (by decide) (List.mem_of_getElem? (i := 2) rfl) rfl rfl rfl rfl (Nat.le_of_ble_eq_true rfl) rfl dX5_parse_7 (fun H locs hw => ?_)
  obtain ⟨u2, hu2⟩ : ∃ z, z = sI u1 20 0 := ⟨_, rfl⟩
  rw [← hu2] at hw
  have hF := hF.trans (bnd_eq hu2)
  refine lv_iconst (v := 0) hx hb dX5_parse_10 (by decide) ?_
  refine lv_istore_n (lv' := [(1, .int 0), (0, .ref (ad 101))]) hx hb dX5_parse_11 rfl hl (by decide) rfl (fun ls hl => ?_)
  have L3 : ∀ (n3 : Nat) (v3_1 : Int32) (w3 : CS), sp = lp (fun (z : Int32 × CS) => st_X5_parse_12 z.1 z.2) (0, C) n3 (v3_1, w3) → ((14 : Int32).toInt - v3_1.toInt).toNat < n3 → ∀ (H : Heap) (locs : List Loc) (ls : Array Slot), lv_has ls 2 [(1, .int v3_1), (0, .ref (ad 101))] → gw D A s.heap (CW cy ad w3 ++ rest) H locs → W p l e rmX5_parse s m args below meth c H locs 0 0 Q (F0 m 12 ls []) := by
    intro n3
    induction n3 with
    | zero => intro v3_1 w3 hF hm3; exact absurd hm3 (Nat.not_lt_zero _)
    | succ n3 ih3 =>
      intro v3_1 w3 hF hm3 H locs ls hl hw
      have hT3 := st_X5_parse_12.eq_1 v3_1 w3
      refine lv_iload_n hx hb dX5_parse_12 rfl (lv_at hl 0 rfl) ?_
      refine lv_bipush (v := 14) hx hb dX5_parse_13 (by decide) ?_
      refine lv_icmp_ge (tgt := 46) hx hb dX5_parse_15 (by decide) (fun c4 => ?_) (fun c4 => ?_)
      · skip
        have hT3 := hT3.trans (if_pos c4)
        refine lv_iconst (v := 0) hx hb dX5_parse_46 (by decide) ?_
        exact hret _ _ _ _ _ _ dX5_parse_47 (Or.inl rfl) ⟨⟨congrArg Prod.fst ((hF.trans (lp_r hT3)).symm.trans hsp), congrArg Prod.snd ((hF.trans (lp_r hT3)).symm.trans hsp)⟩, (Or.inl rfl)⟩ hw
      · skip
        have hT3 := hT3.trans (if_neg c4)
        refine lv_aload_n hx hb dX5_parse_18 rfl (lv_at hl 1 rfl) ?_
        refine gcV_i (rest := []) X (c_X5_parseEntry l D cy ad rest w3) gy_X5_parseEntry gX5_parse_X5_parseEntry ⟨rfl, rfl, Nat.le_of_ble_eq_true rfl, Nat.le_of_ble_eq_true rfl⟩ 101 rfl rfl rfl hl rfl (Nat.le_of_ble_eq_true rfl) dX5_parse_19 ⟨Nat.zero_le _, Nat.zero_le _⟩ hw (fun r5 u6 H locs hr5 hw => ?_)
        obtain ⟨⟨hr5, hu6⟩, zr5⟩ : (r5 = (F_X5_parseEntry w3).1 ∧ u6 = (F_X5_parseEntry w3).2) ∧ (r5 = 0 ∨ r5 = 1) := hr5
        have hT3 := hT3.trans (bnd_eq hu6)
        have hT3 := hT3.trans (bnd_eq hr5)
        refine lv_if_ne (tgt := 27) hx hb dX5_parse_22 (by decide) (fun c7 => ?_) (fun c7 => ?_)
        · skip
          have hT3 := hT3.trans (if_neg c7)
          refine lv_aload_n hx hb dX5_parse_27 rfl (lv_at hl 1 rfl) ?_
          refine g_get (v := .int (u6.2.1 19)) (C := RX5) (T := TX5) (N := 7) (ci := 7) X inX5 hw 101 rfl rfl 2 (by decide) (List.mem_of_getElem? (i := 1) rfl) rfl rfl dX5_parse_28 ?_
          refine lv_aload_n hx hb dX5_parse_31 rfl (lv_at hl 1 rfl) ?_
          refine g_get (v := .int (u6.2.1 18)) (C := RX5) (T := TX5) (N := 7) (ci := 7) X inX5 hw 101 rfl rfl 1 (by decide) (List.mem_of_getElem? (i := 3) rfl) rfl rfl dX5_parse_32 ?_
          refine lv_icmp_lt (tgt := 40) hx hb dX5_parse_35 (by decide) (fun c8 => ?_) (fun c8 => ?_)
          · skip
            have hT3 := hT3.trans (if_pos c8)
            refine lv_iinc (v := (v3_1 + 1)) (lv' := [(1, .int (v3_1 + 1)), (0, .ref (ad 101))]) hx hb dX5_parse_40 hl (k := 0) rfl rfl (by decide) rfl (fun ls hl => ?_)
            refine lv_goto (tgt := 12) hx hb dX5_parse_43 (by decide) ?_
            exact ih3 (v3_1 + 1) u6 (hF.trans (lp_l hT3)) (Nat.lt_of_lt_of_le (by first | exact up_dec (by assumption) | (simp only [*]; exact up_dec (by assumption))) (Nat.le_of_lt_succ hm3)) _ _ ls (lv_sub hl [0, 1] rfl) hw
          · skip
            have hT3 := hT3.trans (if_neg c8)
            refine lv_iconst (v := 1) hx hb dX5_parse_38 (by decide) ?_
            exact hret _ _ _ _ _ _ dX5_parse_39 (Or.inr rfl) ⟨⟨congrArg Prod.fst ((hF.trans (lp_r hT3)).symm.trans hsp), congrArg Prod.snd ((hF.trans (lp_r hT3)).symm.trans hsp)⟩, (Or.inr rfl)⟩ hw
        · skip
          have hT3 := hT3.trans (if_pos c7)
          refine lv_iconst (v := 0) hx hb dX5_parse_25 (by decide) ?_
          exact hret _ _ _ _ _ _ dX5_parse_26 (Or.inl rfl) ⟨⟨congrArg Prod.fst ((hF.trans (lp_r hT3)).symm.trans hsp), congrArg Prod.snd ((hF.trans (lp_r hT3)).symm.trans hsp)⟩, (Or.inl rfl)⟩ hw
  exact L3 _ 0 u2 hF (Nat.lt_succ_self _) _ _ ls (lv_sub hl [0, 1] rfl) hw
