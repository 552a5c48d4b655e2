/-- a grouping, as its constructor lays it: the addresses of its cells b, its own h, what it holds said by a state (rows 0 to 20, ints 0 to 8, long 0) -/
def GW0 (cy : Nat → ClassId) (b : Nat → Nat) (h : Nat) (C : CS) : va_W := [
  ((b 0), .inl (cy 0, 3, .inl (C.1 20))),
  ((b 1), .inr (6, [.ref (b 0)])),
  ((b 2), .inl (cy 0, 60, .inl (C.1 19))),
  ((b 3), .inr (6, [.ref (b 2)])),
  ((b 4), .inl (cy 0, 60, .inl (C.1 18))),
  ((b 5), .inr (6, [.ref (b 4)])),
  ((b 6), .inl (cy 0, 60, .inl (C.1 17))),
  ((b 7), .inr (6, [.ref (b 6)])),
  ((b 8), .inl (cy 0, 60, .inl (C.1 16))),
  ((b 9), .inr (6, [.ref (b 8)])),
  ((b 10), .inl (cy 0, 60, .inl (C.1 15))),
  ((b 11), .inr (6, [.ref (b 10)])),
  ((b 12), .inl (cy 0, 60, .inl (C.1 14))),
  ((b 13), .inr (6, [.ref (b 12)])),
  ((b 14), .inr (4, [.ref (b 13), .ref (b 11), .ref (b 9), .ref (b 7), .ref (b 5), .ref (b 3), .int (C.2.1 7), .ref (b 1), .int (C.2.1 8), .long (C.2.2 0)])),
  ((b 15), .inl (cy 0, 100, .inl (C.1 13))),
  ((b 16), .inr (6, [.ref (b 15)])),
  ((b 17), .inl (cy 0, 100, .inl (C.1 12))),
  ((b 18), .inr (6, [.ref (b 17)])),
  ((b 19), .inl (cy 0, 100, .inl (C.1 11))),
  ((b 20), .inr (6, [.ref (b 19)])),
  ((b 21), .inl (cy 0, 100, .inl (C.1 10))),
  ((b 22), .inr (6, [.ref (b 21)])),
  ((b 23), .inl (cy 0, 100, .inl (C.1 9))),
  ((b 24), .inr (6, [.ref (b 23)])),
  ((b 25), .inl (cy 0, 100, .inl (C.1 8))),
  ((b 26), .inr (6, [.ref (b 25)])),
  ((b 27), .inl (cy 0, 100, .inl (C.1 7))),
  ((b 28), .inr (6, [.ref (b 27)])),
  ((b 29), .inl (cy 0, 100, .inl (C.1 6))),
  ((b 30), .inr (6, [.ref (b 29)])),
  ((b 31), .inl (cy 0, 100, .inl (C.1 5))),
  ((b 32), .inr (6, [.ref (b 31)])),
  ((b 33), .inr (2, [.ref (b 32), .ref (b 30), .ref (b 28), .ref (b 26), .ref (b 24), .ref (b 22), .ref (b 20), .ref (b 18), .ref (b 16), .int (C.2.1 6)])),
  ((b 34), .inl (cy 0, 100, .inl (C.1 4))),
  ((b 35), .inr (6, [.ref (b 34)])),
  ((b 36), .inl (cy 0, 100, .inl (C.1 3))),
  ((b 37), .inr (6, [.ref (b 36)])),
  ((b 38), .inl (cy 0, 100, .inl (C.1 2))),
  ((b 39), .inr (6, [.ref (b 38)])),
  ((b 40), .inr (5, [.ref (b 39), .ref (b 37), .ref (b 35), .int (C.2.1 5)])),
  ((b 41), .inl (cy 0, 8, .inl (C.1 1))),
  ((b 42), .inr (6, [.ref (b 41)])),
  ((b 43), .inl (cy 0, 8, .inl (C.1 0))),
  ((b 44), .inr (6, [.ref (b 43)])),
  (h, .inr (3, [.ref (b 44), .ref (b 42), .ref (b 40), .ref (b 33), .ref (b 14), .int (C.2.1 0), .int (C.2.1 1), .int (C.2.1 2), .int (C.2.1 3), .int (C.2.1 4)]))]
def C00 : CS := (fun _ _ => 0, fun _ => 0, fun _ => 0)
set_option maxRecDepth 100000 in
theorem cG_fillWith_0 (l : Launch) (D : va_G) (cy : Nat → ClassId) (b : Nat → Nat) (h : Nat) (rest : va_W) (C : CS) (q1 : Int32) : GMv l yX4_fillWith wsX4_fillWith rmX4_fillWith D cy [.ref (b 44), .int q1] (GW0 cy b h C ++ rest) (fun (u : CS) => u = sR C 0 (rFill 8 (C.1 0) q1)) (fun u => GW0 cy b h u ++ rest) := by
  have h9 := c_X4_fillWith l D cy (fun f => GW0 cy b h (sR C 0 f) ++ rest) 44 43 (b 44) (b 43) 8 (by decide) (fun f => ⟨rfl, rfl, fun g => rfl⟩) (C.1 0) q1
  rw [sR_self] at h9
  exact gMap h9 (fun f => sR C 0 f) (fun u hu => by rw [hu]) (fun u => rfl)
set_option maxRecDepth 100000 in
theorem cG_fillWith_1 (l : Launch) (D : va_G) (cy : Nat → ClassId) (b : Nat → Nat) (h : Nat) (rest : va_W) (C : CS) (q1 : Int32) : GMv l yX4_fillWith wsX4_fillWith rmX4_fillWith D cy [.ref (b 42), .int q1] (GW0 cy b h C ++ rest) (fun (u : CS) => u = sR C 1 (rFill 8 (C.1 1) q1)) (fun u => GW0 cy b h u ++ rest) := by
  have h9 := c_X4_fillWith l D cy (fun f => GW0 cy b h (sR C 1 f) ++ rest) 42 41 (b 42) (b 41) 8 (by decide) (fun f => ⟨rfl, rfl, fun g => rfl⟩) (C.1 1) q1
  rw [sR_self] at h9
  exact gMap h9 (fun f => sR C 1 f) (fun u hu => by rw [hu]) (fun u => rfl)
set_option maxRecDepth 100000 in
theorem cG_fillWith_20 (l : Launch) (D : va_G) (cy : Nat → ClassId) (b : Nat → Nat) (h : Nat) (rest : va_W) (C : CS) (q1 : Int32) : GMv l yX4_fillWith wsX4_fillWith rmX4_fillWith D cy [.ref (b 1), .int q1] (GW0 cy b h C ++ rest) (fun (u : CS) => u = sR C 20 (rFill 3 (C.1 20) q1)) (fun u => GW0 cy b h u ++ rest) := by
  have h9 := c_X4_fillWith l D cy (fun f => GW0 cy b h (sR C 20 f) ++ rest) 1 0 (b 1) (b 0) 3 (by decide) (fun f => ⟨rfl, rfl, fun g => rfl⟩) (C.1 20) q1
  rw [sR_self] at h9
  exact gMap h9 (fun f => sR C 20 f) (fun u hu => by rw [hu]) (fun u => rfl)
def F_X2_clear_g (C : CS) : CS := (bnd (sR C 20 (rFill 3 (C.1 20) 0)) (fun u2 => (bnd (sI u2 7 0) (fun u3 => (bnd (sI u3 8 0) (fun u4 => (bnd (sL u4 0 0) (fun u5 => u5))))))))
abbrev rmX2_clear_g : Room := { frames := 1, cells := 0, slots := 0, locals := 22 }
set_option maxHeartbeats 4000000 in
set_option maxRecDepth 100000 in
theorem c_X2_clear_g (l : Launch) (D : va_G) (cy : Nat → ClassId) (b : Nat → Nat) (h : Nat) (rest : va_W) (C : CS) : GMv l yX2_clear wsX2_clear rmX2_clear_g D cy [.ref (b 14)] (GW0 cy b h C ++ rest) (fun (u : CS) => u = F_X2_clear_g C) (fun u => GW0 cy b h u ++ rest) := by
  refine GMv.intro cX2_clear 1 RX2 (by decide) rfl rfl (Nat.le_of_ble_eq_true rfl) ?_
  intro p e s m args below meth c A Q ls X hret hl hw
  have hx := X.1
  have hb := X.2.1
  have hl : lv_has ls 1 [(0, .ref (b 14))] := hl
  have inX2 : ∀ w ∈ wsX20, w ∈ wsX2_clear := fun w h => List.mem_cons_of_mem _ (List.mem_append_left _ (List.mem_append_left _ (List.mem_append_right _ h)))
  obtain ⟨sp, hsp⟩ : ∃ sp, sp = F_X2_clear_g C := ⟨_, rfl⟩
  have hF := hsp.trans (F_X2_clear_g.eq_1 C)
  refine lv_aload_n hx hb dX2_clear_0 rfl (lv_at hl 0 rfl) ?_
  refine g_get (v := .ref (b 1)) (C := RX2) (T := TX2) (N := 10) (ci := 4) X inX2 hw 14 rfl rfl 7 (by decide) (List.mem_of_getElem? (i := 1) rfl) rfl rfl dX2_clear_1 ?_
  refine lv_iconst (v := 0) hx hb dX2_clear_4 (by decide) ?_
  refine gcV_v (rest := []) X (cG_fillWith_20 l D cy b h rest C 0) gy_X4_fillWith gX2_clear_X4_fillWith ⟨rfl, rfl, Nat.le_of_ble_eq_true rfl, Nat.le_of_ble_eq_true rfl⟩ 1 rfl rfl rfl hl rfl (Nat.le_of_ble_eq_true rfl) dX2_clear_5 ⟨Nat.zero_le _, Nat.zero_le _⟩ hw (fun u2 H locs hu2 hw => ?_)
  have hu2 : u2 = sR C 20 (rFill 3 (C.1 20) 0) := hu2
  have hF := hF.trans (bnd_eq hu2)
  refine lv_aload_n hx hb dX2_clear_8 rfl (lv_at hl 0 rfl) ?_
  refine lv_iconst (v := 0) hx hb dX2_clear_9 (by decide) ?_
  refine g_put (v := .int 0) (C := RX2) (T := TX2) (N := 10) (ci := 4) (w' := GW0 cy b h (sI u2 7 0) ++ rest) X inX2 tyX2 tyX2_ok nmX2 hw 14 rfl rfl 6 (by decide) (List.mem_of_getElem? (i := 2) rfl) rfl rfl rfl rfl (Nat.le_of_ble_eq_true rfl) rfl dX2_clear_10 (fun H locs hw => ?_)
  obtain ⟨u3, hu3⟩ : ∃ z, z = sI u2 7 0 := ⟨_, rfl⟩
  rw [← hu3] at hw
  have hF := hF.trans (bnd_eq hu3)
  refine lv_aload_n hx hb dX2_clear_13 rfl (lv_at hl 0 rfl) ?_
  refine lv_iconst (v := 0) hx hb dX2_clear_14 (by decide) ?_
  refine g_put (v := .int 0) (C := RX2) (T := TX2) (N := 10) (ci := 4) (w' := GW0 cy b h (sI u3 8 0) ++ rest) X inX2 tyX2 tyX2_ok nmX2 hw 14 rfl rfl 8 (by decide) (List.mem_of_getElem? (i := 3) rfl) rfl rfl rfl rfl (Nat.le_of_ble_eq_true rfl) rfl dX2_clear_15 (fun H locs hw => ?_)
  obtain ⟨u4, hu4⟩ : ∃ z, z = sI u3 8 0 := ⟨_, rfl⟩
  rw [← hu4] at hw
  have hF := hF.trans (bnd_eq hu4)
  refine lv_aload_n hx hb dX2_clear_18 rfl (lv_at hl 0 rfl) ?_
  refine lv_lconst (v := 0) hx hb dX2_clear_19 (by decide) ?_
  refine g_put (v := .long 0) (C := RX2) (T := TX2) (N := 10) (ci := 4) (w' := GW0 cy b h (sL u4 0 0) ++ rest) X inX2 tyX2 tyX2_ok nmX2 hw 14 rfl rfl 9 (by decide) (List.mem_of_getElem? (i := 4) rfl) rfl rfl rfl rfl (Nat.le_of_ble_eq_true rfl) rfl dX2_clear_20 (fun H locs hw => ?_)
  obtain ⟨u5, hu5⟩ : ∃ z, z = sL u4 0 0 := ⟨_, rfl⟩
  rw [← hu5] at hw
  have hF := hF.trans (bnd_eq hu5)
  exact hret _ _ _ _ _ dX2_clear_23 (hF.symm.trans hsp) hw
def F_X1_clear_g (C : CS) : CS := (bnd (sR C 0 (rFill 8 (C.1 0) 10)) (fun u2 => (bnd (sR u2 1 (rFill 8 (u2.1 1) 0)) (fun u4 => (bnd (sI u4 5 0) (fun u5 => (bnd (sI u5 6 0) (fun u6 => (bnd (F_X2_clear_g u6) (fun u8 => (bnd (sI u8 0 0) (fun u9 => (bnd (sI u9 1 0) (fun u10 => (bnd (sI u10 2 0) (fun u11 => (bnd (sI u11 3 0) (fun u12 => (bnd (sI u12 4 0) (fun u13 => u13))))))))))))))))))))
abbrev rmX1_clear_g : Room := { frames := 2, cells := 0, slots := 0, locals := 42 }
set_option maxHeartbeats 4000000 in
set_option maxRecDepth 100000 in
theorem c_X1_clear_g (l : Launch) (D : va_G) (cy : Nat → ClassId) (b : Nat → Nat) (h : Nat) (rest : va_W) (C : CS) : GMv l yX1_clear wsX1_clear rmX1_clear_g D cy [.ref h] (GW0 cy b h C ++ rest) (fun (u : CS) => u = F_X1_clear_g C) (fun u => GW0 cy b h u ++ rest) := by
  refine GMv.intro cX1_clear 1 RX1 (by decide) rfl rfl (Nat.le_of_ble_eq_true rfl) ?_
  intro p e s m args below meth c A Q ls X hret hl hw
  have hx := X.1
  have hb := X.2.1
  have hl : lv_has ls 1 [(0, .ref h)] := hl
  have inX0 : ∀ w ∈ wsX00, w ∈ wsX1_clear := fun w h => List.mem_cons_of_mem _ (List.mem_append_left _ (List.mem_append_left _ (List.mem_append_left _ (List.mem_append_right _ h))))
  have inX1 : ∀ w ∈ wsX10, w ∈ wsX1_clear := fun w h => List.mem_cons_of_mem _ (List.mem_append_left _ (List.mem_append_left _ (List.mem_append_left _ (List.mem_append_left _ (List.mem_append_left _ (List.mem_append_right _ h))))))
  have inX3 : ∀ w ∈ wsX30, w ∈ wsX1_clear := fun w h => List.mem_cons_of_mem _ (List.mem_append_left _ (List.mem_append_left _ (List.mem_append_left _ (List.mem_append_left _ (List.mem_append_right _ h)))))
  obtain ⟨sp, hsp⟩ : ∃ sp, sp = F_X1_clear_g C := ⟨_, rfl⟩
  have hF := hsp.trans (F_X1_clear_g.eq_1 C)
  refine lv_aload_n hx hb dX1_clear_0 rfl (lv_at hl 0 rfl) ?_
  refine g_get (v := .ref (b 44)) (C := RX1) (T := TX1) (N := 10) (ci := 3) X inX1 hw 45 rfl rfl 0 (by decide) (List.mem_of_getElem? (i := 1) rfl) rfl rfl dX1_clear_1 ?_
  refine lv_bipush (v := 10) hx hb dX1_clear_4 (by decide) ?_
  refine gcV_v (rest := []) X (cG_fillWith_0 l D cy b h rest C 10) gy_X4_fillWith gX1_clear_X4_fillWith ⟨rfl, rfl, Nat.le_of_ble_eq_true rfl, Nat.le_of_ble_eq_true rfl⟩ 44 rfl rfl rfl hl rfl (Nat.le_of_ble_eq_true rfl) dX1_clear_6 ⟨Nat.zero_le _, Nat.zero_le _⟩ hw (fun u2 H locs hu2 hw => ?_)
  have hu2 : u2 = sR C 0 (rFill 8 (C.1 0) 10) := hu2
  have hF := hF.trans (bnd_eq hu2)
  refine lv_aload_n hx hb dX1_clear_9 rfl (lv_at hl 0 rfl) ?_
  refine g_get (v := .ref (b 42)) (C := RX1) (T := TX1) (N := 10) (ci := 3) X inX1 hw 45 rfl rfl 1 (by decide) (List.mem_of_getElem? (i := 2) rfl) rfl rfl dX1_clear_10 ?_
  refine lv_iconst (v := 0) hx hb dX1_clear_13 (by decide) ?_
  refine gcV_v (rest := []) X (cG_fillWith_1 l D cy b h rest u2 0) gy_X4_fillWith gX1_clear_X4_fillWith ⟨rfl, rfl, Nat.le_of_ble_eq_true rfl, Nat.le_of_ble_eq_true rfl⟩ 42 rfl rfl rfl hl rfl (Nat.le_of_ble_eq_true rfl) dX1_clear_14 ⟨Nat.zero_le _, Nat.zero_le _⟩ hw (fun u4 H locs hu4 hw => ?_)
  have hu4 : u4 = sR u2 1 (rFill 8 (u2.1 1) 0) := hu4
  have hF := hF.trans (bnd_eq hu4)
  refine lv_aload_n hx hb dX1_clear_17 rfl (lv_at hl 0 rfl) ?_
  refine g_get (v := .ref (b 40)) (C := RX1) (T := TX1) (N := 10) (ci := 3) X inX1 hw 45 rfl rfl 2 (by decide) (List.mem_of_getElem? (i := 3) rfl) rfl rfl dX1_clear_18 ?_
  refine lv_iconst (v := 0) hx hb dX1_clear_21 (by decide) ?_
  refine g_put (v := .int 0) (C := RX3) (T := TX3) (N := 4) (ci := 5) (w' := GW0 cy b h (sI u4 5 0) ++ rest) X inX3 tyX3 tyX3_ok nmX3 hw 40 rfl rfl 3 (by decide) (List.mem_of_getElem? (i := 4) rfl) rfl rfl rfl rfl (Nat.le_of_ble_eq_true rfl) rfl dX1_clear_22 (fun H locs hw => ?_)
  obtain ⟨u5, hu5⟩ : ∃ z, z = sI u4 5 0 := ⟨_, rfl⟩
  rw [← hu5] at hw
  have hF := hF.trans (bnd_eq hu5)
  refine lv_aload_n hx hb dX1_clear_25 rfl (lv_at hl 0 rfl) ?_
  refine g_get (v := .ref (b 33)) (C := RX1) (T := TX1) (N := 10) (ci := 3) X inX1 hw 45 rfl rfl 3 (by decide) (List.mem_of_getElem? (i := 5) rfl) rfl rfl dX1_clear_26 ?_
  refine lv_iconst (v := 0) hx hb dX1_clear_29 (by decide) ?_
  refine g_put (v := .int 0) (C := RX0) (T := TX0) (N := 10) (ci := 2) (w' := GW0 cy b h (sI u5 6 0) ++ rest) X inX0 tyX0 tyX0_ok nmX0 hw 33 rfl rfl 9 (by decide) (List.mem_of_getElem? (i := 6) rfl) rfl rfl rfl rfl (Nat.le_of_ble_eq_true rfl) rfl dX1_clear_30 (fun H locs hw => ?_)
  obtain ⟨u6, hu6⟩ : ∃ z, z = sI u5 6 0 := ⟨_, rfl⟩
  rw [← hu6] at hw
  have hF := hF.trans (bnd_eq hu6)
  refine lv_aload_n hx hb dX1_clear_33 rfl (lv_at hl 0 rfl) ?_
  refine g_get (v := .ref (b 14)) (C := RX1) (T := TX1) (N := 10) (ci := 3) X inX1 hw 45 rfl rfl 4 (by decide) (List.mem_of_getElem? (i := 7) rfl) rfl rfl dX1_clear_34 ?_
  refine gcV_v (rest := []) X (c_X2_clear_g l D cy b h rest u6) gy_X2_clear gX1_clear_X2_clear ⟨rfl, rfl, Nat.le_of_ble_eq_true rfl, Nat.le_of_ble_eq_true rfl⟩ 14 rfl rfl rfl hl rfl (Nat.le_of_ble_eq_true rfl) dX1_clear_37 ⟨Nat.zero_le _, Nat.zero_le _⟩ hw (fun u8 H locs hu8 hw => ?_)
  have hu8 : u8 = F_X2_clear_g u6 := hu8
  have hF := hF.trans (bnd_eq hu8)
  refine lv_aload_n hx hb dX1_clear_40 rfl (lv_at hl 0 rfl) ?_
  refine lv_iconst (v := 0) hx hb dX1_clear_41 (by decide) ?_
  refine g_put (v := .int 0) (C := RX1) (T := TX1) (N := 10) (ci := 3) (w' := GW0 cy b h (sI u8 0 0) ++ rest) X inX1 tyX1 tyX1_ok nmX1 hw 45 rfl rfl 5 (by decide) (List.mem_of_getElem? (i := 8) rfl) rfl rfl rfl rfl (Nat.le_of_ble_eq_true rfl) rfl dX1_clear_42 (fun H locs hw => ?_)
  obtain ⟨u9, hu9⟩ : ∃ z, z = sI u8 0 0 := ⟨_, rfl⟩
  rw [← hu9] at hw
  have hF := hF.trans (bnd_eq hu9)
  refine lv_aload_n hx hb dX1_clear_45 rfl (lv_at hl 0 rfl) ?_
  refine lv_iconst (v := 0) hx hb dX1_clear_46 (by decide) ?_
  refine g_put (v := .int 0) (C := RX1) (T := TX1) (N := 10) (ci := 3) (w' := GW0 cy b h (sI u9 1 0) ++ rest) X inX1 tyX1 tyX1_ok nmX1 hw 45 rfl rfl 6 (by decide) (List.mem_of_getElem? (i := 9) rfl) rfl rfl rfl rfl (Nat.le_of_ble_eq_true rfl) rfl dX1_clear_47 (fun H locs hw => ?_)
  obtain ⟨u10, hu10⟩ : ∃ z, z = sI u9 1 0 := ⟨_, rfl⟩
  rw [← hu10] at hw
  have hF := hF.trans (bnd_eq hu10)
  refine lv_aload_n hx hb dX1_clear_50 rfl (lv_at hl 0 rfl) ?_
  refine lv_iconst (v := 0) hx hb dX1_clear_51 (by decide) ?_
  refine g_put (v := .int 0) (C := RX1) (T := TX1) (N := 10) (ci := 3) (w' := GW0 cy b h (sI u10 2 0) ++ rest) X inX1 tyX1 tyX1_ok nmX1 hw 45 rfl rfl 7 (by decide) (List.mem_of_getElem? (i := 10) rfl) rfl rfl rfl rfl (Nat.le_of_ble_eq_true rfl) rfl dX1_clear_52 (fun H locs hw => ?_)
  obtain ⟨u11, hu11⟩ : ∃ z, z = sI u10 2 0 := ⟨_, rfl⟩
  rw [← hu11] at hw
  have hF := hF.trans (bnd_eq hu11)
  refine lv_aload_n hx hb dX1_clear_55 rfl (lv_at hl 0 rfl) ?_
  refine lv_iconst (v := 0) hx hb dX1_clear_56 (by decide) ?_
  refine g_put (v := .int 0) (C := RX1) (T := TX1) (N := 10) (ci := 3) (w' := GW0 cy b h (sI u11 3 0) ++ rest) X inX1 tyX1 tyX1_ok nmX1 hw 45 rfl rfl 8 (by decide) (List.mem_of_getElem? (i := 11) rfl) rfl rfl rfl rfl (Nat.le_of_ble_eq_true rfl) rfl dX1_clear_57 (fun H locs hw => ?_)
  obtain ⟨u12, hu12⟩ : ∃ z, z = sI u11 3 0 := ⟨_, rfl⟩
  rw [← hu12] at hw
  have hF := hF.trans (bnd_eq hu12)
  refine lv_aload_n hx hb dX1_clear_60 rfl (lv_at hl 0 rfl) ?_
  refine lv_iconst (v := 0) hx hb dX1_clear_61 (by decide) ?_
  refine g_put (v := .int 0) (C := RX1) (T := TX1) (N := 10) (ci := 3) (w' := GW0 cy b h (sI u12 4 0) ++ rest) X inX1 tyX1 tyX1_ok nmX1 hw 45 rfl rfl 9 (by decide) (List.mem_of_getElem? (i := 12) rfl) rfl rfl rfl rfl (Nat.le_of_ble_eq_true rfl) rfl dX1_clear_62 (fun H locs hw => ?_)
  obtain ⟨u13, hu13⟩ : ∃ z, z = sI u12 4 0 := ⟨_, rfl⟩
  rw [← hu13] at hw
  have hF := hF.trans (bnd_eq hu13)
  exact hret _ _ _ _ _ dX1_clear_65 (hF.symm.trans hsp) hw
def C1 : CS := F_X1_clear_g C00
theorem gy_X1_init : gY yX1_init RX1 cX1_init 1 none wsX1_init 0 := ⟨⟨_, rfl⟩, rfl, by decide +kernel, by decide +kernel, by decide +kernel⟩
abbrev rmX1_init : Room := { frames := 6, cells := 45, slots := 1624, locals := 200 }
set_option maxHeartbeats 4000000 in
set_option maxRecDepth 100000 in
theorem c_X1_init (l : Launch) (D : va_G) (cy : Nat → ClassId) (h : Nat) (rest : va_W) : GKv l yX1_init wsX1_init rmX1_init D cy [.ref h] ((h, .inr (3, [.null, .null, .null, .null, .null, .int 0, .int 0, .int 0, .int 0, .int 0])) :: rest) (fun (_ : Nat → Nat) => True) (fun b => GW0 cy b h C1 ++ rest) 45 1624 := by
  refine GKv.intro cX1_init 1 RX1 (by decide) rfl rfl rfl (Nat.le_of_ble_eq_true rfl) ?_
  intro p e s m args below meth c A Q ls X hN hin hret hl hw
  have hx := X.1
  have hb := X.2.1
  have hl : lv_has ls 1 [(0, .ref h)] := hl
  have inX0 : ∀ w ∈ wsX00, w ∈ wsX1_init := fun w h => List.mem_cons_of_mem _ (List.mem_append_left _ (List.mem_append_left _ (List.mem_append_right _ h)))
  have inX1 : ∀ w ∈ wsX10, w ∈ wsX1_init := fun w h => List.mem_cons_of_mem _ (List.mem_append_left _ (List.mem_append_left _ (List.mem_append_left _ (List.mem_append_left _ (List.mem_append_right _ h)))))
  have inX2 : ∀ w ∈ wsX20, w ∈ wsX1_init := fun w h => List.mem_cons_of_mem _ (List.mem_append_left _ (List.mem_append_right _ h))
  have inX3 : ∀ w ∈ wsX30, w ∈ wsX1_init := fun w h => List.mem_cons_of_mem _ (List.mem_append_left _ (List.mem_append_left _ (List.mem_append_left _ (List.mem_append_right _ h))))
  have inX4 : ∀ w ∈ wsX40, w ∈ wsX1_init := fun w h => List.mem_cons_of_mem _ (List.mem_append_left _ (List.mem_append_left _ (List.mem_append_left _ (List.mem_append_left _ (List.mem_append_left _ (List.mem_append_right _ h))))))
  refine lv_aload_n hx hb dX1_init_0 rfl (lv_at hl 0 rfl) ?_
  refine W.objInit hx hb X.2.2.2.2.1 (X.2.2.2.2.2.1 _ (List.mem_of_getElem? (i := 1) rfl)) (X.2.2.2.2.2.1 _ (List.mem_of_getElem? (i := 2) rfl)) (X.2.2.2.2.2.1 _ (List.mem_of_getElem? (i := 3) rfl)) rfl (hl.1.trans X.2.2.2.1.symm) rfl dX1_init_1 (Nat.le_of_ble_eq_true rfl) (Nat.le_of_ble_eq_true rfl) ?_
  refine W.eq (g2 := F0 m 4 ls []) rfl ?_
  refine lv_aload_n hx hb dX1_init_4 rfl (lv_at hl 0 rfl) ?_
  refine g_new (ci := 6) (fs := [.null]) (C := RX4) (T := TX4) (N := 1) X inX4 tyX4 tyX4_ok (List.mem_of_getElem? (i := 4) rfl) (List.mem_of_getElem? (i := 5) rfl) (List.mem_of_getElem? (i := 6) rfl) hw rfl (by decide) (Nat.le_of_ble_eq_true rfl) (Nat.le_of_ble_eq_true rfl) dX1_init_5 (fun o1 H hw => ?_)
  refine lv_dup hx hb dX1_init_8 rfl ?_
  refine lv_bipush (v := 8) hx hb dX1_init_9 (by decide) ?_
  refine gk_I (rest := [.ref o1, .ref h]) X hN (c_X4_init l D cy o1 ((h, .inr (3, [.null, .null, .null, .null, .null, .int 0, .int 0, .int 0, .int 0, .int 0])) :: rest) 8 8 (by decide) (by decide) (by decide) (by decide)) gy_X4_init ggX1_init_X4_init (List.mem_of_getElem? (i := 6) rfl) (List.mem_of_getElem? (i := 21) rfl) (List.mem_of_getElem? (i := 22) rfl) rfl ⟨rfl, rfl, Nat.le_of_ble_eq_true rfl, Nat.le_of_ble_eq_true rfl⟩ rfl hl rfl (Nat.le_of_ble_eq_true rfl) dX1_init_11 ⟨Nat.le_of_ble_eq_true rfl, Nat.le_of_ble_eq_true rfl⟩ hw (fun b2 H locs _ hw => ?_)
  have hw : gw D A s.heap ((b2, .inl (cy 0, 8, .inl (fun _ => 0))) :: ((o1, .inr (6, [.ref b2])) :: ((h, .inr (3, [.null, .null, .null, .null, .null, .int 0, .int 0, .int 0, .int 0, .int 0])) :: rest))) H locs := hw
  refine g_putF (v := .ref o1) (C := RX1) (T := TX1) (N := 10) (ci := 3) (w' := (b2, .inl (cy 0, 8, .inl (fun _ => 0))) :: ((o1, .inr (6, [.ref b2])) :: ((h, .inr (3, [.ref o1, .null, .null, .null, .null, .int 0, .int 0, .int 0, .int 0, .int 0])) :: rest))) X hin inX1 tyX1 tyX1_ok nmX1 hw 2 rfl rfl 0 (by decide) (List.mem_of_getElem? (i := 7) rfl) rfl rfl rfl rfl rfl (Nat.le_of_ble_eq_true rfl) rfl dX1_init_14 (fun H locs hw => ?_)
  refine lv_aload_n hx hb dX1_init_17 rfl (lv_at hl 0 rfl) ?_
  refine g_new (ci := 6) (fs := [.null]) (C := RX4) (T := TX4) (N := 1) X inX4 tyX4 tyX4_ok (List.mem_of_getElem? (i := 4) rfl) (List.mem_of_getElem? (i := 5) rfl) (List.mem_of_getElem? (i := 6) rfl) hw rfl (by decide) (Nat.le_of_ble_eq_true rfl) (Nat.le_of_ble_eq_true rfl) dX1_init_18 (fun o3 H hw => ?_)
  refine lv_dup hx hb dX1_init_21 rfl ?_
  refine lv_bipush (v := 8) hx hb dX1_init_22 (by decide) ?_
  refine gk_I (rest := [.ref o3, .ref h]) X hN (c_X4_init l D cy o3 ((b2, .inl (cy 0, 8, .inl (fun _ => 0))) :: ((o1, .inr (6, [.ref b2])) :: ((h, .inr (3, [.ref o1, .null, .null, .null, .null, .int 0, .int 0, .int 0, .int 0, .int 0])) :: rest))) 8 8 (by decide) (by decide) (by decide) (by decide)) gy_X4_init ggX1_init_X4_init (List.mem_of_getElem? (i := 6) rfl) (List.mem_of_getElem? (i := 21) rfl) (List.mem_of_getElem? (i := 22) rfl) rfl ⟨rfl, rfl, Nat.le_of_ble_eq_true rfl, Nat.le_of_ble_eq_true rfl⟩ rfl hl rfl (Nat.le_of_ble_eq_true rfl) dX1_init_24 ⟨Nat.le_of_ble_eq_true rfl, Nat.le_of_ble_eq_true rfl⟩ hw (fun b4 H locs _ hw => ?_)
  have hw : gw D A s.heap ((b4, .inl (cy 0, 8, .inl (fun _ => 0))) :: ((o3, .inr (6, [.ref b4])) :: ((b2, .inl (cy 0, 8, .inl (fun _ => 0))) :: ((o1, .inr (6, [.ref b2])) :: ((h, .inr (3, [.ref o1, .null, .null, .null, .null, .int 0, .int 0, .int 0, .int 0, .int 0])) :: rest))))) H locs := hw
  refine g_putF (v := .ref o3) (C := RX1) (T := TX1) (N := 10) (ci := 3) (w' := (b4, .inl (cy 0, 8, .inl (fun _ => 0))) :: ((o3, .inr (6, [.ref b4])) :: ((b2, .inl (cy 0, 8, .inl (fun _ => 0))) :: ((o1, .inr (6, [.ref b2])) :: ((h, .inr (3, [.ref o1, .ref o3, .null, .null, .null, .int 0, .int 0, .int 0, .int 0, .int 0])) :: rest))))) X hin inX1 tyX1 tyX1_ok nmX1 hw 4 rfl rfl 1 (by decide) (List.mem_of_getElem? (i := 8) rfl) rfl rfl rfl rfl rfl (Nat.le_of_ble_eq_true rfl) rfl dX1_init_27 (fun H locs hw => ?_)
  refine lv_aload_n hx hb dX1_init_30 rfl (lv_at hl 0 rfl) ?_
  refine g_new (ci := 5) (fs := [.null, .null, .null, .int 0]) (C := RX3) (T := TX3) (N := 4) X inX3 tyX3 tyX3_ok (List.mem_of_getElem? (i := 9) rfl) (List.mem_of_getElem? (i := 10) rfl) (List.mem_of_getElem? (i := 11) rfl) hw rfl (by decide) (Nat.le_of_ble_eq_true rfl) (Nat.le_of_ble_eq_true rfl) dX1_init_31 (fun o5 H hw => ?_)
  refine lv_dup hx hb dX1_init_34 rfl ?_
  refine gk_IN (rest := [.ref o5, .ref h]) X hN (c_X3_init l D cy o5 ((b4, .inl (cy 0, 8, .inl (fun _ => 0))) :: ((o3, .inr (6, [.ref b4])) :: ((b2, .inl (cy 0, 8, .inl (fun _ => 0))) :: ((o1, .inr (6, [.ref b2])) :: ((h, .inr (3, [.ref o1, .ref o3, .null, .null, .null, .int 0, .int 0, .int 0, .int 0, .int 0])) :: rest)))))) gy_X3_init ggX1_init_X3_init (List.mem_of_getElem? (i := 11) rfl) hN.1 (List.mem_of_getElem? (i := 31) rfl) rfl ⟨rfl, rfl, Nat.le_of_ble_eq_true rfl, Nat.le_of_ble_eq_true rfl⟩ rfl hl rfl (Nat.le_of_ble_eq_true rfl) dX1_init_35 ⟨Nat.le_of_ble_eq_true rfl, Nat.le_of_ble_eq_true rfl⟩ hw (fun b6 H locs _ hw => ?_)
  have hw : gw D A s.heap (((b6 0), .inl (cy 0, 100, .inl (fun _ => 0))) :: (((b6 1), .inr (6, [.ref (b6 0)])) :: (((b6 2), .inl (cy 0, 100, .inl (fun _ => 0))) :: (((b6 3), .inr (6, [.ref (b6 2)])) :: (((b6 4), .inl (cy 0, 100, .inl (fun _ => 0))) :: (((b6 5), .inr (6, [.ref (b6 4)])) :: ((o5, .inr (5, [.ref (b6 5), .ref (b6 3), .ref (b6 1), .int 0])) :: ((b4, .inl (cy 0, 8, .inl (fun _ => 0))) :: ((o3, .inr (6, [.ref b4])) :: ((b2, .inl (cy 0, 8, .inl (fun _ => 0))) :: ((o1, .inr (6, [.ref b2])) :: ((h, .inr (3, [.ref o1, .ref o3, .null, .null, .null, .int 0, .int 0, .int 0, .int 0, .int 0])) :: rest)))))))))))) H locs := hw
  refine g_putF (v := .ref o5) (C := RX1) (T := TX1) (N := 10) (ci := 3) (w' := ((b6 0), .inl (cy 0, 100, .inl (fun _ => 0))) :: (((b6 1), .inr (6, [.ref (b6 0)])) :: (((b6 2), .inl (cy 0, 100, .inl (fun _ => 0))) :: (((b6 3), .inr (6, [.ref (b6 2)])) :: (((b6 4), .inl (cy 0, 100, .inl (fun _ => 0))) :: (((b6 5), .inr (6, [.ref (b6 4)])) :: ((o5, .inr (5, [.ref (b6 5), .ref (b6 3), .ref (b6 1), .int 0])) :: ((b4, .inl (cy 0, 8, .inl (fun _ => 0))) :: ((o3, .inr (6, [.ref b4])) :: ((b2, .inl (cy 0, 8, .inl (fun _ => 0))) :: ((o1, .inr (6, [.ref b2])) :: ((h, .inr (3, [.ref o1, .ref o3, .ref o5, .null, .null, .int 0, .int 0, .int 0, .int 0, .int 0])) :: rest)))))))))))) X hin inX1 tyX1 tyX1_ok nmX1 hw 11 rfl rfl 2 (by decide) (List.mem_of_getElem? (i := 12) rfl) rfl rfl rfl rfl rfl (Nat.le_of_ble_eq_true rfl) rfl dX1_init_38 (fun H locs hw => ?_)
  refine lv_aload_n hx hb dX1_init_41 rfl (lv_at hl 0 rfl) ?_
  refine g_new (ci := 2) (fs := [.null, .null, .null, .null, .null, .null, .null, .null, .null, .int 0]) (C := RX0) (T := TX0) (N := 10) X inX0 tyX0 tyX0_ok (List.mem_of_getElem? (i := 13) rfl) (List.mem_of_getElem? (i := 14) rfl) (List.mem_of_getElem? (i := 15) rfl) hw rfl (by decide) (Nat.le_of_ble_eq_true rfl) (Nat.le_of_ble_eq_true rfl) dX1_init_42 (fun o7 H hw => ?_)
  refine lv_dup hx hb dX1_init_45 rfl ?_
  refine gk_IN (rest := [.ref o7, .ref h]) X hN (c_X0_init l D cy o7 (((b6 0), .inl (cy 0, 100, .inl (fun _ => 0))) :: (((b6 1), .inr (6, [.ref (b6 0)])) :: (((b6 2), .inl (cy 0, 100, .inl (fun _ => 0))) :: (((b6 3), .inr (6, [.ref (b6 2)])) :: (((b6 4), .inl (cy 0, 100, .inl (fun _ => 0))) :: (((b6 5), .inr (6, [.ref (b6 4)])) :: ((o5, .inr (5, [.ref (b6 5), .ref (b6 3), .ref (b6 1), .int 0])) :: ((b4, .inl (cy 0, 8, .inl (fun _ => 0))) :: ((o3, .inr (6, [.ref b4])) :: ((b2, .inl (cy 0, 8, .inl (fun _ => 0))) :: ((o1, .inr (6, [.ref b2])) :: ((h, .inr (3, [.ref o1, .ref o3, .ref o5, .null, .null, .int 0, .int 0, .int 0, .int 0, .int 0])) :: rest))))))))))))) gy_X0_init ggX1_init_X0_init (List.mem_of_getElem? (i := 15) rfl) hN.2.1 (List.mem_of_getElem? (i := 40) rfl) rfl ⟨rfl, rfl, Nat.le_of_ble_eq_true rfl, Nat.le_of_ble_eq_true rfl⟩ rfl hl rfl (Nat.le_of_ble_eq_true rfl) dX1_init_46 ⟨Nat.le_of_ble_eq_true rfl, Nat.le_of_ble_eq_true rfl⟩ hw (fun b8 H locs _ hw => ?_)
  have hw : gw D A s.heap (((b8 0), .inl (cy 0, 100, .inl (fun _ => 0))) :: (((b8 1), .inr (6, [.ref (b8 0)])) :: (((b8 2), .inl (cy 0, 100, .inl (fun _ => 0))) :: (((b8 3), .inr (6, [.ref (b8 2)])) :: (((b8 4), .inl (cy 0, 100, .inl (fun _ => 0))) :: (((b8 5), .inr (6, [.ref (b8 4)])) :: (((b8 6), .inl (cy 0, 100, .inl (fun _ => 0))) :: (((b8 7), .inr (6, [.ref (b8 6)])) :: (((b8 8), .inl (cy 0, 100, .inl (fun _ => 0))) :: (((b8 9), .inr (6, [.ref (b8 8)])) :: (((b8 10), .inl (cy 0, 100, .inl (fun _ => 0))) :: (((b8 11), .inr (6, [.ref (b8 10)])) :: (((b8 12), .inl (cy 0, 100, .inl (fun _ => 0))) :: (((b8 13), .inr (6, [.ref (b8 12)])) :: (((b8 14), .inl (cy 0, 100, .inl (fun _ => 0))) :: (((b8 15), .inr (6, [.ref (b8 14)])) :: (((b8 16), .inl (cy 0, 100, .inl (fun _ => 0))) :: (((b8 17), .inr (6, [.ref (b8 16)])) :: ((o7, .inr (2, [.ref (b8 17), .ref (b8 15), .ref (b8 13), .ref (b8 11), .ref (b8 9), .ref (b8 7), .ref (b8 5), .ref (b8 3), .ref (b8 1), .int 0])) :: (((b6 0), .inl (cy 0, 100, .inl (fun _ => 0))) :: (((b6 1), .inr (6, [.ref (b6 0)])) :: (((b6 2), .inl (cy 0, 100, .inl (fun _ => 0))) :: (((b6 3), .inr (6, [.ref (b6 2)])) :: (((b6 4), .inl (cy 0, 100, .inl (fun _ => 0))) :: (((b6 5), .inr (6, [.ref (b6 4)])) :: ((o5, .inr (5, [.ref (b6 5), .ref (b6 3), .ref (b6 1), .int 0])) :: ((b4, .inl (cy 0, 8, .inl (fun _ => 0))) :: ((o3, .inr (6, [.ref b4])) :: ((b2, .inl (cy 0, 8, .inl (fun _ => 0))) :: ((o1, .inr (6, [.ref b2])) :: ((h, .inr (3, [.ref o1, .ref o3, .ref o5, .null, .null, .int 0, .int 0, .int 0, .int 0, .int 0])) :: rest))))))))))))))))))))))))))))))) H locs := hw
  refine g_putF (v := .ref o7) (C := RX1) (T := TX1) (N := 10) (ci := 3) (w' := ((b8 0), .inl (cy 0, 100, .inl (fun _ => 0))) :: (((b8 1), .inr (6, [.ref (b8 0)])) :: (((b8 2), .inl (cy 0, 100, .inl (fun _ => 0))) :: (((b8 3), .inr (6, [.ref (b8 2)])) :: (((b8 4), .inl (cy 0, 100, .inl (fun _ => 0))) :: (((b8 5), .inr (6, [.ref (b8 4)])) :: (((b8 6), .inl (cy 0, 100, .inl (fun _ => 0))) :: (((b8 7), .inr (6, [.ref (b8 6)])) :: (((b8 8), .inl (cy 0, 100, .inl (fun _ => 0))) :: (((b8 9), .inr (6, [.ref (b8 8)])) :: (((b8 10), .inl (cy 0, 100, .inl (fun _ => 0))) :: (((b8 11), .inr (6, [.ref (b8 10)])) :: (((b8 12), .inl (cy 0, 100, .inl (fun _ => 0))) :: (((b8 13), .inr (6, [.ref (b8 12)])) :: (((b8 14), .inl (cy 0, 100, .inl (fun _ => 0))) :: (((b8 15), .inr (6, [.ref (b8 14)])) :: (((b8 16), .inl (cy 0, 100, .inl (fun _ => 0))) :: (((b8 17), .inr (6, [.ref (b8 16)])) :: ((o7, .inr (2, [.ref (b8 17), .ref (b8 15), .ref (b8 13), .ref (b8 11), .ref (b8 9), .ref (b8 7), .ref (b8 5), .ref (b8 3), .ref (b8 1), .int 0])) :: (((b6 0), .inl (cy 0, 100, .inl (fun _ => 0))) :: (((b6 1), .inr (6, [.ref (b6 0)])) :: (((b6 2), .inl (cy 0, 100, .inl (fun _ => 0))) :: (((b6 3), .inr (6, [.ref (b6 2)])) :: (((b6 4), .inl (cy 0, 100, .inl (fun _ => 0))) :: (((b6 5), .inr (6, [.ref (b6 4)])) :: ((o5, .inr (5, [.ref (b6 5), .ref (b6 3), .ref (b6 1), .int 0])) :: ((b4, .inl (cy 0, 8, .inl (fun _ => 0))) :: ((o3, .inr (6, [.ref b4])) :: ((b2, .inl (cy 0, 8, .inl (fun _ => 0))) :: ((o1, .inr (6, [.ref b2])) :: ((h, .inr (3, [.ref o1, .ref o3, .ref o5, .ref o7, .null, .int 0, .int 0, .int 0, .int 0, .int 0])) :: rest))))))))))))))))))))))))))))))) X hin inX1 tyX1 tyX1_ok nmX1 hw 30 rfl rfl 3 (by decide) (List.mem_of_getElem? (i := 16) rfl) rfl rfl rfl rfl rfl (Nat.le_of_ble_eq_true rfl) rfl dX1_init_49 (fun H locs hw => ?_)
  refine lv_aload_n hx hb dX1_init_52 rfl (lv_at hl 0 rfl) ?_
  refine g_new (ci := 4) (fs := [.null, .null, .null, .null, .null, .null, .int 0, .null, .int 0, .long 0]) (C := RX2) (T := TX2) (N := 10) X inX2 tyX2 tyX2_ok (List.mem_of_getElem? (i := 17) rfl) (List.mem_of_getElem? (i := 18) rfl) (List.mem_of_getElem? (i := 19) rfl) hw rfl (by decide) (Nat.le_of_ble_eq_true rfl) (Nat.le_of_ble_eq_true rfl) dX1_init_53 (fun o9 H hw => ?_)
  refine lv_dup hx hb dX1_init_56 rfl ?_
  refine gk_IN (rest := [.ref o9, .ref h]) X hN (c_X2_init l D cy o9 (((b8 0), .inl (cy 0, 100, .inl (fun _ => 0))) :: (((b8 1), .inr (6, [.ref (b8 0)])) :: (((b8 2), .inl (cy 0, 100, .inl (fun _ => 0))) :: (((b8 3), .inr (6, [.ref (b8 2)])) :: (((b8 4), .inl (cy 0, 100, .inl (fun _ => 0))) :: (((b8 5), .inr (6, [.ref (b8 4)])) :: (((b8 6), .inl (cy 0, 100, .inl (fun _ => 0))) :: (((b8 7), .inr (6, [.ref (b8 6)])) :: (((b8 8), .inl (cy 0, 100, .inl (fun _ => 0))) :: (((b8 9), .inr (6, [.ref (b8 8)])) :: (((b8 10), .inl (cy 0, 100, .inl (fun _ => 0))) :: (((b8 11), .inr (6, [.ref (b8 10)])) :: (((b8 12), .inl (cy 0, 100, .inl (fun _ => 0))) :: (((b8 13), .inr (6, [.ref (b8 12)])) :: (((b8 14), .inl (cy 0, 100, .inl (fun _ => 0))) :: (((b8 15), .inr (6, [.ref (b8 14)])) :: (((b8 16), .inl (cy 0, 100, .inl (fun _ => 0))) :: (((b8 17), .inr (6, [.ref (b8 16)])) :: ((o7, .inr (2, [.ref (b8 17), .ref (b8 15), .ref (b8 13), .ref (b8 11), .ref (b8 9), .ref (b8 7), .ref (b8 5), .ref (b8 3), .ref (b8 1), .int 0])) :: (((b6 0), .inl (cy 0, 100, .inl (fun _ => 0))) :: (((b6 1), .inr (6, [.ref (b6 0)])) :: (((b6 2), .inl (cy 0, 100, .inl (fun _ => 0))) :: (((b6 3), .inr (6, [.ref (b6 2)])) :: (((b6 4), .inl (cy 0, 100, .inl (fun _ => 0))) :: (((b6 5), .inr (6, [.ref (b6 4)])) :: ((o5, .inr (5, [.ref (b6 5), .ref (b6 3), .ref (b6 1), .int 0])) :: ((b4, .inl (cy 0, 8, .inl (fun _ => 0))) :: ((o3, .inr (6, [.ref b4])) :: ((b2, .inl (cy 0, 8, .inl (fun _ => 0))) :: ((o1, .inr (6, [.ref b2])) :: ((h, .inr (3, [.ref o1, .ref o3, .ref o5, .ref o7, .null, .int 0, .int 0, .int 0, .int 0, .int 0])) :: rest)))))))))))))))))))))))))))))))) gy_X2_init ggX1_init_X2_init (List.mem_of_getElem? (i := 19) rfl) hN.2.2.1 (List.mem_of_getElem? (i := 55) rfl) rfl ⟨rfl, rfl, Nat.le_of_ble_eq_true rfl, Nat.le_of_ble_eq_true rfl⟩ rfl hl rfl (Nat.le_of_ble_eq_true rfl) dX1_init_57 ⟨Nat.le_of_ble_eq_true rfl, Nat.le_of_ble_eq_true rfl⟩ hw (fun b10 H locs _ hw => ?_)
  have hw : gw D A s.heap (((b10 0), .inl (cy 0, 3, .inl (fun _ => 0))) :: (((b10 1), .inr (6, [.ref (b10 0)])) :: (((b10 2), .inl (cy 0, 60, .inl (fun _ => 0))) :: (((b10 3), .inr (6, [.ref (b10 2)])) :: (((b10 4), .inl (cy 0, 60, .inl (fun _ => 0))) :: (((b10 5), .inr (6, [.ref (b10 4)])) :: (((b10 6), .inl (cy 0, 60, .inl (fun _ => 0))) :: (((b10 7), .inr (6, [.ref (b10 6)])) :: (((b10 8), .inl (cy 0, 60, .inl (fun _ => 0))) :: (((b10 9), .inr (6, [.ref (b10 8)])) :: (((b10 10), .inl (cy 0, 60, .inl (fun _ => 0))) :: (((b10 11), .inr (6, [.ref (b10 10)])) :: (((b10 12), .inl (cy 0, 60, .inl (fun _ => 0))) :: (((b10 13), .inr (6, [.ref (b10 12)])) :: ((o9, .inr (4, [.ref (b10 13), .ref (b10 11), .ref (b10 9), .ref (b10 7), .ref (b10 5), .ref (b10 3), .int 0, .ref (b10 1), .int 0, .long 0])) :: (((b8 0), .inl (cy 0, 100, .inl (fun _ => 0))) :: (((b8 1), .inr (6, [.ref (b8 0)])) :: (((b8 2), .inl (cy 0, 100, .inl (fun _ => 0))) :: (((b8 3), .inr (6, [.ref (b8 2)])) :: (((b8 4), .inl (cy 0, 100, .inl (fun _ => 0))) :: (((b8 5), .inr (6, [.ref (b8 4)])) :: (((b8 6), .inl (cy 0, 100, .inl (fun _ => 0))) :: (((b8 7), .inr (6, [.ref (b8 6)])) :: (((b8 8), .inl (cy 0, 100, .inl (fun _ => 0))) :: (((b8 9), .inr (6, [.ref (b8 8)])) :: (((b8 10), .inl (cy 0, 100, .inl (fun _ => 0))) :: (((b8 11), .inr (6, [.ref (b8 10)])) :: (((b8 12), .inl (cy 0, 100, .inl (fun _ => 0))) :: (((b8 13), .inr (6, [.ref (b8 12)])) :: (((b8 14), .inl (cy 0, 100, .inl (fun _ => 0))) :: (((b8 15), .inr (6, [.ref (b8 14)])) :: (((b8 16), .inl (cy 0, 100, .inl (fun _ => 0))) :: (((b8 17), .inr (6, [.ref (b8 16)])) :: ((o7, .inr (2, [.ref (b8 17), .ref (b8 15), .ref (b8 13), .ref (b8 11), .ref (b8 9), .ref (b8 7), .ref (b8 5), .ref (b8 3), .ref (b8 1), .int 0])) :: (((b6 0), .inl (cy 0, 100, .inl (fun _ => 0))) :: (((b6 1), .inr (6, [.ref (b6 0)])) :: (((b6 2), .inl (cy 0, 100, .inl (fun _ => 0))) :: (((b6 3), .inr (6, [.ref (b6 2)])) :: (((b6 4), .inl (cy 0, 100, .inl (fun _ => 0))) :: (((b6 5), .inr (6, [.ref (b6 4)])) :: ((o5, .inr (5, [.ref (b6 5), .ref (b6 3), .ref (b6 1), .int 0])) :: ((b4, .inl (cy 0, 8, .inl (fun _ => 0))) :: ((o3, .inr (6, [.ref b4])) :: ((b2, .inl (cy 0, 8, .inl (fun _ => 0))) :: ((o1, .inr (6, [.ref b2])) :: ((h, .inr (3, [.ref o1, .ref o3, .ref o5, .ref o7, .null, .int 0, .int 0, .int 0, .int 0, .int 0])) :: rest)))))))))))))))))))))))))))))))))))))))))))))) H locs := hw
  refine g_putF (v := .ref o9) (C := RX1) (T := TX1) (N := 10) (ci := 3) (w' := ((b10 0), .inl (cy 0, 3, .inl (fun _ => 0))) :: (((b10 1), .inr (6, [.ref (b10 0)])) :: (((b10 2), .inl (cy 0, 60, .inl (fun _ => 0))) :: (((b10 3), .inr (6, [.ref (b10 2)])) :: (((b10 4), .inl (cy 0, 60, .inl (fun _ => 0))) :: (((b10 5), .inr (6, [.ref (b10 4)])) :: (((b10 6), .inl (cy 0, 60, .inl (fun _ => 0))) :: (((b10 7), .inr (6, [.ref (b10 6)])) :: (((b10 8), .inl (cy 0, 60, .inl (fun _ => 0))) :: (((b10 9), .inr (6, [.ref (b10 8)])) :: (((b10 10), .inl (cy 0, 60, .inl (fun _ => 0))) :: (((b10 11), .inr (6, [.ref (b10 10)])) :: (((b10 12), .inl (cy 0, 60, .inl (fun _ => 0))) :: (((b10 13), .inr (6, [.ref (b10 12)])) :: ((o9, .inr (4, [.ref (b10 13), .ref (b10 11), .ref (b10 9), .ref (b10 7), .ref (b10 5), .ref (b10 3), .int 0, .ref (b10 1), .int 0, .long 0])) :: (((b8 0), .inl (cy 0, 100, .inl (fun _ => 0))) :: (((b8 1), .inr (6, [.ref (b8 0)])) :: (((b8 2), .inl (cy 0, 100, .inl (fun _ => 0))) :: (((b8 3), .inr (6, [.ref (b8 2)])) :: (((b8 4), .inl (cy 0, 100, .inl (fun _ => 0))) :: (((b8 5), .inr (6, [.ref (b8 4)])) :: (((b8 6), .inl (cy 0, 100, .inl (fun _ => 0))) :: (((b8 7), .inr (6, [.ref (b8 6)])) :: (((b8 8), .inl (cy 0, 100, .inl (fun _ => 0))) :: (((b8 9), .inr (6, [.ref (b8 8)])) :: (((b8 10), .inl (cy 0, 100, .inl (fun _ => 0))) :: (((b8 11), .inr (6, [.ref (b8 10)])) :: (((b8 12), .inl (cy 0, 100, .inl (fun _ => 0))) :: (((b8 13), .inr (6, [.ref (b8 12)])) :: (((b8 14), .inl (cy 0, 100, .inl (fun _ => 0))) :: (((b8 15), .inr (6, [.ref (b8 14)])) :: (((b8 16), .inl (cy 0, 100, .inl (fun _ => 0))) :: (((b8 17), .inr (6, [.ref (b8 16)])) :: ((o7, .inr (2, [.ref (b8 17), .ref (b8 15), .ref (b8 13), .ref (b8 11), .ref (b8 9), .ref (b8 7), .ref (b8 5), .ref (b8 3), .ref (b8 1), .int 0])) :: (((b6 0), .inl (cy 0, 100, .inl (fun _ => 0))) :: (((b6 1), .inr (6, [.ref (b6 0)])) :: (((b6 2), .inl (cy 0, 100, .inl (fun _ => 0))) :: (((b6 3), .inr (6, [.ref (b6 2)])) :: (((b6 4), .inl (cy 0, 100, .inl (fun _ => 0))) :: (((b6 5), .inr (6, [.ref (b6 4)])) :: ((o5, .inr (5, [.ref (b6 5), .ref (b6 3), .ref (b6 1), .int 0])) :: ((b4, .inl (cy 0, 8, .inl (fun _ => 0))) :: ((o3, .inr (6, [.ref b4])) :: ((b2, .inl (cy 0, 8, .inl (fun _ => 0))) :: ((o1, .inr (6, [.ref b2])) :: ((h, .inr (3, [.ref o1, .ref o3, .ref o5, .ref o7, .ref o9, .int 0, .int 0, .int 0, .int 0, .int 0])) :: rest)))))))))))))))))))))))))))))))))))))))))))))) X hin inX1 tyX1 tyX1_ok nmX1 hw 45 rfl rfl 4 (by decide) (List.mem_of_getElem? (i := 20) rfl) rfl rfl rfl rfl rfl (Nat.le_of_ble_eq_true rfl) rfl dX1_init_60 (fun H locs hw => ?_)
  refine lv_aload_n hx hb dX1_init_63 rfl (lv_at hl 0 rfl) ?_
  have hw : gw D A s.heap (GW0 cy (fun k => [(b10 0), (b10 1), (b10 2), (b10 3), (b10 4), (b10 5), (b10 6), (b10 7), (b10 8), (b10 9), (b10 10), (b10 11), (b10 12), (b10 13), o9, (b8 0), (b8 1), (b8 2), (b8 3), (b8 4), (b8 5), (b8 6), (b8 7), (b8 8), (b8 9), (b8 10), (b8 11), (b8 12), (b8 13), (b8 14), (b8 15), (b8 16), (b8 17), o7, (b6 0), (b6 1), (b6 2), (b6 3), (b6 4), (b6 5), o5, b4, o3, b2, o1].getD k 0) h C00 ++ rest) H locs := hw
  refine gcV_v (rest := []) X (c_X1_clear_g l D cy (fun k => [(b10 0), (b10 1), (b10 2), (b10 3), (b10 4), (b10 5), (b10 6), (b10 7), (b10 8), (b10 9), (b10 10), (b10 11), (b10 12), (b10 13), o9, (b8 0), (b8 1), (b8 2), (b8 3), (b8 4), (b8 5), (b8 6), (b8 7), (b8 8), (b8 9), (b8 10), (b8 11), (b8 12), (b8 13), (b8 14), (b8 15), (b8 16), (b8 17), o7, (b6 0), (b6 1), (b6 2), (b6 3), (b6 4), (b6 5), o5, b4, o3, b2, o1].getD k 0) h rest C00) gy_X1_clear gX1_init_X1_clear ⟨rfl, rfl, Nat.le_of_ble_eq_true rfl, Nat.le_of_ble_eq_true rfl⟩ 45 rfl rfl rfl hl rfl (Nat.le_of_ble_eq_true rfl) dX1_init_64 ⟨Nat.le_of_ble_eq_true rfl, Nat.le_of_ble_eq_true rfl⟩ hw (fun u H locs hu hw => ?_)
  have hu : u = F_X1_clear_g C00 := hu
  rw [hu] at hw
  exact hret _ (fun k => [(b10 0), (b10 1), (b10 2), (b10 3), (b10 4), (b10 5), (b10 6), (b10 7), (b10 8), (b10 9), (b10 10), (b10 11), (b10 12), (b10 13), o9, (b8 0), (b8 1), (b8 2), (b8 3), (b8 4), (b8 5), (b8 6), (b8 7), (b8 8), (b8 9), (b8 10), (b8 11), (b8 12), (b8 13), (b8 14), (b8 15), (b8 16), (b8 17), o7, (b6 0), (b6 1), (b6 2), (b6 3), (b6 4), (b6 5), o5, b4, o3, b2, o1].getD k 0) _ _ _ _ _ dX1_init_67 trivial hw (Nat.le_of_ble_eq_true rfl) (Nat.le_of_ble_eq_true rfl)
theorem gy_X6_init : gY yX6_init RX6 cX6_init 1 none wsX6_init 0 := ⟨⟨_, rfl⟩, rfl, by decide +kernel, by decide +kernel, by decide +kernel⟩
abbrev rmX6_init : Room := { frames := 7, cells := 101, slots := 3361, locals := 220 }
def XW0 (cy : Nat → ClassId) (h : Nat) (rest : va_W) (u : (Nat → Nat) × (Nat → Nat) × (Nat → Nat)) : va_W := ((u.2.2 2), .inl (cy 0, 14, .inl (fun _ => 0))) :: (((u.2.2 3), .inr (6, [.ref (u.2.2 2)])) :: (((u.2.2 4), .inl (cy 0, 14, .inl (fun _ => 0))) :: (((u.2.2 5), .inr (6, [.ref (u.2.2 4)])) :: (((u.2.2 6), .inl (cy 0, 14, .inl (fun _ => 0))) :: (((u.2.2 7), .inr (6, [.ref (u.2.2 6)])) :: (((u.2.2 8), .inl (cy 0, 40, .inl (fun _ => 0))) :: (((u.2.2 9), .inr (6, [.ref (u.2.2 8)])) :: (((u.2.2 10), .inr (7, [.ref (u.2.2 9), .int 0, .int 0, .ref (u.2.2 7), .ref (u.2.2 5), .ref (u.2.2 3), .int 0])) :: (GW0 cy u.2.1 (u.2.2 1) C1 ++ (GW0 cy u.1 (u.2.2 0) C1 ++ ((h, .inr (8, [.ref (u.2.2 0), .ref (u.2.2 1), .ref (u.2.2 10), .int 0, .int (-1)])) :: (rest))))))))))))
set_option maxHeartbeats 4000000 in
set_option maxRecDepth 100000 in
theorem c_X6_init (l : Launch) (D : va_G) (cy : Nat → ClassId) (h : Nat) (rest : va_W) : GKv l yX6_init wsX6_init rmX6_init D cy [.ref h] ((h, .inr (8, [.null, .null, .null, .int 0, .int 0])) :: rest) (fun (_ : (Nat → Nat) × (Nat → Nat) × (Nat → Nat)) => True) (XW0 cy h rest) 101 3361 := by
  refine GKv.intro cX6_init 1 RX6 (by decide) rfl rfl rfl (Nat.le_of_ble_eq_true rfl) ?_
  intro p e s m args below meth c A Q ls X hN hin hret hl hw
  have hx := X.1
  have hb := X.2.1
  have hl : lv_has ls 1 [(0, .ref h)] := hl
  have inX1 : ∀ w ∈ wsX10, w ∈ wsX6_init := fun w h => List.mem_cons_of_mem _ (List.mem_append_left _ (List.mem_append_left _ (List.mem_append_left _ (List.mem_append_left _ (List.mem_append_left _ (List.mem_append_left _ (List.mem_append_left _ (List.mem_append_right _ h))))))))
  have inX5 : ∀ w ∈ wsX50, w ∈ wsX6_init := fun w h => List.mem_cons_of_mem _ (List.mem_append_left _ (List.mem_append_left _ (List.mem_append_left _ (List.mem_append_left _ (List.mem_append_left _ (List.mem_append_right _ h))))))
  have inX6 : ∀ w ∈ wsX60, w ∈ wsX6_init := fun w h => List.mem_cons_of_mem _ (List.mem_append_left _ (List.mem_append_left _ (List.mem_append_left _ (List.mem_append_left _ (List.mem_append_left _ (List.mem_append_left _ (List.mem_append_right _ h)))))))
  refine lv_aload_n hx hb dX6_init_0 rfl (lv_at hl 0 rfl) ?_
  refine W.objInit hx hb X.2.2.2.2.1 (X.2.2.2.2.2.1 _ (List.mem_of_getElem? (i := 1) rfl)) (X.2.2.2.2.2.1 _ (List.mem_of_getElem? (i := 2) rfl)) (X.2.2.2.2.2.1 _ (List.mem_of_getElem? (i := 3) rfl)) rfl (hl.1.trans X.2.2.2.1.symm) rfl dX6_init_1 (Nat.le_of_ble_eq_true rfl) (Nat.le_of_ble_eq_true rfl) ?_
  refine W.eq (g2 := F0 m 4 ls []) rfl ?_
  refine lv_aload_n hx hb dX6_init_4 rfl (lv_at hl 0 rfl) ?_
  refine g_new (ci := 3) (fs := [.null, .null, .null, .null, .null, .int 0, .int 0, .int 0, .int 0, .int 0]) (C := RX1) (T := TX1) (N := 10) X inX1 tyX1 tyX1_ok (List.mem_of_getElem? (i := 4) rfl) (List.mem_of_getElem? (i := 5) rfl) (List.mem_of_getElem? (i := 6) rfl) hw rfl (by decide) (Nat.le_of_ble_eq_true rfl) (Nat.le_of_ble_eq_true rfl) dX6_init_5 (fun o1 H hw => ?_)
  refine lv_dup hx hb dX6_init_8 rfl ?_
  refine gk_I (rest := [.ref o1, .ref h]) X hN (c_X1_init l D cy o1 ((h, .inr (8, [.null, .null, .null, .int 0, .int 0])) :: rest)) gy_X1_init ggX6_init_X1_init (List.mem_of_getElem? (i := 6) rfl) (List.mem_of_getElem? (i := 15) rfl) (List.mem_of_getElem? (i := 16) rfl) rfl ⟨rfl, rfl, Nat.le_of_ble_eq_true rfl, Nat.le_of_ble_eq_true rfl⟩ rfl hl rfl (Nat.le_of_ble_eq_true rfl) dX6_init_9 ⟨Nat.le_of_ble_eq_true rfl, Nat.le_of_ble_eq_true rfl⟩ hw (fun b2 H locs _ hw => ?_)
  have hw : gw D A s.heap (GW0 cy b2 o1 C1 ++ ((h, .inr (8, [.null, .null, .null, .int 0, .int 0])) :: (rest))) H locs := hw
  refine g_putF (v := .ref o1) (C := RX6) (T := TX6) (N := 5) (ci := 8) (w' := GW0 cy b2 o1 C1 ++ ((h, .inr (8, [.ref o1, .null, .null, .int 0, .int 0])) :: (rest))) X hin inX6 tyX6 tyX6_ok nmX6 hw 46 rfl rfl 0 (by decide) (List.mem_of_getElem? (i := 7) rfl) rfl rfl rfl rfl rfl (Nat.le_of_ble_eq_true rfl) rfl dX6_init_12 (fun H locs hw => ?_)
  refine lv_aload_n hx hb dX6_init_15 rfl (lv_at hl 0 rfl) ?_
  refine g_new (ci := 3) (fs := [.null, .null, .null, .null, .null, .int 0, .int 0, .int 0, .int 0, .int 0]) (C := RX1) (T := TX1) (N := 10) X inX1 tyX1 tyX1_ok (List.mem_of_getElem? (i := 4) rfl) (List.mem_of_getElem? (i := 5) rfl) (List.mem_of_getElem? (i := 6) rfl) hw rfl (by decide) (Nat.le_of_ble_eq_true rfl) (Nat.le_of_ble_eq_true rfl) dX6_init_16 (fun o3 H hw => ?_)
  refine lv_dup hx hb dX6_init_19 rfl ?_
  refine gk_I (rest := [.ref o3, .ref h]) X hN (c_X1_init l D cy o3 (GW0 cy b2 o1 C1 ++ ((h, .inr (8, [.ref o1, .null, .null, .int 0, .int 0])) :: rest))) gy_X1_init ggX6_init_X1_init (List.mem_of_getElem? (i := 6) rfl) (List.mem_of_getElem? (i := 15) rfl) (List.mem_of_getElem? (i := 16) rfl) rfl ⟨rfl, rfl, Nat.le_of_ble_eq_true rfl, Nat.le_of_ble_eq_true rfl⟩ rfl hl rfl (Nat.le_of_ble_eq_true rfl) dX6_init_20 ⟨Nat.le_of_ble_eq_true rfl, Nat.le_of_ble_eq_true rfl⟩ hw (fun b4 H locs _ hw => ?_)
  have hw : gw D A s.heap (GW0 cy b4 o3 C1 ++ (GW0 cy b2 o1 C1 ++ ((h, .inr (8, [.ref o1, .null, .null, .int 0, .int 0])) :: (rest)))) H locs := hw
  refine g_putF (v := .ref o3) (C := RX6) (T := TX6) (N := 5) (ci := 8) (w' := GW0 cy b4 o3 C1 ++ (GW0 cy b2 o1 C1 ++ ((h, .inr (8, [.ref o1, .ref o3, .null, .int 0, .int 0])) :: (rest)))) X hin inX6 tyX6 tyX6_ok nmX6 hw 92 rfl rfl 1 (by decide) (List.mem_of_getElem? (i := 8) rfl) rfl rfl rfl rfl rfl (Nat.le_of_ble_eq_true rfl) rfl dX6_init_23 (fun H locs hw => ?_)
  refine lv_aload_n hx hb dX6_init_26 rfl (lv_at hl 0 rfl) ?_
  refine g_new (ci := 7) (fs := [.null, .int 0, .int 0, .null, .null, .null, .int 0]) (C := RX5) (T := TX5) (N := 7) X inX5 tyX5 tyX5_ok (List.mem_of_getElem? (i := 9) rfl) (List.mem_of_getElem? (i := 10) rfl) (List.mem_of_getElem? (i := 11) rfl) hw rfl (by decide) (Nat.le_of_ble_eq_true rfl) (Nat.le_of_ble_eq_true rfl) dX6_init_27 (fun o5 H hw => ?_)
  refine lv_dup hx hb dX6_init_30 rfl ?_
  refine gk_IN (rest := [.ref o5, .ref h]) X hN (c_X5_init l D cy o5 (GW0 cy b4 o3 C1 ++ (GW0 cy b2 o1 C1 ++ ((h, .inr (8, [.ref o1, .ref o3, .null, .int 0, .int 0])) :: rest)))) gy_X5_init ggX6_init_X5_init (List.mem_of_getElem? (i := 11) rfl) hN.2.2.2 (List.mem_of_getElem? (i := 105) rfl) rfl ⟨rfl, rfl, Nat.le_of_ble_eq_true rfl, Nat.le_of_ble_eq_true rfl⟩ rfl hl rfl (Nat.le_of_ble_eq_true rfl) dX6_init_31 ⟨Nat.le_of_ble_eq_true rfl, Nat.le_of_ble_eq_true rfl⟩ hw (fun b6 H locs _ hw => ?_)
  have hw : gw D A s.heap (((b6 0), .inl (cy 0, 14, .inl (fun _ => 0))) :: (((b6 1), .inr (6, [.ref (b6 0)])) :: (((b6 2), .inl (cy 0, 14, .inl (fun _ => 0))) :: (((b6 3), .inr (6, [.ref (b6 2)])) :: (((b6 4), .inl (cy 0, 14, .inl (fun _ => 0))) :: (((b6 5), .inr (6, [.ref (b6 4)])) :: (((b6 6), .inl (cy 0, 40, .inl (fun _ => 0))) :: (((b6 7), .inr (6, [.ref (b6 6)])) :: ((o5, .inr (7, [.ref (b6 7), .int 0, .int 0, .ref (b6 5), .ref (b6 3), .ref (b6 1), .int 0])) :: (GW0 cy b4 o3 C1 ++ (GW0 cy b2 o1 C1 ++ ((h, .inr (8, [.ref o1, .ref o3, .null, .int 0, .int 0])) :: rest)))))))))))) H locs := hw
  refine g_putF (v := .ref o5) (C := RX6) (T := TX6) (N := 5) (ci := 8) (w' := ((b6 0), .inl (cy 0, 14, .inl (fun _ => 0))) :: (((b6 1), .inr (6, [.ref (b6 0)])) :: (((b6 2), .inl (cy 0, 14, .inl (fun _ => 0))) :: (((b6 3), .inr (6, [.ref (b6 2)])) :: (((b6 4), .inl (cy 0, 14, .inl (fun _ => 0))) :: (((b6 5), .inr (6, [.ref (b6 4)])) :: (((b6 6), .inl (cy 0, 40, .inl (fun _ => 0))) :: (((b6 7), .inr (6, [.ref (b6 6)])) :: ((o5, .inr (7, [.ref (b6 7), .int 0, .int 0, .ref (b6 5), .ref (b6 3), .ref (b6 1), .int 0])) :: (GW0 cy b4 o3 C1 ++ (GW0 cy b2 o1 C1 ++ ((h, .inr (8, [.ref o1, .ref o3, .ref o5, .int 0, .int 0])) :: (rest))))))))))))) X hin inX6 tyX6 tyX6_ok nmX6 hw 101 rfl rfl 2 (by decide) (List.mem_of_getElem? (i := 12) rfl) rfl rfl rfl rfl rfl (Nat.le_of_ble_eq_true rfl) rfl dX6_init_34 (fun H locs hw => ?_)
  refine lv_aload_n hx hb dX6_init_37 rfl (lv_at hl 0 rfl) ?_
  refine lv_iconst (v := 0) hx hb dX6_init_38 (by decide) ?_
  refine g_put (v := .int 0) (C := RX6) (T := TX6) (N := 5) (ci := 8) (w' := ((b6 0), .inl (cy 0, 14, .inl (fun _ => 0))) :: (((b6 1), .inr (6, [.ref (b6 0)])) :: (((b6 2), .inl (cy 0, 14, .inl (fun _ => 0))) :: (((b6 3), .inr (6, [.ref (b6 2)])) :: (((b6 4), .inl (cy 0, 14, .inl (fun _ => 0))) :: (((b6 5), .inr (6, [.ref (b6 4)])) :: (((b6 6), .inl (cy 0, 40, .inl (fun _ => 0))) :: (((b6 7), .inr (6, [.ref (b6 6)])) :: ((o5, .inr (7, [.ref (b6 7), .int 0, .int 0, .ref (b6 5), .ref (b6 3), .ref (b6 1), .int 0])) :: (GW0 cy b4 o3 C1 ++ (GW0 cy b2 o1 C1 ++ ((h, .inr (8, [.ref o1, .ref o3, .ref o5, .int 0, .int 0])) :: (rest))))))))))))) X inX6 tyX6 tyX6_ok nmX6 hw 101 rfl rfl 3 (by decide) (List.mem_of_getElem? (i := 13) rfl) rfl rfl rfl rfl (Nat.le_of_ble_eq_true rfl) rfl dX6_init_39 (fun H locs hw => ?_)
  refine lv_aload_n hx hb dX6_init_42 rfl (lv_at hl 0 rfl) ?_
  refine lv_iconst (v := (-1)) hx hb dX6_init_43 (by decide) ?_
  refine g_put (v := .int (-1)) (C := RX6) (T := TX6) (N := 5) (ci := 8) (w' := ((b6 0), .inl (cy 0, 14, .inl (fun _ => 0))) :: (((b6 1), .inr (6, [.ref (b6 0)])) :: (((b6 2), .inl (cy 0, 14, .inl (fun _ => 0))) :: (((b6 3), .inr (6, [.ref (b6 2)])) :: (((b6 4), .inl (cy 0, 14, .inl (fun _ => 0))) :: (((b6 5), .inr (6, [.ref (b6 4)])) :: (((b6 6), .inl (cy 0, 40, .inl (fun _ => 0))) :: (((b6 7), .inr (6, [.ref (b6 6)])) :: ((o5, .inr (7, [.ref (b6 7), .int 0, .int 0, .ref (b6 5), .ref (b6 3), .ref (b6 1), .int 0])) :: (GW0 cy b4 o3 C1 ++ (GW0 cy b2 o1 C1 ++ ((h, .inr (8, [.ref o1, .ref o3, .ref o5, .int 0, .int (-1)])) :: (rest))))))))))))) X inX6 tyX6 tyX6_ok nmX6 hw 101 rfl rfl 4 (by decide) (List.mem_of_getElem? (i := 14) rfl) rfl rfl rfl rfl (Nat.le_of_ble_eq_true rfl) rfl dX6_init_44 (fun H locs hw => ?_)
  exact hret _ (b2, b4, fun k => [o1, o3, (b6 0), (b6 1), (b6 2), (b6 3), (b6 4), (b6 5), (b6 6), (b6 7), o5].getD k 0) _ _ _ _ _ dX6_init_47 trivial hw (Nat.le_of_ble_eq_true rfl) (Nat.le_of_ble_eq_true rfl)
