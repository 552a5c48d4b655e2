theorem gy_X6_reset : gY yX6_reset RX6 cX6_reset 2 (some .int) wsX6_reset 0 := ⟨⟨_, rfl⟩, rfl, by decide +kernel, by decide +kernel, by decide +kernel⟩
def F_X6_reset (C : CS) : Int32 × CS := (bnd (F_X1_clear C) (fun u2 => (C.2.1 5, u2)))
abbrev rmX6_reset : Room := { frames := 3, cells := 0, slots := 0, locals := 62 }
set_option maxHeartbeats 4000000 in
set_option maxRecDepth 100000 in
theorem c_X6_reset (l : Launch) (D : va_G) (cy : Nat → ClassId) (ad : Nat → Nat) (rest : va_W) (C : CS) : GMi l yX6_reset wsX6_reset rmX6_reset D cy [.ref (ad 92)] (CW cy ad C ++ rest) (fun (r : Int32) (u : CS) => r = (F_X6_reset C).1 ∧ u = (F_X6_reset C).2) (fun u => CW cy ad u ++ rest) := by
  refine GMi.intro cX6_reset 2 RX6 (by decide) rfl rfl (Nat.le_of_ble_eq_true rfl) ?_
  intro p e s m args below meth c A Q ls X hret hl hw
  have hx := X.1
  have hb := X.2.1
  have hl : lv_has ls 2 [(0, .ref (ad 92))] := hl
  have inX1 : ∀ w ∈ wsX10, w ∈ wsX6_reset := fun w h => List.mem_cons_of_mem _ (List.mem_append_left _ (List.mem_append_left _ (List.mem_append_left _ (List.mem_append_left _ (List.mem_append_left _ (List.mem_append_right _ h))))))
  have inX3 : ∀ w ∈ wsX30, w ∈ wsX6_reset := fun w h => List.mem_cons_of_mem _ (List.mem_append_left _ (List.mem_append_left _ (List.mem_append_left _ (List.mem_append_left _ (List.mem_append_right _ h)))))
  have inX6 : ∀ w ∈ wsX60, w ∈ wsX6_reset := fun w h => List.mem_cons_of_mem _ (List.mem_append_left _ (List.mem_append_left _ (List.mem_append_left _ (List.mem_append_left _ (List.mem_append_left _ (List.mem_append_left _ (List.mem_append_right _ h)))))))
  obtain ⟨sp, hsp⟩ : ∃ sp, sp = F_X6_reset C := ⟨_, rfl⟩
  have hF := hsp.trans (F_X6_reset.eq_1 C)
  refine lv_aload_n hx hb dX6_reset_0 rfl (lv_at hl 0 rfl) ?_
  refine g_get (v := .ref (ad 93)) (C := RX6) (T := TX6) (N := 5) (ci := 8) X inX6 hw 92 rfl rfl 0 (by decide) (List.mem_of_getElem? (i := 1) rfl) rfl rfl dX6_reset_1 ?_
  refine g_get (v := .ref (ad 94)) (C := RX1) (T := TX1) (N := 10) (ci := 3) X inX1 hw 93 rfl rfl 2 (by decide) (List.mem_of_getElem? (i := 2) rfl) rfl rfl dX6_reset_4 ?_
  refine g_get (v := .int (C.2.1 5)) (C := RX3) (T := TX3) (N := 4) (ci := 5) X inX3 hw 94 rfl rfl 3 (by decide) (List.mem_of_getElem? (i := 3) rfl) rfl rfl dX6_reset_7 ?_
  refine lv_istore_n (lv' := [(1, .int (C.2.1 5)), (0, .ref (ad 92))]) hx hb dX6_reset_10 rfl hl (by decide) rfl (fun ls hl => ?_)
  refine lv_aload_n hx hb dX6_reset_11 rfl (lv_at hl 1 rfl) ?_
  refine g_get (v := .ref (ad 93)) (C := RX6) (T := TX6) (N := 5) (ci := 8) X inX6 hw 92 rfl rfl 0 (by decide) (List.mem_of_getElem? (i := 1) rfl) rfl rfl dX6_reset_12 ?_
  refine gcV_v (rest := []) X (c_X1_clear l D cy ad rest C) gy_X1_clear gX6_reset_X1_clear ⟨rfl, rfl, Nat.le_of_ble_eq_true rfl, Nat.le_of_ble_eq_true rfl⟩ 93 rfl rfl rfl hl rfl (Nat.le_of_ble_eq_true rfl) dX6_reset_15 ⟨Nat.zero_le _, Nat.zero_le _⟩ hw (fun u2 H locs hu2 hw => ?_)
  have hu2 : u2 = F_X1_clear C := hu2
  have hF := hF.trans (bnd_eq hu2)
  refine lv_iload_n hx hb dX6_reset_18 rfl (lv_at hl 0 rfl) ?_
  exact hret _ _ _ _ _ _ dX6_reset_19 ⟨congrArg Prod.fst (hF.symm.trans hsp), congrArg Prod.snd (hF.symm.trans hsp)⟩ hw
theorem gy_X6_watermark : gY yX6_watermark RX6 cX6_watermark 1 (some .int) wsX6_watermark 0 := ⟨⟨_, rfl⟩, rfl, by decide +kernel, by decide +kernel, by decide +kernel⟩
def F_X6_watermark (C : CS) : Int32 := C.2.1 2
abbrev rmX6_watermark : Room := { frames := 0, cells := 0, slots := 0, locals := 0 }
set_option maxHeartbeats 4000000 in
set_option maxRecDepth 100000 in
theorem c_X6_watermark (l : Launch) (D : va_G) (cy : Nat → ClassId) (ad : Nat → Nat) (rest : va_W) (C : CS) : GMi l yX6_watermark wsX6_watermark rmX6_watermark D cy [.ref (ad 92)] (CW cy ad C ++ rest) (fun (r : Int32) (_ : Unit) => r = F_X6_watermark C) (fun _ => CW cy ad C ++ rest) := by
  refine GMi.intro cX6_watermark 1 RX6 (by decide) rfl rfl (Nat.le_of_ble_eq_true rfl) ?_
  intro p e s m args below meth c A Q ls X hret hl hw
  have hx := X.1
  have hb := X.2.1
  have hl : lv_has ls 1 [(0, .ref (ad 92))] := hl
  have inX1 : ∀ w ∈ wsX10, w ∈ wsX6_watermark := fun w h => List.mem_cons_of_mem _ (List.mem_append_right _ h)
  have inX6 : ∀ w ∈ wsX60, w ∈ wsX6_watermark := fun w h => List.mem_cons_of_mem _ (List.mem_append_left _ (List.mem_append_right _ h))
  obtain ⟨sp, hsp⟩ : ∃ sp, sp = F_X6_watermark C := ⟨_, rfl⟩
  have hF := hsp.trans (F_X6_watermark.eq_1 C)
  refine lv_aload_n hx hb dX6_watermark_0 rfl (lv_at hl 0 rfl) ?_
  refine g_get (v := .ref (ad 93)) (C := RX6) (T := TX6) (N := 5) (ci := 8) X inX6 hw 92 rfl rfl 0 (by decide) (List.mem_of_getElem? (i := 1) rfl) rfl rfl dX6_watermark_1 ?_
  refine g_get (v := .int (C.2.1 2)) (C := RX1) (T := TX1) (N := 10) (ci := 3) X inX1 hw 93 rfl rfl 7 (by decide) (List.mem_of_getElem? (i := 2) rfl) rfl rfl dX6_watermark_4 ?_
  exact hret _ _ () _ _ _ dX6_watermark_7 (hF.symm.trans hsp) hw
theorem gy_X6_lateCount : gY yX6_lateCount RX6 cX6_lateCount 1 (some .int) wsX6_lateCount 0 := ⟨⟨_, rfl⟩, rfl, by decide +kernel, by decide +kernel, by decide +kernel⟩
def F_X6_lateCount (C : CS) : Int32 := C.2.1 3
abbrev rmX6_lateCount : Room := { frames := 0, cells := 0, slots := 0, locals := 0 }
set_option maxHeartbeats 4000000 in
set_option maxRecDepth 100000 in
theorem c_X6_lateCount (l : Launch) (D : va_G) (cy : Nat → ClassId) (ad : Nat → Nat) (rest : va_W) (C : CS) : GMi l yX6_lateCount wsX6_lateCount rmX6_lateCount D cy [.ref (ad 92)] (CW cy ad C ++ rest) (fun (r : Int32) (_ : Unit) => r = F_X6_lateCount C) (fun _ => CW cy ad C ++ rest) := by
  refine GMi.intro cX6_lateCount 1 RX6 (by decide) rfl rfl (Nat.le_of_ble_eq_true rfl) ?_
  intro p e s m args below meth c A Q ls X hret hl hw
  have hx := X.1
  have hb := X.2.1
  have hl : lv_has ls 1 [(0, .ref (ad 92))] := hl
  have inX1 : ∀ w ∈ wsX10, w ∈ wsX6_lateCount := fun w h => List.mem_cons_of_mem _ (List.mem_append_right _ h)
  have inX6 : ∀ w ∈ wsX60, w ∈ wsX6_lateCount := fun w h => List.mem_cons_of_mem _ (List.mem_append_left _ (List.mem_append_right _ h))
  obtain ⟨sp, hsp⟩ : ∃ sp, sp = F_X6_lateCount C := ⟨_, rfl⟩
  have hF := hsp.trans (F_X6_lateCount.eq_1 C)
  refine lv_aload_n hx hb dX6_lateCount_0 rfl (lv_at hl 0 rfl) ?_
  refine g_get (v := .ref (ad 93)) (C := RX6) (T := TX6) (N := 5) (ci := 8) X inX6 hw 92 rfl rfl 0 (by decide) (List.mem_of_getElem? (i := 1) rfl) rfl rfl dX6_lateCount_1 ?_
  refine g_get (v := .int (C.2.1 3)) (C := RX1) (T := TX1) (N := 10) (ci := 3) X inX1 hw 93 rfl rfl 8 (by decide) (List.mem_of_getElem? (i := 2) rfl) rfl rfl dX6_lateCount_4 ?_
  exact hret _ _ () _ _ _ dX6_lateCount_7 (hF.symm.trans hsp) hw
theorem gy_X6_isLate : gY yX6_isLate RX6 cX6_isLate 2 (some .boolean) wsX6_isLate 1 := ⟨⟨_, rfl⟩, rfl, by decide +kernel, by decide +kernel, by decide +kernel⟩
def F_X6_isLate (C : CS) (q1 : Int32) : Int32 := (bnd (F_X1_comesLate C q1 (C.2.1 2)) (fun r1 => r1))
abbrev rmX6_isLate : Room := { frames := 1, cells := 0, slots := 0, locals := 22 }
set_option maxHeartbeats 4000000 in
set_option maxRecDepth 100000 in
theorem c_X6_isLate (l : Launch) (D : va_G) (cy : Nat → ClassId) (ad : Nat → Nat) (rest : va_W) (C : CS) (q1 : Int32) : GMi l yX6_isLate wsX6_isLate rmX6_isLate D cy [.ref (ad 92), .int q1] (CW cy ad C ++ rest) (fun (r : Int32) (_ : Unit) => r = F_X6_isLate C q1 ∧ (r = 0 ∨ r = 1)) (fun _ => CW cy ad C ++ rest) := by
  refine GMz.intro cX6_isLate 2 RX6 (by decide) rfl rfl (Nat.le_of_ble_eq_true rfl) ?_
  intro p e s m args below meth c A Q ls X hret hl hw
  have hx := X.1
  have hb := X.2.1
  have hl : lv_has ls 2 [(0, .ref (ad 92)), (1, .int q1)] := hl
  have inX1 : ∀ w ∈ wsX10, w ∈ wsX6_isLate := fun w h => List.mem_cons_of_mem _ (List.mem_append_right _ h)
  have inX6 : ∀ w ∈ wsX60, w ∈ wsX6_isLate := fun w h => List.mem_cons_of_mem _ (List.mem_append_left _ (List.mem_append_right _ h))
  obtain ⟨sp, hsp⟩ : ∃ sp, sp = F_X6_isLate C q1 := ⟨_, rfl⟩
  have hF := hsp.trans (F_X6_isLate.eq_1 C q1)
  refine lv_aload_n hx hb dX6_isLate_0 rfl (lv_at hl 0 rfl) ?_
  refine g_get (v := .ref (ad 93)) (C := RX6) (T := TX6) (N := 5) (ci := 8) X inX6 hw 92 rfl rfl 0 (by decide) (List.mem_of_getElem? (i := 1) rfl) rfl rfl dX6_isLate_1 ?_
  refine lv_iload_n hx hb dX6_isLate_4 rfl (lv_at hl 1 rfl) ?_
  refine lv_aload_n hx hb dX6_isLate_5 rfl (lv_at hl 0 rfl) ?_
  refine g_get (v := .ref (ad 93)) (C := RX6) (T := TX6) (N := 5) (ci := 8) X inX6 hw 92 rfl rfl 0 (by decide) (List.mem_of_getElem? (i := 1) rfl) rfl rfl dX6_isLate_6 ?_
  refine g_get (v := .int (C.2.1 2)) (C := RX1) (T := TX1) (N := 10) (ci := 3) X inX1 hw 93 rfl rfl 7 (by decide) (List.mem_of_getElem? (i := 2) rfl) rfl rfl dX6_isLate_9 ?_
  refine gcV_i (rest := []) X (c_X1_comesLate l D cy ad rest C q1 (C.2.1 2)) gy_X1_comesLate gX6_isLate_X1_comesLate ⟨rfl, rfl, Nat.le_of_ble_eq_true rfl, Nat.le_of_ble_eq_true rfl⟩ 93 rfl rfl rfl hl rfl (Nat.le_of_ble_eq_true rfl) dX6_isLate_12 ⟨Nat.zero_le _, Nat.zero_le _⟩ hw (fun r1 _ H locs hr1 hw => ?_)
  obtain ⟨hr1, zr1⟩ : r1 = F_X1_comesLate C q1 (C.2.1 2) ∧ (r1 = 0 ∨ r1 = 1) := hr1
  have hF := hF.trans (bnd_eq hr1)
  exact hret _ _ () _ _ _ dX6_isLate_15 zr1 ⟨hF.symm.trans hsp, zr1⟩ hw
theorem gy_X6_recordCount : gY yX6_recordCount RX6 cX6_recordCount 1 (some .int) wsX6_recordCount 0 := ⟨⟨_, rfl⟩, rfl, by decide +kernel, by decide +kernel, by decide +kernel⟩
def F_X6_recordCount (C : CS) : Int32 := C.2.1 5
abbrev rmX6_recordCount : Room := { frames := 0, cells := 0, slots := 0, locals := 0 }
set_option maxHeartbeats 4000000 in
set_option maxRecDepth 100000 in
theorem c_X6_recordCount (l : Launch) (D : va_G) (cy : Nat → ClassId) (ad : Nat → Nat) (rest : va_W) (C : CS) : GMi l yX6_recordCount wsX6_recordCount rmX6_recordCount D cy [.ref (ad 92)] (CW cy ad C ++ rest) (fun (r : Int32) (_ : Unit) => r = F_X6_recordCount C) (fun _ => CW cy ad C ++ rest) := by
  refine GMi.intro cX6_recordCount 1 RX6 (by decide) rfl rfl (Nat.le_of_ble_eq_true rfl) ?_
  intro p e s m args below meth c A Q ls X hret hl hw
  have hx := X.1
  have hb := X.2.1
  have hl : lv_has ls 1 [(0, .ref (ad 92))] := hl
  have inX1 : ∀ w ∈ wsX10, w ∈ wsX6_recordCount := fun w h => List.mem_cons_of_mem _ (List.mem_append_left _ (List.mem_append_right _ h))
  have inX3 : ∀ w ∈ wsX30, w ∈ wsX6_recordCount := fun w h => List.mem_cons_of_mem _ (List.mem_append_right _ h)
  have inX6 : ∀ w ∈ wsX60, w ∈ wsX6_recordCount := fun w h => List.mem_cons_of_mem _ (List.mem_append_left _ (List.mem_append_left _ (List.mem_append_right _ h)))
  obtain ⟨sp, hsp⟩ : ∃ sp, sp = F_X6_recordCount C := ⟨_, rfl⟩
  have hF := hsp.trans (F_X6_recordCount.eq_1 C)
  refine lv_aload_n hx hb dX6_recordCount_0 rfl (lv_at hl 0 rfl) ?_
  refine g_get (v := .ref (ad 93)) (C := RX6) (T := TX6) (N := 5) (ci := 8) X inX6 hw 92 rfl rfl 0 (by decide) (List.mem_of_getElem? (i := 1) rfl) rfl rfl dX6_recordCount_1 ?_
  refine g_get (v := .ref (ad 94)) (C := RX1) (T := TX1) (N := 10) (ci := 3) X inX1 hw 93 rfl rfl 2 (by decide) (List.mem_of_getElem? (i := 2) rfl) rfl rfl dX6_recordCount_4 ?_
  refine g_get (v := .int (C.2.1 5)) (C := RX3) (T := TX3) (N := 4) (ci := 5) X inX3 hw 94 rfl rfl 3 (by decide) (List.mem_of_getElem? (i := 3) rfl) rfl rfl dX6_recordCount_7 ?_
  exact hret _ _ () _ _ _ dX6_recordCount_10 (hF.symm.trans hsp) hw
theorem gy_X6_burstCount : gY yX6_burstCount RX6 cX6_burstCount 1 (some .int) wsX6_burstCount 0 := ⟨⟨_, rfl⟩, rfl, by decide +kernel, by decide +kernel, by decide +kernel⟩
def F_X6_burstCount (C : CS) : Int32 := (bnd (F_X0_countPhase C 0) (fun r1 => (bnd (F_X0_countPhase C 1) (fun r3 => (r1 + r3)))))
abbrev rmX6_burstCount : Room := { frames := 2, cells := 0, slots := 0, locals := 44 }
set_option maxHeartbeats 4000000 in
set_option maxRecDepth 100000 in
theorem c_X6_burstCount (l : Launch) (D : va_G) (cy : Nat → ClassId) (ad : Nat → Nat) (rest : va_W) (C : CS) : GMi l yX6_burstCount wsX6_burstCount rmX6_burstCount D cy [.ref (ad 92)] (CW cy ad C ++ rest) (fun (r : Int32) (_ : Unit) => r = F_X6_burstCount C) (fun _ => CW cy ad C ++ rest) := by
  refine GMi.intro cX6_burstCount 1 RX6 (by decide) rfl rfl (Nat.le_of_ble_eq_true rfl) ?_
  intro p e s m args below meth c A Q ls X hret hl hw
  have hx := X.1
  have hb := X.2.1
  have hl : lv_has ls 1 [(0, .ref (ad 92))] := hl
  have inX1 : ∀ w ∈ wsX10, w ∈ wsX6_burstCount := fun w h => List.mem_cons_of_mem _ (List.mem_append_left _ (List.mem_append_left _ (List.mem_append_left _ (List.mem_append_right _ h))))
  have inX6 : ∀ w ∈ wsX60, w ∈ wsX6_burstCount := fun w h => List.mem_cons_of_mem _ (List.mem_append_left _ (List.mem_append_left _ (List.mem_append_left _ (List.mem_append_left _ (List.mem_append_right _ h)))))
  obtain ⟨sp, hsp⟩ : ∃ sp, sp = F_X6_burstCount C := ⟨_, rfl⟩
  have hF := hsp.trans (F_X6_burstCount.eq_1 C)
  refine lv_aload_n hx hb dX6_burstCount_0 rfl (lv_at hl 0 rfl) ?_
  refine g_get (v := .ref (ad 93)) (C := RX6) (T := TX6) (N := 5) (ci := 8) X inX6 hw 92 rfl rfl 0 (by decide) (List.mem_of_getElem? (i := 1) rfl) rfl rfl dX6_burstCount_1 ?_
  refine g_get (v := .ref (ad 95)) (C := RX1) (T := TX1) (N := 10) (ci := 3) X inX1 hw 93 rfl rfl 3 (by decide) (List.mem_of_getElem? (i := 2) rfl) rfl rfl dX6_burstCount_4 ?_
  refine lv_iconst (v := 0) hx hb dX6_burstCount_7 (by decide) ?_
  refine gcV_i (rest := []) X (c_X0_countPhase l D cy ad rest C 0) gy_X0_countPhase gX6_burstCount_X0_countPhase ⟨rfl, rfl, Nat.le_of_ble_eq_true rfl, Nat.le_of_ble_eq_true rfl⟩ 95 rfl rfl rfl hl rfl (Nat.le_of_ble_eq_true rfl) dX6_burstCount_8 ⟨Nat.zero_le _, Nat.zero_le _⟩ hw (fun r1 _ H locs hr1 hw => ?_)
  have hr1 : r1 = F_X0_countPhase C 0 := hr1
  have hF := hF.trans (bnd_eq hr1)
  refine lv_aload_n hx hb dX6_burstCount_11 rfl (lv_at hl 0 rfl) ?_
  refine g_get (v := .ref (ad 93)) (C := RX6) (T := TX6) (N := 5) (ci := 8) X inX6 hw 92 rfl rfl 0 (by decide) (List.mem_of_getElem? (i := 1) rfl) rfl rfl dX6_burstCount_12 ?_
  refine g_get (v := .ref (ad 95)) (C := RX1) (T := TX1) (N := 10) (ci := 3) X inX1 hw 93 rfl rfl 3 (by decide) (List.mem_of_getElem? (i := 2) rfl) rfl rfl dX6_burstCount_15 ?_
  refine lv_iconst (v := 1) hx hb dX6_burstCount_18 (by decide) ?_
  refine gcV_i (rest := [.int r1]) X (c_X0_countPhase l D cy ad rest C 1) gy_X0_countPhase gX6_burstCount_X0_countPhase ⟨rfl, rfl, Nat.le_of_ble_eq_true rfl, Nat.le_of_ble_eq_true rfl⟩ 95 rfl rfl rfl hl rfl (Nat.le_of_ble_eq_true rfl) dX6_burstCount_19 ⟨Nat.zero_le _, Nat.zero_le _⟩ hw (fun r3 _ H locs hr3 hw => ?_)
  have hr3 : r3 = F_X0_countPhase C 1 := hr3
  have hF := hF.trans (bnd_eq hr3)
  refine lv_iadd hx hb dX6_burstCount_22 ?_
  exact hret _ _ () _ _ _ dX6_burstCount_23 (hF.symm.trans hsp) hw
theorem gy_X6_openCount : gY yX6_openCount RX6 cX6_openCount 1 (some .int) wsX6_openCount 0 := ⟨⟨_, rfl⟩, rfl, by decide +kernel, by decide +kernel, by decide +kernel⟩
def F_X6_openCount (C : CS) : Int32 := (bnd (F_X0_countPhase C 0) (fun r1 => r1))
abbrev rmX6_openCount : Room := { frames := 2, cells := 0, slots := 0, locals := 44 }
set_option maxHeartbeats 4000000 in
set_option maxRecDepth 100000 in
theorem c_X6_openCount (l : Launch) (D : va_G) (cy : Nat → ClassId) (ad : Nat → Nat) (rest : va_W) (C : CS) : GMi l yX6_openCount wsX6_openCount rmX6_openCount D cy [.ref (ad 92)] (CW cy ad C ++ rest) (fun (r : Int32) (_ : Unit) => r = F_X6_openCount C) (fun _ => CW cy ad C ++ rest) := by
  refine GMi.intro cX6_openCount 1 RX6 (by decide) rfl rfl (Nat.le_of_ble_eq_true rfl) ?_
  intro p e s m args below meth c A Q ls X hret hl hw
  have hx := X.1
  have hb := X.2.1
  have hl : lv_has ls 1 [(0, .ref (ad 92))] := hl
  have inX1 : ∀ w ∈ wsX10, w ∈ wsX6_openCount := fun w h => List.mem_cons_of_mem _ (List.mem_append_left _ (List.mem_append_left _ (List.mem_append_left _ (List.mem_append_right _ h))))
  have inX6 : ∀ w ∈ wsX60, w ∈ wsX6_openCount := fun w h => List.mem_cons_of_mem _ (List.mem_append_left _ (List.mem_append_left _ (List.mem_append_left _ (List.mem_append_left _ (List.mem_append_right _ h)))))
  obtain ⟨sp, hsp⟩ : ∃ sp, sp = F_X6_openCount C := ⟨_, rfl⟩
  have hF := hsp.trans (F_X6_openCount.eq_1 C)
  refine lv_aload_n hx hb dX6_openCount_0 rfl (lv_at hl 0 rfl) ?_
  refine g_get (v := .ref (ad 93)) (C := RX6) (T := TX6) (N := 5) (ci := 8) X inX6 hw 92 rfl rfl 0 (by decide) (List.mem_of_getElem? (i := 1) rfl) rfl rfl dX6_openCount_1 ?_
  refine g_get (v := .ref (ad 95)) (C := RX1) (T := TX1) (N := 10) (ci := 3) X inX1 hw 93 rfl rfl 3 (by decide) (List.mem_of_getElem? (i := 2) rfl) rfl rfl dX6_openCount_4 ?_
  refine lv_iconst (v := 0) hx hb dX6_openCount_7 (by decide) ?_
  refine gcV_i (rest := []) X (c_X0_countPhase l D cy ad rest C 0) gy_X0_countPhase gX6_openCount_X0_countPhase ⟨rfl, rfl, Nat.le_of_ble_eq_true rfl, Nat.le_of_ble_eq_true rfl⟩ 95 rfl rfl rfl hl rfl (Nat.le_of_ble_eq_true rfl) dX6_openCount_8 ⟨Nat.zero_le _, Nat.zero_le _⟩ hw (fun r1 _ H locs hr1 hw => ?_)
  have hr1 : r1 = F_X0_countPhase C 0 := hr1
  have hF := hF.trans (bnd_eq hr1)
  exact hret _ _ () _ _ _ dX6_openCount_11 (hF.symm.trans hsp) hw
theorem gy_X6_mergeCount : gY yX6_mergeCount RX6 cX6_mergeCount 1 (some .int) wsX6_mergeCount 0 := ⟨⟨_, rfl⟩, rfl, by decide +kernel, by decide +kernel, by decide +kernel⟩
def F_X6_mergeCount (C : CS) : Int32 := C.2.1 4
abbrev rmX6_mergeCount : Room := { frames := 0, cells := 0, slots := 0, locals := 0 }
set_option maxHeartbeats 4000000 in
set_option maxRecDepth 100000 in
theorem c_X6_mergeCount (l : Launch) (D : va_G) (cy : Nat → ClassId) (ad : Nat → Nat) (rest : va_W) (C : CS) : GMi l yX6_mergeCount wsX6_mergeCount rmX6_mergeCount D cy [.ref (ad 92)] (CW cy ad C ++ rest) (fun (r : Int32) (_ : Unit) => r = F_X6_mergeCount C) (fun _ => CW cy ad C ++ rest) := by
  refine GMi.intro cX6_mergeCount 1 RX6 (by decide) rfl rfl (Nat.le_of_ble_eq_true rfl) ?_
  intro p e s m args below meth c A Q ls X hret hl hw
  have hx := X.1
  have hb := X.2.1
  have hl : lv_has ls 1 [(0, .ref (ad 92))] := hl
  have inX1 : ∀ w ∈ wsX10, w ∈ wsX6_mergeCount := fun w h => List.mem_cons_of_mem _ (List.mem_append_right _ h)
  have inX6 : ∀ w ∈ wsX60, w ∈ wsX6_mergeCount := fun w h => List.mem_cons_of_mem _ (List.mem_append_left _ (List.mem_append_right _ h))
  obtain ⟨sp, hsp⟩ : ∃ sp, sp = F_X6_mergeCount C := ⟨_, rfl⟩
  have hF := hsp.trans (F_X6_mergeCount.eq_1 C)
  refine lv_aload_n hx hb dX6_mergeCount_0 rfl (lv_at hl 0 rfl) ?_
  refine g_get (v := .ref (ad 93)) (C := RX6) (T := TX6) (N := 5) (ci := 8) X inX6 hw 92 rfl rfl 0 (by decide) (List.mem_of_getElem? (i := 1) rfl) rfl rfl dX6_mergeCount_1 ?_
  refine g_get (v := .int (C.2.1 4)) (C := RX1) (T := TX1) (N := 10) (ci := 3) X inX1 hw 93 rfl rfl 9 (by decide) (List.mem_of_getElem? (i := 2) rfl) rfl rfl dX6_mergeCount_4 ?_
  exact hret _ _ () _ _ _ dX6_mergeCount_7 (hF.symm.trans hsp) hw
theorem gy_X6_firingCount : gY yX6_firingCount RX6 cX6_firingCount 1 (some .int) wsX6_firingCount 0 := ⟨⟨_, rfl⟩, rfl, by decide +kernel, by decide +kernel, by decide +kernel⟩
def F_X6_firingCount (C : CS) : Int32 := C.2.1 8
abbrev rmX6_firingCount : Room := { frames := 0, cells := 0, slots := 0, locals := 0 }
set_option maxHeartbeats 4000000 in
set_option maxRecDepth 100000 in
theorem c_X6_firingCount (l : Launch) (D : va_G) (cy : Nat → ClassId) (ad : Nat → Nat) (rest : va_W) (C : CS) : GMi l yX6_firingCount wsX6_firingCount rmX6_firingCount D cy [.ref (ad 92)] (CW cy ad C ++ rest) (fun (r : Int32) (_ : Unit) => r = F_X6_firingCount C) (fun _ => CW cy ad C ++ rest) := by
  refine GMi.intro cX6_firingCount 1 RX6 (by decide) rfl rfl (Nat.le_of_ble_eq_true rfl) ?_
  intro p e s m args below meth c A Q ls X hret hl hw
  have hx := X.1
  have hb := X.2.1
  have hl : lv_has ls 1 [(0, .ref (ad 92))] := hl
  have inX1 : ∀ w ∈ wsX10, w ∈ wsX6_firingCount := fun w h => List.mem_cons_of_mem _ (List.mem_append_left _ (List.mem_append_right _ h))
  have inX2 : ∀ w ∈ wsX20, w ∈ wsX6_firingCount := fun w h => List.mem_cons_of_mem _ (List.mem_append_right _ h)
  have inX6 : ∀ w ∈ wsX60, w ∈ wsX6_firingCount := fun w h => List.mem_cons_of_mem _ (List.mem_append_left _ (List.mem_append_left _ (List.mem_append_right _ h)))
  obtain ⟨sp, hsp⟩ : ∃ sp, sp = F_X6_firingCount C := ⟨_, rfl⟩
  have hF := hsp.trans (F_X6_firingCount.eq_1 C)
  refine lv_aload_n hx hb dX6_firingCount_0 rfl (lv_at hl 0 rfl) ?_
  refine g_get (v := .ref (ad 93)) (C := RX6) (T := TX6) (N := 5) (ci := 8) X inX6 hw 92 rfl rfl 0 (by decide) (List.mem_of_getElem? (i := 1) rfl) rfl rfl dX6_firingCount_1 ?_
  refine g_get (v := .ref (ad 96)) (C := RX1) (T := TX1) (N := 10) (ci := 3) X inX1 hw 93 rfl rfl 4 (by decide) (List.mem_of_getElem? (i := 2) rfl) rfl rfl dX6_firingCount_4 ?_
  refine g_get (v := .int (C.2.1 8)) (C := RX2) (T := TX2) (N := 10) (ci := 4) X inX2 hw 96 rfl rfl 8 (by decide) (List.mem_of_getElem? (i := 3) rfl) rfl rfl dX6_firingCount_7 ?_
  exact hret _ _ () _ _ _ dX6_firingCount_10 (hF.symm.trans hsp) hw
theorem gy_X6_balance : gY yX6_balance RX6 cX6_balance 1 (some .long) wsX6_balance 0 := ⟨⟨_, rfl⟩, rfl, by decide +kernel, by decide +kernel, by decide +kernel⟩
def F_X6_balance (C : CS) : Int64 := C.2.2 0
abbrev rmX6_balance : Room := { frames := 0, cells := 0, slots := 0, locals := 0 }
set_option maxHeartbeats 4000000 in
set_option maxRecDepth 100000 in
theorem c_X6_balance (l : Launch) (D : va_G) (cy : Nat → ClassId) (ad : Nat → Nat) (rest : va_W) (C : CS) : GMl l yX6_balance wsX6_balance rmX6_balance D cy [.ref (ad 92)] (CW cy ad C ++ rest) (fun (r : Int64) (_ : Unit) => r = F_X6_balance C) (fun _ => CW cy ad C ++ rest) := by
  refine GMl.intro cX6_balance 1 RX6 (by decide) rfl rfl (Nat.le_of_ble_eq_true rfl) ?_
  intro p e s m args below meth c A Q ls X hret hl hw
  have hx := X.1
  have hb := X.2.1
  have hl : lv_has ls 1 [(0, .ref (ad 92))] := hl
  have inX1 : ∀ w ∈ wsX10, w ∈ wsX6_balance := fun w h => List.mem_cons_of_mem _ (List.mem_append_left _ (List.mem_append_right _ h))
  have inX2 : ∀ w ∈ wsX20, w ∈ wsX6_balance := fun w h => List.mem_cons_of_mem _ (List.mem_append_right _ h)
  have inX6 : ∀ w ∈ wsX60, w ∈ wsX6_balance := fun w h => List.mem_cons_of_mem _ (List.mem_append_left _ (List.mem_append_left _ (List.mem_append_right _ h)))
  obtain ⟨sp, hsp⟩ : ∃ sp, sp = F_X6_balance C := ⟨_, rfl⟩
  have hF := hsp.trans (F_X6_balance.eq_1 C)
  refine lv_aload_n hx hb dX6_balance_0 rfl (lv_at hl 0 rfl) ?_
  refine g_get (v := .ref (ad 93)) (C := RX6) (T := TX6) (N := 5) (ci := 8) X inX6 hw 92 rfl rfl 0 (by decide) (List.mem_of_getElem? (i := 1) rfl) rfl rfl dX6_balance_1 ?_
  refine g_get (v := .ref (ad 96)) (C := RX1) (T := TX1) (N := 10) (ci := 3) X inX1 hw 93 rfl rfl 4 (by decide) (List.mem_of_getElem? (i := 2) rfl) rfl rfl dX6_balance_4 ?_
  refine g_get (v := .long (C.2.2 0)) (C := RX2) (T := TX2) (N := 10) (ci := 4) X inX2 hw 96 rfl rfl 9 (by decide) (List.mem_of_getElem? (i := 3) rfl) rfl rfl dX6_balance_7 ?_
  exact hret _ _ () _ _ _ dX6_balance_10 (hF.symm.trans hsp) hw
theorem gy_X6_standing : gY yX6_standing RX6 cX6_standing 1 (some .long) wsX6_standing 0 := ⟨⟨_, rfl⟩, rfl, by decide +kernel, by decide +kernel, by decide +kernel⟩
def F_X6_standing (C : CS) : Int64 := (bnd (F_X0_sumOfFired C) (fun r1 => r1))
abbrev rmX6_standing : Room := { frames := 3, cells := 0, slots := 0, locals := 65 }
set_option maxHeartbeats 4000000 in
set_option maxRecDepth 100000 in
theorem c_X6_standing (l : Launch) (D : va_G) (cy : Nat → ClassId) (ad : Nat → Nat) (rest : va_W) (C : CS) : GMl l yX6_standing wsX6_standing rmX6_standing D cy [.ref (ad 92)] (CW cy ad C ++ rest) (fun (r : Int64) (_ : Unit) => r = F_X6_standing C) (fun _ => CW cy ad C ++ rest) := by
  refine GMl.intro cX6_standing 1 RX6 (by decide) rfl rfl (Nat.le_of_ble_eq_true rfl) ?_
  intro p e s m args below meth c A Q ls X hret hl hw
  have hx := X.1
  have hb := X.2.1
  have hl : lv_has ls 1 [(0, .ref (ad 92))] := hl
  have inX1 : ∀ w ∈ wsX10, w ∈ wsX6_standing := fun w h => List.mem_cons_of_mem _ (List.mem_append_left _ (List.mem_append_left _ (List.mem_append_left _ (List.mem_append_right _ h))))
  have inX6 : ∀ w ∈ wsX60, w ∈ wsX6_standing := fun w h => List.mem_cons_of_mem _ (List.mem_append_left _ (List.mem_append_left _ (List.mem_append_left _ (List.mem_append_left _ (List.mem_append_right _ h)))))
  obtain ⟨sp, hsp⟩ : ∃ sp, sp = F_X6_standing C := ⟨_, rfl⟩
  have hF := hsp.trans (F_X6_standing.eq_1 C)
  refine lv_aload_n hx hb dX6_standing_0 rfl (lv_at hl 0 rfl) ?_
  refine g_get (v := .ref (ad 93)) (C := RX6) (T := TX6) (N := 5) (ci := 8) X inX6 hw 92 rfl rfl 0 (by decide) (List.mem_of_getElem? (i := 1) rfl) rfl rfl dX6_standing_1 ?_
  refine g_get (v := .ref (ad 95)) (C := RX1) (T := TX1) (N := 10) (ci := 3) X inX1 hw 93 rfl rfl 3 (by decide) (List.mem_of_getElem? (i := 2) rfl) rfl rfl dX6_standing_4 ?_
  refine gcV_l (rest := []) X (c_X0_sumOfFired l D cy ad rest C) gy_X0_sumOfFired gX6_standing_X0_sumOfFired ⟨rfl, rfl, Nat.le_of_ble_eq_true rfl, Nat.le_of_ble_eq_true rfl⟩ 95 rfl rfl rfl hl rfl (Nat.le_of_ble_eq_true rfl) dX6_standing_7 ⟨Nat.zero_le _, Nat.zero_le _⟩ hw (fun r1 _ H locs hr1 hw => ?_)
  have hr1 : r1 = F_X0_sumOfFired C := hr1
  have hF := hF.trans (bnd_eq hr1)
  exact hret _ _ () _ _ _ dX6_standing_10 (hF.symm.trans hsp) hw
theorem gy_X6_save : gY yX6_save RX6 cX6_save 1 (some .int) wsX6_save 0 := ⟨⟨_, rfl⟩, rfl, by decide +kernel, by decide +kernel, by decide +kernel⟩
def F_X6_save (C : CS) : Int32 × CS := (bnd (F_X1_copyFrom_kn C) (fun u2 => (bnd (sI u2 21 1) (fun u3 => (u3.2.1 5, u3)))))
abbrev rmX6_save : Room := { frames := 4, cells := 0, slots := 0, locals := 85 }
set_option maxHeartbeats 4000000 in
set_option maxRecDepth 100000 in
theorem c_X6_save (l : Launch) (D : va_G) (cy : Nat → ClassId) (ad : Nat → Nat) (rest : va_W) (C : CS) : GMi l yX6_save wsX6_save rmX6_save D cy [.ref (ad 92)] (CW cy ad C ++ rest) (fun (r : Int32) (u : CS) => r = (F_X6_save C).1 ∧ u = (F_X6_save C).2) (fun u => CW cy ad u ++ rest) := by
  refine GMi.intro cX6_save 1 RX6 (by decide) rfl rfl (Nat.le_of_ble_eq_true rfl) ?_
  intro p e s m args below meth c A Q ls X hret hl hw
  have hx := X.1
  have hb := X.2.1
  have hl : lv_has ls 1 [(0, .ref (ad 92))] := hl
  have inX1 : ∀ w ∈ wsX10, w ∈ wsX6_save := fun w h => List.mem_cons_of_mem _ (List.mem_append_left _ (List.mem_append_left _ (List.mem_append_left _ (List.mem_append_left _ (List.mem_append_left _ (List.mem_append_right _ h))))))
  have inX3 : ∀ w ∈ wsX30, w ∈ wsX6_save := fun w h => List.mem_cons_of_mem _ (List.mem_append_left _ (List.mem_append_left _ (List.mem_append_left _ (List.mem_append_left _ (List.mem_append_right _ h)))))
  have inX6 : ∀ w ∈ wsX60, w ∈ wsX6_save := fun w h => List.mem_cons_of_mem _ (List.mem_append_left _ (List.mem_append_left _ (List.mem_append_left _ (List.mem_append_left _ (List.mem_append_left _ (List.mem_append_left _ (List.mem_append_right _ h)))))))
  obtain ⟨sp, hsp⟩ : ∃ sp, sp = F_X6_save C := ⟨_, rfl⟩
  have hF := hsp.trans (F_X6_save.eq_1 C)
  refine lv_aload_n hx hb dX6_save_0 rfl (lv_at hl 0 rfl) ?_
  refine g_get (v := .ref (ad 97)) (C := RX6) (T := TX6) (N := 5) (ci := 8) X inX6 hw 92 rfl rfl 1 (by decide) (List.mem_of_getElem? (i := 1) rfl) rfl rfl dX6_save_1 ?_
  refine lv_aload_n hx hb dX6_save_4 rfl (lv_at hl 0 rfl) ?_
  refine g_get (v := .ref (ad 93)) (C := RX6) (T := TX6) (N := 5) (ci := 8) X inX6 hw 92 rfl rfl 0 (by decide) (List.mem_of_getElem? (i := 2) rfl) rfl rfl dX6_save_5 ?_
  refine gcV_v (rest := []) X (c_X1_copyFrom_kn l D cy ad rest C) gy_X1_copyFrom gX6_save_X1_copyFrom ⟨rfl, rfl, Nat.le_of_ble_eq_true rfl, Nat.le_of_ble_eq_true rfl⟩ 97 rfl rfl rfl hl rfl (Nat.le_of_ble_eq_true rfl) dX6_save_8 ⟨Nat.zero_le _, Nat.zero_le _⟩ hw (fun u2 H locs hu2 hw => ?_)
  have hu2 : u2 = F_X1_copyFrom_kn C := hu2
  have hF := hF.trans (bnd_eq hu2)
  refine lv_aload_n hx hb dX6_save_11 rfl (lv_at hl 0 rfl) ?_
  refine lv_iconst (v := 1) hx hb dX6_save_12 (by decide) ?_
  refine g_put (v := .int 1) (C := RX6) (T := TX6) (N := 5) (ci := 8) (w' := CW cy ad (sI u2 21 1) ++ rest) X inX6 tyX6 tyX6_ok nmX6 hw 92 rfl rfl 3 (by decide) (List.mem_of_getElem? (i := 3) rfl) rfl rfl rfl rfl (Nat.le_of_ble_eq_true rfl) rfl dX6_save_13 (fun H locs hw => ?_)
  obtain ⟨u3, hu3⟩ : ∃ z, z = sI u2 21 1 := ⟨_, rfl⟩
  rw [← hu3] at hw
  have hF := hF.trans (bnd_eq hu3)
  refine lv_aload_n hx hb dX6_save_16 rfl (lv_at hl 0 rfl) ?_
  refine g_get (v := .ref (ad 93)) (C := RX6) (T := TX6) (N := 5) (ci := 8) X inX6 hw 92 rfl rfl 0 (by decide) (List.mem_of_getElem? (i := 2) rfl) rfl rfl dX6_save_17 ?_
  refine g_get (v := .ref (ad 94)) (C := RX1) (T := TX1) (N := 10) (ci := 3) X inX1 hw 93 rfl rfl 2 (by decide) (List.mem_of_getElem? (i := 4) rfl) rfl rfl dX6_save_20 ?_
  refine g_get (v := .int (u3.2.1 5)) (C := RX3) (T := TX3) (N := 4) (ci := 5) X inX3 hw 94 rfl rfl 3 (by decide) (List.mem_of_getElem? (i := 5) rfl) rfl rfl dX6_save_23 ?_
  exact hret _ _ _ _ _ _ dX6_save_26 ⟨congrArg Prod.fst (hF.symm.trans hsp), congrArg Prod.snd (hF.symm.trans hsp)⟩ hw
