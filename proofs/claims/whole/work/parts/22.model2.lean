theorem gy_X7_watermark : gY yX7_watermark RX7 cX7_watermark 1 (some .int) wsX7_watermark 0 := ⟨⟨_, rfl⟩, rfl, by decide +kernel, by decide +kernel, by decide +kernel⟩
def F_X7_watermark (C : CS) : Int32 × CS := (bnd ((F_X7_done C (C.1 0 1418)).2) (fun u2 => (bnd ((F_X7_done C (C.1 0 1418)).1) (fun r1 => (r1, u2)))))
abbrev rmX7_watermark : Room := { frames := 1, cells := 0, slots := 0, locals := 21 }
set_option maxHeartbeats 4000000 in
set_option maxRecDepth 100000 in
theorem c_X7_watermark (l : Launch) (D : va_G) (cy : Nat → ClassId) (ad : Nat → Nat) (rest : va_W) (C : CS) : GMi l yX7_watermark wsX7_watermark rmX7_watermark D cy [.ref (ad 0)] (MW cy ad C ++ rest) (fun (r : Int32) (u : CS) => r = (F_X7_watermark C).1 ∧ u = (F_X7_watermark C).2) (fun u => MW cy ad u ++ rest) := by
  refine GMi.intro cX7_watermark 1 RX7 (by decide) rfl rfl (Nat.le_of_ble_eq_true rfl) ?_
  intro p e s m args below meth c A Q ls X hret hl hw
  have hx := X.1
  have hb := X.2.1
  have hl : lv_has ls 1 [(0, .ref (ad 0))] := hl
  have inX7 : ∀ w ∈ wsX70, w ∈ wsX7_watermark := fun w h => List.mem_cons_of_mem _ (List.mem_append_left _ (List.mem_append_right _ h))
  obtain ⟨sp, hsp⟩ : ∃ sp, sp = F_X7_watermark C := ⟨_, rfl⟩
  have hF := hsp.trans (F_X7_watermark.eq_1 C)
  refine lv_aload_n hx hb dX7_watermark_0 rfl (lv_at hl 0 rfl) ?_
  refine lv_aload_n hx hb dX7_watermark_1 rfl (lv_at hl 0 rfl) ?_
  refine g_get (v := .ref (ad 1)) (C := RX7) (T := TX7) (N := 16) (ci := 9) X inX7 hw 0 rfl rfl 1 (by decide) (List.mem_of_getElem? (i := 1) rfl) rfl rfl dX7_watermark_2 ?_
  refine lv_sipush (v := 1418) hx hb dX7_watermark_5 (by decide) ?_
  refine g_ialdk (k := 1418) rfl X hw 1 rfl (vk rfl) dX7_watermark_8 ?_
  refine gcV_i (rest := []) X (c_X7_done l D cy ad rest C (C.1 0 1418)) gy_X7_done gX7_watermark_X7_done ⟨rfl, rfl, Nat.le_of_ble_eq_true rfl, Nat.le_of_ble_eq_true rfl⟩ 0 rfl rfl rfl hl rfl (Nat.le_of_ble_eq_true rfl) dX7_watermark_9 ⟨Nat.zero_le _, Nat.zero_le _⟩ hw (fun r1 u2 H locs hr1 hw => ?_)
  obtain ⟨hr1, hu2⟩ : r1 = (F_X7_done C (C.1 0 1418)).1 ∧ u2 = (F_X7_done C (C.1 0 1418)).2 := hr1
  have hF := hF.trans (bnd_eq hu2)
  try have hS := Eq.mp (bnd_eq hu2) hS
  have hF := hF.trans (bnd_eq hr1)
  try have hS := Eq.mp (bnd_eq hr1) hS
  exact hret _ _ _ _ _ _ dX7_watermark_12 ⟨congrArg Prod.fst (hF.symm.trans hsp), congrArg Prod.snd (hF.symm.trans hsp)⟩ hw
theorem gy_X7_lateCount : gY yX7_lateCount RX7 cX7_lateCount 1 (some .int) wsX7_lateCount 0 := ⟨⟨_, rfl⟩, rfl, by decide +kernel, by decide +kernel, by decide +kernel⟩
def F_X7_lateCount (C : CS) : Int32 × CS := (bnd ((F_X7_done C (C.1 0 1421)).2) (fun u2 => (bnd ((F_X7_done C (C.1 0 1421)).1) (fun r1 => (r1, u2)))))
abbrev rmX7_lateCount : Room := { frames := 1, cells := 0, slots := 0, locals := 21 }
set_option maxHeartbeats 4000000 in
set_option maxRecDepth 100000 in
theorem c_X7_lateCount (l : Launch) (D : va_G) (cy : Nat → ClassId) (ad : Nat → Nat) (rest : va_W) (C : CS) : GMi l yX7_lateCount wsX7_lateCount rmX7_lateCount D cy [.ref (ad 0)] (MW cy ad C ++ rest) (fun (r : Int32) (u : CS) => r = (F_X7_lateCount C).1 ∧ u = (F_X7_lateCount C).2) (fun u => MW cy ad u ++ rest) := by
  refine GMi.intro cX7_lateCount 1 RX7 (by decide) rfl rfl (Nat.le_of_ble_eq_true rfl) ?_
  intro p e s m args below meth c A Q ls X hret hl hw
  have hx := X.1
  have hb := X.2.1
  have hl : lv_has ls 1 [(0, .ref (ad 0))] := hl
  have inX7 : ∀ w ∈ wsX70, w ∈ wsX7_lateCount := fun w h => List.mem_cons_of_mem _ (List.mem_append_left _ (List.mem_append_right _ h))
  obtain ⟨sp, hsp⟩ : ∃ sp, sp = F_X7_lateCount C := ⟨_, rfl⟩
  have hF := hsp.trans (F_X7_lateCount.eq_1 C)
  refine lv_aload_n hx hb dX7_lateCount_0 rfl (lv_at hl 0 rfl) ?_
  refine lv_aload_n hx hb dX7_lateCount_1 rfl (lv_at hl 0 rfl) ?_
  refine g_get (v := .ref (ad 1)) (C := RX7) (T := TX7) (N := 16) (ci := 9) X inX7 hw 0 rfl rfl 1 (by decide) (List.mem_of_getElem? (i := 1) rfl) rfl rfl dX7_lateCount_2 ?_
  refine lv_sipush (v := 1421) hx hb dX7_lateCount_5 (by decide) ?_
  refine g_ialdk (k := 1421) rfl X hw 1 rfl (vk rfl) dX7_lateCount_8 ?_
  refine gcV_i (rest := []) X (c_X7_done l D cy ad rest C (C.1 0 1421)) gy_X7_done gX7_lateCount_X7_done ⟨rfl, rfl, Nat.le_of_ble_eq_true rfl, Nat.le_of_ble_eq_true rfl⟩ 0 rfl rfl rfl hl rfl (Nat.le_of_ble_eq_true rfl) dX7_lateCount_9 ⟨Nat.zero_le _, Nat.zero_le _⟩ hw (fun r1 u2 H locs hr1 hw => ?_)
  obtain ⟨hr1, hu2⟩ : r1 = (F_X7_done C (C.1 0 1421)).1 ∧ u2 = (F_X7_done C (C.1 0 1421)).2 := hr1
  have hF := hF.trans (bnd_eq hu2)
  try have hS := Eq.mp (bnd_eq hu2) hS
  have hF := hF.trans (bnd_eq hr1)
  try have hS := Eq.mp (bnd_eq hr1) hS
  exact hret _ _ _ _ _ _ dX7_lateCount_12 ⟨congrArg Prod.fst (hF.symm.trans hsp), congrArg Prod.snd (hF.symm.trans hsp)⟩ hw
theorem gy_X7_isLate : gY yX7_isLate RX7 cX7_isLate 2 (some .boolean) wsX7_isLate 1 := ⟨⟨_, rfl⟩, rfl, by decide +kernel, by decide +kernel, by decide +kernel⟩
def F_X7_isLate (C : CS) (q1 : Int32) : Int32 × CS := (bnd (sI C 0 0) (fun u1 => (bnd (F_X7_isLateNow u1 q1) (fun r2 => (r2, u1)))))
abbrev rmX7_isLate : Room := { frames := 1, cells := 0, slots := 0, locals := 21 }
set_option maxHeartbeats 4000000 in
set_option maxRecDepth 100000 in
theorem c_X7_isLate (l : Launch) (D : va_G) (cy : Nat → ClassId) (ad : Nat → Nat) (rest : va_W) (C : CS) (q1 : Int32) : GMi l yX7_isLate wsX7_isLate rmX7_isLate D cy [.ref (ad 0), .int q1] (MW cy ad C ++ rest) (fun (r : Int32) (u : CS) => (r = (F_X7_isLate C q1).1 ∧ u = (F_X7_isLate C q1).2) ∧ (r = 0 ∨ r = 1)) (fun u => MW cy ad u ++ rest) := by
  refine GMz.intro cX7_isLate 2 RX7 (by decide) rfl rfl (Nat.le_of_ble_eq_true rfl) ?_
  intro p e s m args below meth c A Q ls X hret hl hw
  have hx := X.1
  have hb := X.2.1
  have hl : lv_has ls 2 [(0, .ref (ad 0)), (1, .int q1)] := hl
  have inX7 : ∀ w ∈ wsX70, w ∈ wsX7_isLate := fun w h => List.mem_cons_of_mem _ (List.mem_append_left _ (List.mem_append_right _ h))
  obtain ⟨sp, hsp⟩ : ∃ sp, sp = F_X7_isLate C q1 := ⟨_, rfl⟩
  have hF := hsp.trans (F_X7_isLate.eq_1 C q1)
  refine lv_aload_n hx hb dX7_isLate_0 rfl (lv_at hl 0 rfl) ?_
  refine lv_iconst (v := 0) hx hb dX7_isLate_1 (by decide) ?_
  refine g_put (v := .int 0) (C := RX7) (T := TX7) (N := 16) (ci := 9) (w' := MW cy ad (sI C 0 0) ++ rest) X inX7 tyX7 tyX7_ok nmX7 hw 0 rfl rfl 0 (by decide) (List.mem_of_getElem? (i := 1) rfl) rfl rfl rfl rfl (Nat.le_of_ble_eq_true rfl) rfl dX7_isLate_2 (fun H locs hw => ?_)
  obtain ⟨u1, hu1⟩ : ∃ z, z = sI C 0 0 := ⟨_, rfl⟩
  rw [← hu1] at hw
  have hF := hF.trans (bnd_eq hu1)
  try have hS := Eq.mp (bnd_eq hu1) hS
  refine lv_aload_n hx hb dX7_isLate_5 rfl (lv_at hl 0 rfl) ?_
  refine lv_iload_n hx hb dX7_isLate_6 rfl (lv_at hl 1 rfl) ?_
  refine gcV_i (rest := []) X (c_X7_isLateNow l D cy ad rest u1 q1) gy_X7_isLateNow gX7_isLate_X7_isLateNow ⟨rfl, rfl, Nat.le_of_ble_eq_true rfl, Nat.le_of_ble_eq_true rfl⟩ 0 rfl rfl rfl hl rfl (Nat.le_of_ble_eq_true rfl) dX7_isLate_7 ⟨Nat.zero_le _, Nat.zero_le _⟩ hw (fun r2 _ H locs hr2 hw => ?_)
  obtain ⟨hr2, zr2⟩ : r2 = F_X7_isLateNow u1 q1 ∧ (r2 = 0 ∨ r2 = 1) := hr2
  have hF := hF.trans (bnd_eq hr2)
  try have hS := Eq.mp (bnd_eq hr2) hS
  exact hret _ _ _ _ _ _ dX7_isLate_10 zr2 ⟨⟨congrArg Prod.fst (hF.symm.trans hsp), congrArg Prod.snd (hF.symm.trans hsp)⟩, zr2⟩ hw
theorem gy_X7_recordCount : gY yX7_recordCount RX7 cX7_recordCount 1 (some .int) wsX7_recordCount 0 := ⟨⟨_, rfl⟩, rfl, by decide +kernel, by decide +kernel, by decide +kernel⟩
def F_X7_recordCount (C : CS) : Int32 × CS := (bnd ((F_X7_done C (C.1 0 400)).2) (fun u2 => (bnd ((F_X7_done C (C.1 0 400)).1) (fun r1 => (r1, u2)))))
abbrev rmX7_recordCount : Room := { frames := 1, cells := 0, slots := 0, locals := 21 }
set_option maxHeartbeats 4000000 in
set_option maxRecDepth 100000 in
theorem c_X7_recordCount (l : Launch) (D : va_G) (cy : Nat → ClassId) (ad : Nat → Nat) (rest : va_W) (C : CS) : GMi l yX7_recordCount wsX7_recordCount rmX7_recordCount D cy [.ref (ad 0)] (MW cy ad C ++ rest) (fun (r : Int32) (u : CS) => r = (F_X7_recordCount C).1 ∧ u = (F_X7_recordCount C).2) (fun u => MW cy ad u ++ rest) := by
  refine GMi.intro cX7_recordCount 1 RX7 (by decide) rfl rfl (Nat.le_of_ble_eq_true rfl) ?_
  intro p e s m args below meth c A Q ls X hret hl hw
  have hx := X.1
  have hb := X.2.1
  have hl : lv_has ls 1 [(0, .ref (ad 0))] := hl
  have inX7 : ∀ w ∈ wsX70, w ∈ wsX7_recordCount := fun w h => List.mem_cons_of_mem _ (List.mem_append_left _ (List.mem_append_right _ h))
  obtain ⟨sp, hsp⟩ : ∃ sp, sp = F_X7_recordCount C := ⟨_, rfl⟩
  have hF := hsp.trans (F_X7_recordCount.eq_1 C)
  refine lv_aload_n hx hb dX7_recordCount_0 rfl (lv_at hl 0 rfl) ?_
  refine lv_aload_n hx hb dX7_recordCount_1 rfl (lv_at hl 0 rfl) ?_
  refine g_get (v := .ref (ad 1)) (C := RX7) (T := TX7) (N := 16) (ci := 9) X inX7 hw 0 rfl rfl 1 (by decide) (List.mem_of_getElem? (i := 1) rfl) rfl rfl dX7_recordCount_2 ?_
  refine lv_sipush (v := 400) hx hb dX7_recordCount_5 (by decide) ?_
  refine g_ialdk (k := 400) rfl X hw 1 rfl (vk rfl) dX7_recordCount_8 ?_
  refine gcV_i (rest := []) X (c_X7_done l D cy ad rest C (C.1 0 400)) gy_X7_done gX7_recordCount_X7_done ⟨rfl, rfl, Nat.le_of_ble_eq_true rfl, Nat.le_of_ble_eq_true rfl⟩ 0 rfl rfl rfl hl rfl (Nat.le_of_ble_eq_true rfl) dX7_recordCount_9 ⟨Nat.zero_le _, Nat.zero_le _⟩ hw (fun r1 u2 H locs hr1 hw => ?_)
  obtain ⟨hr1, hu2⟩ : r1 = (F_X7_done C (C.1 0 400)).1 ∧ u2 = (F_X7_done C (C.1 0 400)).2 := hr1
  have hF := hF.trans (bnd_eq hu2)
  try have hS := Eq.mp (bnd_eq hu2) hS
  have hF := hF.trans (bnd_eq hr1)
  try have hS := Eq.mp (bnd_eq hr1) hS
  exact hret _ _ _ _ _ _ dX7_recordCount_12 ⟨congrArg Prod.fst (hF.symm.trans hsp), congrArg Prod.snd (hF.symm.trans hsp)⟩ hw
theorem gy_X7_burstCount : gY yX7_burstCount RX7 cX7_burstCount 3 (some .int) wsX7_burstCount 0 := ⟨⟨_, rfl⟩, rfl, by decide +kernel, by decide +kernel, by decide +kernel⟩
def st_X7_burstCount_4 (C : CS) (v1_2 : Int32) (v1_1 : Int32) : (Int32 × Int32) ⊕ (Int32 × CS) := (if (C.1 0 1401) ≤ v1_2 then (bnd ((F_X7_done C v1_1).2) (fun u4 => (bnd ((F_X7_done C v1_1).1) (fun r3 => .inr ((r3, u4)))))) else (bnd (F_X7_of C v1_2 0) (fun r5 => .inl ((v1_2 + 1), (v1_1 + r5)))))
def Sst_X7_burstCount_4 (C : CS) (v1_2 : Int32) (v1_1 : Int32) : Prop := (if (C.1 0 1401) ≤ v1_2 then True else (S_X7_of C v1_2 0 ∧ True))
def F_X7_burstCount (C : CS) : Int32 × CS := lp (fun (z : Int32 × Int32) => st_X7_burstCount_4 C z.1 z.2) (0, C) (((C.1 0 1401).toInt - (0 : Int32).toInt).toNat + 1) (0, 0)
def S_X7_burstCount (C : CS) : Prop := lpS (fun (z : Int32 × Int32) => st_X7_burstCount_4 C z.1 z.2) (fun (z : Int32 × Int32) => Sst_X7_burstCount_4 C z.1 z.2) (((C.1 0 1401).toInt - (0 : Int32).toInt).toNat + 1) (0, 0)
abbrev rmX7_burstCount : Room := { frames := 1, cells := 0, slots := 0, locals := 22 }
set_option maxHeartbeats 4000000 in
set_option maxRecDepth 100000 in
theorem c_X7_burstCount (l : Launch) (D : va_G) (cy : Nat → ClassId) (ad : Nat → Nat) (rest : va_W) (C : CS) (hS : S_X7_burstCount C) : GMi l yX7_burstCount wsX7_burstCount rmX7_burstCount D cy [.ref (ad 0)] (MW cy ad C ++ rest) (fun (r : Int32) (u : CS) => r = (F_X7_burstCount C).1 ∧ u = (F_X7_burstCount C).2) (fun u => MW cy ad u ++ rest) := by
  refine GMi.intro cX7_burstCount 3 RX7 (by decide) rfl rfl (Nat.le_of_ble_eq_true rfl) ?_
  intro p e s m args below meth c A Q ls X hret hl hw
  have hx := X.1
  have hb := X.2.1
  have hl : lv_has ls 3 [(0, .ref (ad 0))] := hl
  have inX7 : ∀ w ∈ wsX70, w ∈ wsX7_burstCount := fun w h => List.mem_cons_of_mem _ (List.mem_append_left _ (List.mem_append_right _ h))
  obtain ⟨sp, hsp⟩ : ∃ sp, sp = F_X7_burstCount C := ⟨_, rfl⟩
  have hF := hsp.trans (F_X7_burstCount.eq_1 C)
  have hS := Eq.mp (S_X7_burstCount.eq_1 C) hS
  refine lv_iconst (v := 0) hx hb dX7_burstCount_0 (by decide) ?_
  refine lv_istore_n (lv' := [(1, .int 0), (0, .ref (ad 0))]) hx hb dX7_burstCount_1 rfl hl (by decide) rfl (fun ls hl => ?_)
  refine lv_iconst (v := 0) hx hb dX7_burstCount_2 (by decide) ?_
  refine lv_istore_n (lv' := [(2, .int 0), (1, .int 0), (0, .ref (ad 0))]) hx hb dX7_burstCount_3 rfl hl (by decide) rfl (fun ls hl => ?_)
  have L1 : ∀ (n1 : Nat) (v1_2 : Int32) (v1_1 : Int32), sp = lp (fun (z : Int32 × Int32) => st_X7_burstCount_4 C z.1 z.2) (0, C) n1 (v1_2, v1_1) → lpS (fun (z : Int32 × Int32) => st_X7_burstCount_4 C z.1 z.2) (fun (z : Int32 × Int32) => Sst_X7_burstCount_4 C z.1 z.2) n1 (v1_2, v1_1) → ∀ (H : Heap) (locs : List Loc) (ls : Array Slot), lv_has ls 3 [(2, .int v1_2), (1, .int v1_1), (0, .ref (ad 0))] → gw D A s.heap (MW cy ad C ++ rest) H locs → W p l e rmX7_burstCount s m args below meth c H locs 0 0 Q (F0 m 4 ls []) := by
    intro n1
    induction n1 with
    | zero => intro v1_2 v1_1 hF hL; exact False.elim hL
    | succ n1 ih1 =>
      intro v1_2 v1_1 hF hL H locs ls hl hw
      have hT1 := st_X7_burstCount_4.eq_1 C v1_2 v1_1
      have hLn1 := hL.2
      have hS := Eq.mp (Sst_X7_burstCount_4.eq_1 C v1_2 v1_1) hL.1
      refine lv_iload_n hx hb dX7_burstCount_4 rfl (lv_at hl 0 rfl) ?_
      refine lv_aload_n hx hb dX7_burstCount_5 rfl (lv_at hl 2 rfl) ?_
      refine g_get (v := .ref (ad 1)) (C := RX7) (T := TX7) (N := 16) (ci := 9) X inX7 hw 0 rfl rfl 1 (by decide) (List.mem_of_getElem? (i := 1) rfl) rfl rfl dX7_burstCount_6 ?_
      refine lv_sipush (v := 1401) hx hb dX7_burstCount_9 (by decide) ?_
      refine g_ialdk (k := 1401) rfl X hw 1 rfl (vk rfl) dX7_burstCount_12 ?_
      refine lv_icmp_ge (tgt := 31) hx hb dX7_burstCount_13 (by decide) (fun c2 => ?_) (fun c2 => ?_)
      · skip
        have hT1 := hT1.trans (if_pos c2)
        try have hS := Eq.mp (if_pos c2) hS
        refine lv_aload_n hx hb dX7_burstCount_31 rfl (lv_at hl 2 rfl) ?_
        refine lv_iload_n hx hb dX7_burstCount_32 rfl (lv_at hl 1 rfl) ?_
        refine gcV_i (rest := []) X (c_X7_done l D cy ad rest C v1_1) gy_X7_done gX7_burstCount_X7_done ⟨rfl, rfl, Nat.le_of_ble_eq_true rfl, Nat.le_of_ble_eq_true rfl⟩ 0 rfl rfl rfl hl rfl (Nat.le_of_ble_eq_true rfl) dX7_burstCount_33 ⟨Nat.zero_le _, Nat.zero_le _⟩ hw (fun r3 u4 H locs hr3 hw => ?_)
        obtain ⟨hr3, hu4⟩ : r3 = (F_X7_done C v1_1).1 ∧ u4 = (F_X7_done C v1_1).2 := hr3
        have hT1 := hT1.trans (bnd_eq hu4)
        try have hS := Eq.mp (bnd_eq hu4) hS
        have hT1 := hT1.trans (bnd_eq hr3)
        try have hS := Eq.mp (bnd_eq hr3) hS
        exact hret _ _ _ _ _ _ dX7_burstCount_36 ⟨congrArg Prod.fst ((hF.trans (lp_r hT1)).symm.trans hsp), congrArg Prod.snd ((hF.trans (lp_r hT1)).symm.trans hsp)⟩ hw
      · skip
        have hT1 := hT1.trans (if_neg c2)
        try have hS := Eq.mp (if_neg c2) hS
        refine lv_iload_n hx hb dX7_burstCount_16 rfl (lv_at hl 1 rfl) ?_
        refine lv_aload_n hx hb dX7_burstCount_17 rfl (lv_at hl 2 rfl) ?_
        refine lv_iload_n hx hb dX7_burstCount_18 rfl (lv_at hl 0 rfl) ?_
        refine lv_iconst (v := 0) hx hb dX7_burstCount_19 (by decide) ?_
        have hSc : S_X7_of C v1_2 0 := hS.1
        have hS := hS.2
        refine gcV_i (rest := [.int v1_1]) X (c_X7_of l D cy ad rest C v1_2 0 hSc) gy_X7_of gX7_burstCount_X7_of ⟨rfl, rfl, Nat.le_of_ble_eq_true rfl, Nat.le_of_ble_eq_true rfl⟩ 0 rfl rfl rfl hl rfl (Nat.le_of_ble_eq_true rfl) dX7_burstCount_20 ⟨Nat.zero_le _, Nat.zero_le _⟩ hw (fun r5 _ H locs hr5 hw => ?_)
        have hr5 : r5 = F_X7_of C v1_2 0 := hr5
        have hT1 := hT1.trans (bnd_eq hr5)
        try have hS := Eq.mp (bnd_eq hr5) hS
        refine lv_iadd hx hb dX7_burstCount_23 ?_
        refine lv_istore_n (lv' := [(1, .int (v1_1 + r5)), (2, .int v1_2), (0, .ref (ad 0))]) hx hb dX7_burstCount_24 rfl hl (by decide) rfl (fun ls hl => ?_)
        refine lv_iinc (v := (v1_2 + 1)) (lv' := [(2, .int (v1_2 + 1)), (1, .int (v1_1 + r5)), (0, .ref (ad 0))]) hx hb dX7_burstCount_25 hl (k := 1) rfl rfl (by decide) rfl (fun ls hl => ?_)
        refine lv_goto (tgt := 4) hx hb dX7_burstCount_28 (by decide) ?_
        exact ih1 (v1_2 + 1) (v1_1 + r5) (hF.trans (lp_l hT1)) (hLn1 _ hT1) _ _ ls (lv_sub hl [0, 1, 2] rfl) hw
  exact L1 _ 0 0 hF hS _ _ ls (lv_sub hl [0, 1, 2] rfl) hw
theorem gy_X7_openCount : gY yX7_openCount RX7 cX7_openCount 3 (some .int) wsX7_openCount 0 := ⟨⟨_, rfl⟩, rfl, by decide +kernel, by decide +kernel, by decide +kernel⟩
def st_X7_openCount_4 (C : CS) (v1_2 : Int32) (v1_1 : Int32) : (Int32 × Int32) ⊕ (Int32 × CS) := (if (C.1 0 1401) ≤ v1_2 then (bnd ((F_X7_done C v1_1).2) (fun u4 => (bnd ((F_X7_done C v1_1).1) (fun r3 => .inr ((r3, u4)))))) else (bnd (F_X7_isOpen C v1_2) (fun r5 => (if r5 = 0 then .inl ((v1_2 + 1), (v1_1 + 0)) else .inl ((v1_2 + 1), (v1_1 + 1))))))
def Sst_X7_openCount_4 (C : CS) (v1_2 : Int32) (v1_1 : Int32) : Prop := (if (C.1 0 1401) ≤ v1_2 then True else (S_X7_isOpen C v1_2 ∧ True))
def F_X7_openCount (C : CS) : Int32 × CS := lp (fun (z : Int32 × Int32) => st_X7_openCount_4 C z.1 z.2) (0, C) (((C.1 0 1401).toInt - (0 : Int32).toInt).toNat + 1) (0, 0)
def S_X7_openCount (C : CS) : Prop := lpS (fun (z : Int32 × Int32) => st_X7_openCount_4 C z.1 z.2) (fun (z : Int32 × Int32) => Sst_X7_openCount_4 C z.1 z.2) (((C.1 0 1401).toInt - (0 : Int32).toInt).toNat + 1) (0, 0)
abbrev rmX7_openCount : Room := { frames := 3, cells := 0, slots := 0, locals := 64 }
set_option maxHeartbeats 4000000 in
set_option maxRecDepth 100000 in
theorem c_X7_openCount (l : Launch) (D : va_G) (cy : Nat → ClassId) (ad : Nat → Nat) (rest : va_W) (C : CS) (hS : S_X7_openCount C) : GMi l yX7_openCount wsX7_openCount rmX7_openCount D cy [.ref (ad 0)] (MW cy ad C ++ rest) (fun (r : Int32) (u : CS) => r = (F_X7_openCount C).1 ∧ u = (F_X7_openCount C).2) (fun u => MW cy ad u ++ rest) := by
  refine GMi.intro cX7_openCount 3 RX7 (by decide) rfl rfl (Nat.le_of_ble_eq_true rfl) ?_
  intro p e s m args below meth c A Q ls X hret hl hw
  have hx := X.1
  have hb := X.2.1
  have hl : lv_has ls 3 [(0, .ref (ad 0))] := hl
  have inX7 : ∀ w ∈ wsX70, w ∈ wsX7_openCount := fun w h => List.mem_cons_of_mem _ (List.mem_append_left _ (List.mem_append_right _ h))
  obtain ⟨sp, hsp⟩ : ∃ sp, sp = F_X7_openCount C := ⟨_, rfl⟩
  have hF := hsp.trans (F_X7_openCount.eq_1 C)
  have hS := Eq.mp (S_X7_openCount.eq_1 C) hS
  refine lv_iconst (v := 0) hx hb dX7_openCount_0 (by decide) ?_
  refine lv_istore_n (lv' := [(1, .int 0), (0, .ref (ad 0))]) hx hb dX7_openCount_1 rfl hl (by decide) rfl (fun ls hl => ?_)
  refine lv_iconst (v := 0) hx hb dX7_openCount_2 (by decide) ?_
  refine lv_istore_n (lv' := [(2, .int 0), (1, .int 0), (0, .ref (ad 0))]) hx hb dX7_openCount_3 rfl hl (by decide) rfl (fun ls hl => ?_)
  have L1 : ∀ (n1 : Nat) (v1_2 : Int32) (v1_1 : Int32), sp = lp (fun (z : Int32 × Int32) => st_X7_openCount_4 C z.1 z.2) (0, C) n1 (v1_2, v1_1) → lpS (fun (z : Int32 × Int32) => st_X7_openCount_4 C z.1 z.2) (fun (z : Int32 × Int32) => Sst_X7_openCount_4 C z.1 z.2) n1 (v1_2, v1_1) → ∀ (H : Heap) (locs : List Loc) (ls : Array Slot), lv_has ls 3 [(2, .int v1_2), (1, .int v1_1), (0, .ref (ad 0))] → gw D A s.heap (MW cy ad C ++ rest) H locs → W p l e rmX7_openCount s m args below meth c H locs 0 0 Q (F0 m 4 ls []) := by
    intro n1
    induction n1 with
    | zero => intro v1_2 v1_1 hF hL; exact False.elim hL
    | succ n1 ih1 =>
      intro v1_2 v1_1 hF hL H locs ls hl hw
      have hT1 := st_X7_openCount_4.eq_1 C v1_2 v1_1
      have hLn1 := hL.2
      have hS := Eq.mp (Sst_X7_openCount_4.eq_1 C v1_2 v1_1) hL.1
      refine lv_iload_n hx hb dX7_openCount_4 rfl (lv_at hl 0 rfl) ?_
      refine lv_aload_n hx hb dX7_openCount_5 rfl (lv_at hl 2 rfl) ?_
      refine g_get (v := .ref (ad 1)) (C := RX7) (T := TX7) (N := 16) (ci := 9) X inX7 hw 0 rfl rfl 1 (by decide) (List.mem_of_getElem? (i := 1) rfl) rfl rfl dX7_openCount_6 ?_
      refine lv_sipush (v := 1401) hx hb dX7_openCount_9 (by decide) ?_
      refine g_ialdk (k := 1401) rfl X hw 1 rfl (vk rfl) dX7_openCount_12 ?_
      refine lv_icmp_ge (tgt := 38) hx hb dX7_openCount_13 (by decide) (fun c2 => ?_) (fun c2 => ?_)
      · skip
        have hT1 := hT1.trans (if_pos c2)
        try have hS := Eq.mp (if_pos c2) hS
        refine lv_aload_n hx hb dX7_openCount_38 rfl (lv_at hl 2 rfl) ?_
        refine lv_iload_n hx hb dX7_openCount_39 rfl (lv_at hl 1 rfl) ?_
        refine gcV_i (rest := []) X (c_X7_done l D cy ad rest C v1_1) gy_X7_done gX7_openCount_X7_done ⟨rfl, rfl, Nat.le_of_ble_eq_true rfl, Nat.le_of_ble_eq_true rfl⟩ 0 rfl rfl rfl hl rfl (Nat.le_of_ble_eq_true rfl) dX7_openCount_40 ⟨Nat.zero_le _, Nat.zero_le _⟩ hw (fun r3 u4 H locs hr3 hw => ?_)
        obtain ⟨hr3, hu4⟩ : r3 = (F_X7_done C v1_1).1 ∧ u4 = (F_X7_done C v1_1).2 := hr3
        have hT1 := hT1.trans (bnd_eq hu4)
        try have hS := Eq.mp (bnd_eq hu4) hS
        have hT1 := hT1.trans (bnd_eq hr3)
        try have hS := Eq.mp (bnd_eq hr3) hS
        exact hret _ _ _ _ _ _ dX7_openCount_43 ⟨congrArg Prod.fst ((hF.trans (lp_r hT1)).symm.trans hsp), congrArg Prod.snd ((hF.trans (lp_r hT1)).symm.trans hsp)⟩ hw
      · skip
        have hT1 := hT1.trans (if_neg c2)
        try have hS := Eq.mp (if_neg c2) hS
        refine lv_iload_n hx hb dX7_openCount_16 rfl (lv_at hl 1 rfl) ?_
        refine lv_aload_n hx hb dX7_openCount_17 rfl (lv_at hl 2 rfl) ?_
        refine lv_iload_n hx hb dX7_openCount_18 rfl (lv_at hl 0 rfl) ?_
        have hSc : S_X7_isOpen C v1_2 := hS.1
        have hS := hS.2
        refine gcV_i (rest := [.int v1_1]) X (c_X7_isOpen l D cy ad rest C v1_2 hSc) gy_X7_isOpen gX7_openCount_X7_isOpen ⟨rfl, rfl, Nat.le_of_ble_eq_true rfl, Nat.le_of_ble_eq_true rfl⟩ 0 rfl rfl rfl hl rfl (Nat.le_of_ble_eq_true rfl) dX7_openCount_19 ⟨Nat.zero_le _, Nat.zero_le _⟩ hw (fun r5 _ H locs hr5 hw => ?_)
        obtain ⟨hr5, zr5⟩ : r5 = F_X7_isOpen C v1_2 ∧ (r5 = 0 ∨ r5 = 1) := hr5
        have hT1 := hT1.trans (bnd_eq hr5)
        try have hS := Eq.mp (bnd_eq hr5) hS
        refine lv_if_eq (tgt := 29) hx hb dX7_openCount_22 (by decide) (fun c7 => ?_) (fun c7 => ?_)
        · skip
          have hT1 := hT1.trans (if_pos c7)
          try have hS := Eq.mp (if_pos c7) hS
          refine lv_iconst (v := 0) hx hb dX7_openCount_29 (by decide) ?_
          refine lv_iadd hx hb dX7_openCount_30 ?_
          refine lv_istore_n (lv' := [(1, .int (v1_1 + 0)), (2, .int v1_2), (0, .ref (ad 0))]) hx hb dX7_openCount_31 rfl hl (by decide) rfl (fun ls hl => ?_)
          refine lv_iinc (v := (v1_2 + 1)) (lv' := [(2, .int (v1_2 + 1)), (1, .int (v1_1 + 0)), (0, .ref (ad 0))]) hx hb dX7_openCount_32 hl (k := 1) rfl rfl (by decide) rfl (fun ls hl => ?_)
          refine lv_goto (tgt := 4) hx hb dX7_openCount_35 (by decide) ?_
          exact ih1 (v1_2 + 1) (v1_1 + 0) (hF.trans (lp_l hT1)) (hLn1 _ hT1) _ _ ls (lv_sub hl [0, 1, 2] rfl) hw
        · skip
          have hT1 := hT1.trans (if_neg c7)
          try have hS := Eq.mp (if_neg c7) hS
          refine lv_iconst (v := 1) hx hb dX7_openCount_25 (by decide) ?_
          refine lv_goto (tgt := 30) hx hb dX7_openCount_26 (by decide) ?_
          refine lv_iadd hx hb dX7_openCount_30 ?_
          refine lv_istore_n (lv' := [(1, .int (v1_1 + 1)), (2, .int v1_2), (0, .ref (ad 0))]) hx hb dX7_openCount_31 rfl hl (by decide) rfl (fun ls hl => ?_)
          refine lv_iinc (v := (v1_2 + 1)) (lv' := [(2, .int (v1_2 + 1)), (1, .int (v1_1 + 1)), (0, .ref (ad 0))]) hx hb dX7_openCount_32 hl (k := 1) rfl rfl (by decide) rfl (fun ls hl => ?_)
          refine lv_goto (tgt := 4) hx hb dX7_openCount_35 (by decide) ?_
          exact ih1 (v1_2 + 1) (v1_1 + 1) (hF.trans (lp_l hT1)) (hLn1 _ hT1) _ _ ls (lv_sub hl [0, 1, 2] rfl) hw
  exact L1 _ 0 0 hF hS _ _ ls (lv_sub hl [0, 1, 2] rfl) hw
theorem gy_X7_burst : gY yX7_burst RX7 cX7_burst 3 (some .int) wsX7_burst 2 := ⟨⟨_, rfl⟩, rfl, by decide +kernel, by decide +kernel, by decide +kernel⟩
def F_X7_burst (C : CS) (q1 : Int32) (q2 : Int32) : Int32 × CS := (bnd (F_X7_isBurst C q1) (fun r1 => (if r1 = 0 then (bnd ((F_X7_fails C 1).2) (fun u37 => (bnd ((F_X7_fails C 1).1) (fun r36 => (r36, u37))))) else (if q2 = 0 then (bnd (F_X7_of C q1 1) (fun r5 => (bnd ((F_X7_done C r5).2) (fun u8 => (bnd ((F_X7_done C r5).1) (fun r7 => (r7, u8))))))) else (if q2 = 1 then (bnd (F_X7_of C q1 2) (fun r10 => (bnd ((F_X7_done C r10).2) (fun u13 => (bnd ((F_X7_done C r10).1) (fun r12 => (r12, u13))))))) else (if q2 = 2 then (bnd (F_X7_of C q1 3) (fun r15 => (bnd ((F_X7_done C r15).2) (fun u18 => (bnd ((F_X7_done C r15).1) (fun r17 => (r17, u18))))))) else (if q2 = 3 then (bnd (F_X7_many C q1) (fun r20 => (bnd ((F_X7_done C r20).2) (fun u23 => (bnd ((F_X7_done C r20).1) (fun r22 => (r22, u23))))))) else (if q2 = 4 then (bnd (F_X7_resultOf C q1) (fun r25 => (bnd ((F_X7_done C r25).2) (fun u28 => (bnd ((F_X7_done C r25).1) (fun r27 => (r27, u28))))))) else (if q2 = 5 then (bnd (F_X7_of C q1 9) (fun r30 => (bnd ((F_X7_done C r30).2) (fun u33 => (bnd ((F_X7_done C r30).1) (fun r32 => (r32, u33))))))) else (bnd ((F_X7_fails C 2).2) (fun u35 => (bnd ((F_X7_fails C 2).1) (fun r34 => (r34, u35))))))))))))))
def S_X7_burst (C : CS) (q1 : Int32) (q2 : Int32) : Prop := (S_X7_isBurst C q1 ∧ (bnd (F_X7_isBurst C q1) (fun r1 => (if r1 = 0 then True else (if q2 = 0 then (S_X7_of C q1 1 ∧ True) else (if q2 = 1 then (S_X7_of C q1 2 ∧ True) else (if q2 = 2 then (S_X7_of C q1 3 ∧ True) else (if q2 = 3 then (S_X7_many C q1 ∧ True) else (if q2 = 4 then (S_X7_resultOf C q1 ∧ True) else (if q2 = 5 then (S_X7_of C q1 9 ∧ True) else True))))))))))
abbrev rmX7_burst : Room := { frames := 2, cells := 0, slots := 0, locals := 48 }
set_option maxHeartbeats 4000000 in
set_option maxRecDepth 100000 in
theorem c_X7_burst (l : Launch) (D : va_G) (cy : Nat → ClassId) (ad : Nat → Nat) (rest : va_W) (C : CS) (q1 : Int32) (q2 : Int32) (hS : S_X7_burst C q1 q2) : GMi l yX7_burst wsX7_burst rmX7_burst D cy [.ref (ad 0), .int q1, .int q2] (MW cy ad C ++ rest) (fun (r : Int32) (u : CS) => r = (F_X7_burst C q1 q2).1 ∧ u = (F_X7_burst C q1 q2).2) (fun u => MW cy ad u ++ rest) := by
  refine GMi.intro cX7_burst 3 RX7 (by decide) rfl rfl (Nat.le_of_ble_eq_true rfl) ?_
  intro p e s m args below meth c A Q ls X hret hl hw
  have hx := X.1
  have hb := X.2.1
  have hl : lv_has ls 3 [(0, .ref (ad 0)), (1, .int q1), (2, .int q2)] := hl
  obtain ⟨sp, hsp⟩ : ∃ sp, sp = F_X7_burst C q1 q2 := ⟨_, rfl⟩
  have hF := hsp.trans (F_X7_burst.eq_1 C q1 q2)
  have hS := Eq.mp (S_X7_burst.eq_1 C q1 q2) hS
  refine lv_aload_n hx hb dX7_burst_0 rfl (lv_at hl 0 rfl) ?_
  refine lv_iload_n hx hb dX7_burst_1 rfl (lv_at hl 1 rfl) ?_
  have hSc : S_X7_isBurst C q1 := hS.1
  have hS := hS.2
  refine gcV_i (rest := []) X (c_X7_isBurst l D cy ad rest C q1 hSc) gy_X7_isBurst gX7_burst_X7_isBurst ⟨rfl, rfl, Nat.le_of_ble_eq_true rfl, Nat.le_of_ble_eq_true rfl⟩ 0 rfl rfl rfl hl rfl (Nat.le_of_ble_eq_true rfl) dX7_burst_2 ⟨Nat.zero_le _, Nat.zero_le _⟩ hw (fun r1 _ H locs hr1 hw => ?_)
  obtain ⟨hr1, zr1⟩ : r1 = F_X7_isBurst C q1 ∧ (r1 = 0 ∨ r1 = 1) := hr1
  have hF := hF.trans (bnd_eq hr1)
  try have hS := Eq.mp (bnd_eq hr1) hS
  refine lv_if_ne (tgt := 14) hx hb dX7_burst_5 (by decide) (fun c3 => ?_) (fun c3 => ?_)
  · skip
    have hF := hF.trans (if_neg c3)
    try have hS := Eq.mp (if_neg c3) hS
    refine lv_iload_n hx hb dX7_burst_14 rfl (lv_at hl 2 rfl) ?_
    rcases Decidable.em (q2 = 0) with c4 | c4
    · skip
      have hF := hF.trans (if_pos c4)
      try have hS := Eq.mp (if_pos c4) hS
      refine lv_tableIn (off := 37) (tgt := 52) hx hb dX7_burst_15 (by rw [c4]; decide) (by rw [c4]; decide) (by rw [c4]; decide) (by decide) ?_
      refine lv_aload_n hx hb dX7_burst_52 rfl (lv_at hl 0 rfl) ?_
      refine lv_aload_n hx hb dX7_burst_53 rfl (lv_at hl 0 rfl) ?_
      refine lv_iload_n hx hb dX7_burst_54 rfl (lv_at hl 1 rfl) ?_
      refine lv_iconst (v := 1) hx hb dX7_burst_55 (by decide) ?_
      have hSc : S_X7_of C q1 1 := hS.1
      have hS := hS.2
      refine gcV_i (rest := [.ref (ad 0)]) X (c_X7_of l D cy ad rest C q1 1 hSc) gy_X7_of gX7_burst_X7_of ⟨rfl, rfl, Nat.le_of_ble_eq_true rfl, Nat.le_of_ble_eq_true rfl⟩ 0 rfl rfl rfl hl rfl (Nat.le_of_ble_eq_true rfl) dX7_burst_56 ⟨Nat.zero_le _, Nat.zero_le _⟩ hw (fun r5 _ H locs hr5 hw => ?_)
      have hr5 : r5 = F_X7_of C q1 1 := hr5
      have hF := hF.trans (bnd_eq hr5)
      try have hS := Eq.mp (bnd_eq hr5) hS
      refine gcV_i (rest := []) X (c_X7_done l D cy ad rest C r5) gy_X7_done gX7_burst_X7_done ⟨rfl, rfl, Nat.le_of_ble_eq_true rfl, Nat.le_of_ble_eq_true rfl⟩ 0 rfl rfl rfl hl rfl (Nat.le_of_ble_eq_true rfl) dX7_burst_59 ⟨Nat.zero_le _, Nat.zero_le _⟩ hw (fun r7 u8 H locs hr7 hw => ?_)
      obtain ⟨hr7, hu8⟩ : r7 = (F_X7_done C r5).1 ∧ u8 = (F_X7_done C r5).2 := hr7
      have hF := hF.trans (bnd_eq hu8)
      try have hS := Eq.mp (bnd_eq hu8) hS
      have hF := hF.trans (bnd_eq hr7)
      try have hS := Eq.mp (bnd_eq hr7) hS
      exact hret _ _ _ _ _ _ dX7_burst_62 ⟨congrArg Prod.fst (hF.symm.trans hsp), congrArg Prod.snd (hF.symm.trans hsp)⟩ hw
    · skip
      have hF := hF.trans (if_neg c4)
      try have hS := Eq.mp (if_neg c4) hS
      rcases Decidable.em (q2 = 1) with c9 | c9
      · skip
        have hF := hF.trans (if_pos c9)
        try have hS := Eq.mp (if_pos c9) hS
        refine lv_tableIn (off := 48) (tgt := 63) hx hb dX7_burst_15 (by rw [c9]; decide) (by rw [c9]; decide) (by rw [c9]; decide) (by decide) ?_
        refine lv_aload_n hx hb dX7_burst_63 rfl (lv_at hl 0 rfl) ?_
        refine lv_aload_n hx hb dX7_burst_64 rfl (lv_at hl 0 rfl) ?_
        refine lv_iload_n hx hb dX7_burst_65 rfl (lv_at hl 1 rfl) ?_
        refine lv_iconst (v := 2) hx hb dX7_burst_66 (by decide) ?_
        have hSc : S_X7_of C q1 2 := hS.1
        have hS := hS.2
        refine gcV_i (rest := [.ref (ad 0)]) X (c_X7_of l D cy ad rest C q1 2 hSc) gy_X7_of gX7_burst_X7_of ⟨rfl, rfl, Nat.le_of_ble_eq_true rfl, Nat.le_of_ble_eq_true rfl⟩ 0 rfl rfl rfl hl rfl (Nat.le_of_ble_eq_true rfl) dX7_burst_67 ⟨Nat.zero_le _, Nat.zero_le _⟩ hw (fun r10 _ H locs hr10 hw => ?_)
        have hr10 : r10 = F_X7_of C q1 2 := hr10
        have hF := hF.trans (bnd_eq hr10)
        try have hS := Eq.mp (bnd_eq hr10) hS
        refine gcV_i (rest := []) X (c_X7_done l D cy ad rest C r10) gy_X7_done gX7_burst_X7_done ⟨rfl, rfl, Nat.le_of_ble_eq_true rfl, Nat.le_of_ble_eq_true rfl⟩ 0 rfl rfl rfl hl rfl (Nat.le_of_ble_eq_true rfl) dX7_burst_70 ⟨Nat.zero_le _, Nat.zero_le _⟩ hw (fun r12 u13 H locs hr12 hw => ?_)
        obtain ⟨hr12, hu13⟩ : r12 = (F_X7_done C r10).1 ∧ u13 = (F_X7_done C r10).2 := hr12
        have hF := hF.trans (bnd_eq hu13)
        try have hS := Eq.mp (bnd_eq hu13) hS
        have hF := hF.trans (bnd_eq hr12)
        try have hS := Eq.mp (bnd_eq hr12) hS
        exact hret _ _ _ _ _ _ dX7_burst_73 ⟨congrArg Prod.fst (hF.symm.trans hsp), congrArg Prod.snd (hF.symm.trans hsp)⟩ hw
      · skip
        have hF := hF.trans (if_neg c9)
        try have hS := Eq.mp (if_neg c9) hS
        rcases Decidable.em (q2 = 2) with c14 | c14
        · skip
          have hF := hF.trans (if_pos c14)
          try have hS := Eq.mp (if_pos c14) hS
          refine lv_tableIn (off := 59) (tgt := 74) hx hb dX7_burst_15 (by rw [c14]; decide) (by rw [c14]; decide) (by rw [c14]; decide) (by decide) ?_
          refine lv_aload_n hx hb dX7_burst_74 rfl (lv_at hl 0 rfl) ?_
          refine lv_aload_n hx hb dX7_burst_75 rfl (lv_at hl 0 rfl) ?_
          refine lv_iload_n hx hb dX7_burst_76 rfl (lv_at hl 1 rfl) ?_
          refine lv_iconst (v := 3) hx hb dX7_burst_77 (by decide) ?_
          have hSc : S_X7_of C q1 3 := hS.1
          have hS := hS.2
          refine gcV_i (rest := [.ref (ad 0)]) X (c_X7_of l D cy ad rest C q1 3 hSc) gy_X7_of gX7_burst_X7_of ⟨rfl, rfl, Nat.le_of_ble_eq_true rfl, Nat.le_of_ble_eq_true rfl⟩ 0 rfl rfl rfl hl rfl (Nat.le_of_ble_eq_true rfl) dX7_burst_78 ⟨Nat.zero_le _, Nat.zero_le _⟩ hw (fun r15 _ H locs hr15 hw => ?_)
          have hr15 : r15 = F_X7_of C q1 3 := hr15
          have hF := hF.trans (bnd_eq hr15)
          try have hS := Eq.mp (bnd_eq hr15) hS
          refine gcV_i (rest := []) X (c_X7_done l D cy ad rest C r15) gy_X7_done gX7_burst_X7_done ⟨rfl, rfl, Nat.le_of_ble_eq_true rfl, Nat.le_of_ble_eq_true rfl⟩ 0 rfl rfl rfl hl rfl (Nat.le_of_ble_eq_true rfl) dX7_burst_81 ⟨Nat.zero_le _, Nat.zero_le _⟩ hw (fun r17 u18 H locs hr17 hw => ?_)
          obtain ⟨hr17, hu18⟩ : r17 = (F_X7_done C r15).1 ∧ u18 = (F_X7_done C r15).2 := hr17
          have hF := hF.trans (bnd_eq hu18)
          try have hS := Eq.mp (bnd_eq hu18) hS
          have hF := hF.trans (bnd_eq hr17)
          try have hS := Eq.mp (bnd_eq hr17) hS
          exact hret _ _ _ _ _ _ dX7_burst_84 ⟨congrArg Prod.fst (hF.symm.trans hsp), congrArg Prod.snd (hF.symm.trans hsp)⟩ hw
        · skip
          have hF := hF.trans (if_neg c14)
          try have hS := Eq.mp (if_neg c14) hS
          rcases Decidable.em (q2 = 3) with c19 | c19
          · skip
            have hF := hF.trans (if_pos c19)
            try have hS := Eq.mp (if_pos c19) hS
            refine lv_tableIn (off := 70) (tgt := 85) hx hb dX7_burst_15 (by rw [c19]; decide) (by rw [c19]; decide) (by rw [c19]; decide) (by decide) ?_
            refine lv_aload_n hx hb dX7_burst_85 rfl (lv_at hl 0 rfl) ?_
            refine lv_aload_n hx hb dX7_burst_86 rfl (lv_at hl 0 rfl) ?_
            refine lv_iload_n hx hb dX7_burst_87 rfl (lv_at hl 1 rfl) ?_
            have hSc : S_X7_many C q1 := hS.1
            have hS := hS.2
            refine gcV_i (rest := [.ref (ad 0)]) X (c_X7_many l D cy ad rest C q1 hSc) gy_X7_many gX7_burst_X7_many ⟨rfl, rfl, Nat.le_of_ble_eq_true rfl, Nat.le_of_ble_eq_true rfl⟩ 0 rfl rfl rfl hl rfl (Nat.le_of_ble_eq_true rfl) dX7_burst_88 ⟨Nat.zero_le _, Nat.zero_le _⟩ hw (fun r20 _ H locs hr20 hw => ?_)
            have hr20 : r20 = F_X7_many C q1 := hr20
            have hF := hF.trans (bnd_eq hr20)
            try have hS := Eq.mp (bnd_eq hr20) hS
            refine gcV_i (rest := []) X (c_X7_done l D cy ad rest C r20) gy_X7_done gX7_burst_X7_done ⟨rfl, rfl, Nat.le_of_ble_eq_true rfl, Nat.le_of_ble_eq_true rfl⟩ 0 rfl rfl rfl hl rfl (Nat.le_of_ble_eq_true rfl) dX7_burst_91 ⟨Nat.zero_le _, Nat.zero_le _⟩ hw (fun r22 u23 H locs hr22 hw => ?_)
            obtain ⟨hr22, hu23⟩ : r22 = (F_X7_done C r20).1 ∧ u23 = (F_X7_done C r20).2 := hr22
            have hF := hF.trans (bnd_eq hu23)
            try have hS := Eq.mp (bnd_eq hu23) hS
            have hF := hF.trans (bnd_eq hr22)
            try have hS := Eq.mp (bnd_eq hr22) hS
            exact hret _ _ _ _ _ _ dX7_burst_94 ⟨congrArg Prod.fst (hF.symm.trans hsp), congrArg Prod.snd (hF.symm.trans hsp)⟩ hw
          · skip
            have hF := hF.trans (if_neg c19)
            try have hS := Eq.mp (if_neg c19) hS
            rcases Decidable.em (q2 = 4) with c24 | c24
            · skip
              have hF := hF.trans (if_pos c24)
              try have hS := Eq.mp (if_pos c24) hS
              refine lv_tableIn (off := 80) (tgt := 95) hx hb dX7_burst_15 (by rw [c24]; decide) (by rw [c24]; decide) (by rw [c24]; decide) (by decide) ?_
              refine lv_aload_n hx hb dX7_burst_95 rfl (lv_at hl 0 rfl) ?_
              refine lv_aload_n hx hb dX7_burst_96 rfl (lv_at hl 0 rfl) ?_
              refine lv_iload_n hx hb dX7_burst_97 rfl (lv_at hl 1 rfl) ?_
              have hSc : S_X7_resultOf C q1 := hS.1
              have hS := hS.2
              refine gcV_i (rest := [.ref (ad 0)]) X (c_X7_resultOf l D cy ad rest C q1 hSc) gy_X7_resultOf gX7_burst_X7_resultOf ⟨rfl, rfl, Nat.le_of_ble_eq_true rfl, Nat.le_of_ble_eq_true rfl⟩ 0 rfl rfl rfl hl rfl (Nat.le_of_ble_eq_true rfl) dX7_burst_98 ⟨Nat.zero_le _, Nat.zero_le _⟩ hw (fun r25 _ H locs hr25 hw => ?_)
              have hr25 : r25 = F_X7_resultOf C q1 := hr25
              have hF := hF.trans (bnd_eq hr25)
              try have hS := Eq.mp (bnd_eq hr25) hS
              refine gcV_i (rest := []) X (c_X7_done l D cy ad rest C r25) gy_X7_done gX7_burst_X7_done ⟨rfl, rfl, Nat.le_of_ble_eq_true rfl, Nat.le_of_ble_eq_true rfl⟩ 0 rfl rfl rfl hl rfl (Nat.le_of_ble_eq_true rfl) dX7_burst_101 ⟨Nat.zero_le _, Nat.zero_le _⟩ hw (fun r27 u28 H locs hr27 hw => ?_)
              obtain ⟨hr27, hu28⟩ : r27 = (F_X7_done C r25).1 ∧ u28 = (F_X7_done C r25).2 := hr27
              have hF := hF.trans (bnd_eq hu28)
              try have hS := Eq.mp (bnd_eq hu28) hS
              have hF := hF.trans (bnd_eq hr27)
              try have hS := Eq.mp (bnd_eq hr27) hS
              exact hret _ _ _ _ _ _ dX7_burst_104 ⟨congrArg Prod.fst (hF.symm.trans hsp), congrArg Prod.snd (hF.symm.trans hsp)⟩ hw
            · skip
              have hF := hF.trans (if_neg c24)
              try have hS := Eq.mp (if_neg c24) hS
              rcases Decidable.em (q2 = 5) with c29 | c29
              · skip
                have hF := hF.trans (if_pos c29)
                try have hS := Eq.mp (if_pos c29) hS
                refine lv_tableIn (off := 90) (tgt := 105) hx hb dX7_burst_15 (by rw [c29]; decide) (by rw [c29]; decide) (by rw [c29]; decide) (by decide) ?_
                refine lv_aload_n hx hb dX7_burst_105 rfl (lv_at hl 0 rfl) ?_
                refine lv_aload_n hx hb dX7_burst_106 rfl (lv_at hl 0 rfl) ?_
                refine lv_iload_n hx hb dX7_burst_107 rfl (lv_at hl 1 rfl) ?_
                refine lv_bipush (v := 9) hx hb dX7_burst_108 (by decide) ?_
                have hSc : S_X7_of C q1 9 := hS.1
                have hS := hS.2
                refine gcV_i (rest := [.ref (ad 0)]) X (c_X7_of l D cy ad rest C q1 9 hSc) gy_X7_of gX7_burst_X7_of ⟨rfl, rfl, Nat.le_of_ble_eq_true rfl, Nat.le_of_ble_eq_true rfl⟩ 0 rfl rfl rfl hl rfl (Nat.le_of_ble_eq_true rfl) dX7_burst_110 ⟨Nat.zero_le _, Nat.zero_le _⟩ hw (fun r30 _ H locs hr30 hw => ?_)
                have hr30 : r30 = F_X7_of C q1 9 := hr30
                have hF := hF.trans (bnd_eq hr30)
                try have hS := Eq.mp (bnd_eq hr30) hS
                refine gcV_i (rest := []) X (c_X7_done l D cy ad rest C r30) gy_X7_done gX7_burst_X7_done ⟨rfl, rfl, Nat.le_of_ble_eq_true rfl, Nat.le_of_ble_eq_true rfl⟩ 0 rfl rfl rfl hl rfl (Nat.le_of_ble_eq_true rfl) dX7_burst_113 ⟨Nat.zero_le _, Nat.zero_le _⟩ hw (fun r32 u33 H locs hr32 hw => ?_)
                obtain ⟨hr32, hu33⟩ : r32 = (F_X7_done C r30).1 ∧ u33 = (F_X7_done C r30).2 := hr32
                have hF := hF.trans (bnd_eq hu33)
                try have hS := Eq.mp (bnd_eq hu33) hS
                have hF := hF.trans (bnd_eq hr32)
                try have hS := Eq.mp (bnd_eq hr32) hS
                exact hret _ _ _ _ _ _ dX7_burst_116 ⟨congrArg Prod.fst (hF.symm.trans hsp), congrArg Prod.snd (hF.symm.trans hsp)⟩ hw
              · skip
                have hF := hF.trans (if_neg c29)
                try have hS := Eq.mp (if_neg c29) hS
                refine lv_tableOut (tgt := 117) hx hb dX7_burst_15 (by have := tI (z := 0) c4 rfl; have := tI (z := 1) c9 rfl; have := tI (z := 2) c14 rfl; have := tI (z := 3) c19 rfl; have := tI (z := 4) c24 rfl; have := tI (z := 5) c29 rfl; omega) (by decide) ?_
                refine lv_aload_n hx hb dX7_burst_117 rfl (lv_at hl 0 rfl) ?_
                refine lv_iconst (v := 2) hx hb dX7_burst_118 (by decide) ?_
                refine gcV_i (rest := []) X (c_X7_fails l D cy ad rest C 2) gy_X7_fails gX7_burst_X7_fails ⟨rfl, rfl, Nat.le_of_ble_eq_true rfl, Nat.le_of_ble_eq_true rfl⟩ 0 rfl rfl rfl hl rfl (Nat.le_of_ble_eq_true rfl) dX7_burst_119 ⟨Nat.zero_le _, Nat.zero_le _⟩ hw (fun r34 u35 H locs hr34 hw => ?_)
                obtain ⟨hr34, hu35⟩ : r34 = (F_X7_fails C 2).1 ∧ u35 = (F_X7_fails C 2).2 := hr34
                have hF := hF.trans (bnd_eq hu35)
                try have hS := Eq.mp (bnd_eq hu35) hS
                have hF := hF.trans (bnd_eq hr34)
                try have hS := Eq.mp (bnd_eq hr34) hS
                exact hret _ _ _ _ _ _ dX7_burst_122 ⟨congrArg Prod.fst (hF.symm.trans hsp), congrArg Prod.snd (hF.symm.trans hsp)⟩ hw
  · skip
    have hF := hF.trans (if_pos c3)
    try have hS := Eq.mp (if_pos c3) hS
    refine lv_aload_n hx hb dX7_burst_8 rfl (lv_at hl 0 rfl) ?_
    refine lv_iconst (v := 1) hx hb dX7_burst_9 (by decide) ?_
    refine gcV_i (rest := []) X (c_X7_fails l D cy ad rest C 1) gy_X7_fails gX7_burst_X7_fails ⟨rfl, rfl, Nat.le_of_ble_eq_true rfl, Nat.le_of_ble_eq_true rfl⟩ 0 rfl rfl rfl hl rfl (Nat.le_of_ble_eq_true rfl) dX7_burst_10 ⟨Nat.zero_le _, Nat.zero_le _⟩ hw (fun r36 u37 H locs hr36 hw => ?_)
    obtain ⟨hr36, hu37⟩ : r36 = (F_X7_fails C 1).1 ∧ u37 = (F_X7_fails C 1).2 := hr36
    have hF := hF.trans (bnd_eq hu37)
    try have hS := Eq.mp (bnd_eq hu37) hS
    have hF := hF.trans (bnd_eq hr36)
    try have hS := Eq.mp (bnd_eq hr36) hS
    exact hret _ _ _ _ _ _ dX7_burst_13 ⟨congrArg Prod.fst (hF.symm.trans hsp), congrArg Prod.snd (hF.symm.trans hsp)⟩ hw
theorem gy_X7_isClosed : gY yX7_isClosed RX7 cX7_isClosed 2 (some .boolean) wsX7_isClosed 1 := ⟨⟨_, rfl⟩, rfl, by decide +kernel, by decide +kernel, by decide +kernel⟩
def F_X7_isClosed (C : CS) (q1 : Int32) : Int32 × CS := (bnd (F_X7_isBurst C q1) (fun r1 => (if r1 = 0 then (bnd (sI C 0 1) (fun u4 => (if u4.2.1 0 = 0 then (bnd (F_X7_of u4 q1 4) (fun r6 => (if r6 = 1 then (1, u4) else (0, u4)))) else (0, u4)))) else (bnd (sI C 0 0) (fun u9 => (if u9.2.1 0 = 0 then (bnd (F_X7_of u9 q1 4) (fun r11 => (if r11 = 1 then (1, u9) else (0, u9)))) else (0, u9)))))))
def S_X7_isClosed (C : CS) (q1 : Int32) : Prop := (S_X7_isBurst C q1 ∧ (bnd (F_X7_isBurst C q1) (fun r1 => (if r1 = 0 then (bnd (sI C 0 1) (fun u4 => (if u4.2.1 0 = 0 then (S_X7_of u4 q1 4 ∧ True) else True))) else (bnd (sI C 0 0) (fun u9 => (if u9.2.1 0 = 0 then (S_X7_of u9 q1 4 ∧ True) else True)))))))
abbrev rmX7_isClosed : Room := { frames := 2, cells := 0, slots := 0, locals := 43 }
set_option maxHeartbeats 4000000 in
set_option maxRecDepth 100000 in
theorem c_X7_isClosed (l : Launch) (D : va_G) (cy : Nat → ClassId) (ad : Nat → Nat) (rest : va_W) (C : CS) (q1 : Int32) (hS : S_X7_isClosed C q1) : GMi l yX7_isClosed wsX7_isClosed rmX7_isClosed D cy [.ref (ad 0), .int q1] (MW cy ad C ++ rest) (fun (r : Int32) (u : CS) => (r = (F_X7_isClosed C q1).1 ∧ u = (F_X7_isClosed C q1).2) ∧ (r = 0 ∨ r = 1)) (fun u => MW cy ad u ++ rest) := by
  refine GMz.intro cX7_isClosed 2 RX7 (by decide) rfl rfl (Nat.le_of_ble_eq_true rfl) ?_
  intro p e s m args below meth c A Q ls X hret hl hw
  have hx := X.1
  have hb := X.2.1
  have hl : lv_has ls 2 [(0, .ref (ad 0)), (1, .int q1)] := hl
  have inX7 : ∀ w ∈ wsX70, w ∈ wsX7_isClosed := fun w h => List.mem_cons_of_mem _ (List.mem_append_left _ (List.mem_append_right _ h))
  obtain ⟨sp, hsp⟩ : ∃ sp, sp = F_X7_isClosed C q1 := ⟨_, rfl⟩
  have hF := hsp.trans (F_X7_isClosed.eq_1 C q1)
  have hS := Eq.mp (S_X7_isClosed.eq_1 C q1) hS
  refine lv_aload_n hx hb dX7_isClosed_0 rfl (lv_at hl 0 rfl) ?_
  refine lv_aload_n hx hb dX7_isClosed_1 rfl (lv_at hl 0 rfl) ?_
  refine lv_iload_n hx hb dX7_isClosed_2 rfl (lv_at hl 1 rfl) ?_
  have hSc : S_X7_isBurst C q1 := hS.1
  have hS := hS.2
  refine gcV_i (rest := [.ref (ad 0)]) X (c_X7_isBurst l D cy ad rest C q1 hSc) gy_X7_isBurst gX7_isClosed_X7_isBurst ⟨rfl, rfl, Nat.le_of_ble_eq_true rfl, Nat.le_of_ble_eq_true rfl⟩ 0 rfl rfl rfl hl rfl (Nat.le_of_ble_eq_true rfl) dX7_isClosed_3 ⟨Nat.zero_le _, Nat.zero_le _⟩ hw (fun r1 _ H locs hr1 hw => ?_)
  obtain ⟨hr1, zr1⟩ : r1 = F_X7_isBurst C q1 ∧ (r1 = 0 ∨ r1 = 1) := hr1
  have hF := hF.trans (bnd_eq hr1)
  try have hS := Eq.mp (bnd_eq hr1) hS
  refine lv_if_eq (tgt := 13) hx hb dX7_isClosed_6 (by decide) (fun c3 => ?_) (fun c3 => ?_)
  · skip
    have hF := hF.trans (if_pos c3)
    try have hS := Eq.mp (if_pos c3) hS
    refine lv_iconst (v := 1) hx hb dX7_isClosed_13 (by decide) ?_
    refine g_put (v := .int 1) (C := RX7) (T := TX7) (N := 16) (ci := 9) (w' := MW cy ad (sI C 0 1) ++ rest) X inX7 tyX7 tyX7_ok nmX7 hw 0 rfl rfl 0 (by decide) (List.mem_of_getElem? (i := 1) rfl) rfl rfl rfl rfl (Nat.le_of_ble_eq_true rfl) rfl dX7_isClosed_14 (fun H locs hw => ?_)
    obtain ⟨u4, hu4⟩ : ∃ z, z = sI C 0 1 := ⟨_, rfl⟩
    rw [← hu4] at hw
    have hF := hF.trans (bnd_eq hu4)
    try have hS := Eq.mp (bnd_eq hu4) hS
    refine lv_aload_n hx hb dX7_isClosed_17 rfl (lv_at hl 0 rfl) ?_
    refine g_get (v := .int (u4.2.1 0)) (C := RX7) (T := TX7) (N := 16) (ci := 9) X inX7 hw 0 rfl rfl 0 (by decide) (List.mem_of_getElem? (i := 1) rfl) rfl rfl dX7_isClosed_18 ?_
    refine lv_if_ne (tgt := 38) hx hb dX7_isClosed_21 (by decide) (fun c5 => ?_) (fun c5 => ?_)
    · skip
      have hF := hF.trans (if_neg c5)
      try have hS := Eq.mp (if_neg c5) hS
      refine lv_iconst (v := 0) hx hb dX7_isClosed_38 (by decide) ?_
      exact hret _ _ _ _ _ _ dX7_isClosed_39 (Or.inl rfl) ⟨⟨congrArg Prod.fst (hF.symm.trans hsp), congrArg Prod.snd (hF.symm.trans hsp)⟩, (Or.inl rfl)⟩ hw
    · skip
      have hF := hF.trans (if_pos c5)
      try have hS := Eq.mp (if_pos c5) hS
      refine lv_aload_n hx hb dX7_isClosed_24 rfl (lv_at hl 0 rfl) ?_
      refine lv_iload_n hx hb dX7_isClosed_25 rfl (lv_at hl 1 rfl) ?_
      refine lv_iconst (v := 4) hx hb dX7_isClosed_26 (by decide) ?_
      have hSc : S_X7_of u4 q1 4 := hS.1
      have hS := hS.2
      refine gcV_i (rest := []) X (c_X7_of l D cy ad rest u4 q1 4 hSc) gy_X7_of gX7_isClosed_X7_of ⟨rfl, rfl, Nat.le_of_ble_eq_true rfl, Nat.le_of_ble_eq_true rfl⟩ 0 rfl rfl rfl hl rfl (Nat.le_of_ble_eq_true rfl) dX7_isClosed_27 ⟨Nat.zero_le _, Nat.zero_le _⟩ hw (fun r6 _ H locs hr6 hw => ?_)
      have hr6 : r6 = F_X7_of u4 q1 4 := hr6
      have hF := hF.trans (bnd_eq hr6)
      try have hS := Eq.mp (bnd_eq hr6) hS
      refine lv_iconst (v := 1) hx hb dX7_isClosed_30 (by decide) ?_
      refine lv_icmp_ne (tgt := 38) hx hb dX7_isClosed_31 (by decide) (fun c8 => ?_) (fun c8 => ?_)
      · skip
        have hF := hF.trans (if_neg c8)
        try have hS := Eq.mp (if_neg c8) hS
        refine lv_iconst (v := 0) hx hb dX7_isClosed_38 (by decide) ?_
        exact hret _ _ _ _ _ _ dX7_isClosed_39 (Or.inl rfl) ⟨⟨congrArg Prod.fst (hF.symm.trans hsp), congrArg Prod.snd (hF.symm.trans hsp)⟩, (Or.inl rfl)⟩ hw
      · skip
        have hF := hF.trans (if_pos c8)
        try have hS := Eq.mp (if_pos c8) hS
        refine lv_iconst (v := 1) hx hb dX7_isClosed_34 (by decide) ?_
        refine lv_goto (tgt := 39) hx hb dX7_isClosed_35 (by decide) ?_
        exact hret _ _ _ _ _ _ dX7_isClosed_39 (Or.inr rfl) ⟨⟨congrArg Prod.fst (hF.symm.trans hsp), congrArg Prod.snd (hF.symm.trans hsp)⟩, (Or.inr rfl)⟩ hw
  · skip
    have hF := hF.trans (if_neg c3)
    try have hS := Eq.mp (if_neg c3) hS
    refine lv_iconst (v := 0) hx hb dX7_isClosed_9 (by decide) ?_
    refine lv_goto (tgt := 14) hx hb dX7_isClosed_10 (by decide) ?_
    refine g_put (v := .int 0) (C := RX7) (T := TX7) (N := 16) (ci := 9) (w' := MW cy ad (sI C 0 0) ++ rest) X inX7 tyX7 tyX7_ok nmX7 hw 0 rfl rfl 0 (by decide) (List.mem_of_getElem? (i := 1) rfl) rfl rfl rfl rfl (Nat.le_of_ble_eq_true rfl) rfl dX7_isClosed_14 (fun H locs hw => ?_)
    obtain ⟨u9, hu9⟩ : ∃ z, z = sI C 0 0 := ⟨_, rfl⟩
    rw [← hu9] at hw
    have hF := hF.trans (bnd_eq hu9)
    try have hS := Eq.mp (bnd_eq hu9) hS
    refine lv_aload_n hx hb dX7_isClosed_17 rfl (lv_at hl 0 rfl) ?_
    refine g_get (v := .int (u9.2.1 0)) (C := RX7) (T := TX7) (N := 16) (ci := 9) X inX7 hw 0 rfl rfl 0 (by decide) (List.mem_of_getElem? (i := 1) rfl) rfl rfl dX7_isClosed_18 ?_
    refine lv_if_ne (tgt := 38) hx hb dX7_isClosed_21 (by decide) (fun c10 => ?_) (fun c10 => ?_)
    · skip
      have hF := hF.trans (if_neg c10)
      try have hS := Eq.mp (if_neg c10) hS
      refine lv_iconst (v := 0) hx hb dX7_isClosed_38 (by decide) ?_
      exact hret _ _ _ _ _ _ dX7_isClosed_39 (Or.inl rfl) ⟨⟨congrArg Prod.fst (hF.symm.trans hsp), congrArg Prod.snd (hF.symm.trans hsp)⟩, (Or.inl rfl)⟩ hw
    · skip
      have hF := hF.trans (if_pos c10)
      try have hS := Eq.mp (if_pos c10) hS
      refine lv_aload_n hx hb dX7_isClosed_24 rfl (lv_at hl 0 rfl) ?_
      refine lv_iload_n hx hb dX7_isClosed_25 rfl (lv_at hl 1 rfl) ?_
      refine lv_iconst (v := 4) hx hb dX7_isClosed_26 (by decide) ?_
      have hSc : S_X7_of u9 q1 4 := hS.1
      have hS := hS.2
      refine gcV_i (rest := []) X (c_X7_of l D cy ad rest u9 q1 4 hSc) gy_X7_of gX7_isClosed_X7_of ⟨rfl, rfl, Nat.le_of_ble_eq_true rfl, Nat.le_of_ble_eq_true rfl⟩ 0 rfl rfl rfl hl rfl (Nat.le_of_ble_eq_true rfl) dX7_isClosed_27 ⟨Nat.zero_le _, Nat.zero_le _⟩ hw (fun r11 _ H locs hr11 hw => ?_)
      have hr11 : r11 = F_X7_of u9 q1 4 := hr11
      have hF := hF.trans (bnd_eq hr11)
      try have hS := Eq.mp (bnd_eq hr11) hS
      refine lv_iconst (v := 1) hx hb dX7_isClosed_30 (by decide) ?_
      refine lv_icmp_ne (tgt := 38) hx hb dX7_isClosed_31 (by decide) (fun c13 => ?_) (fun c13 => ?_)
      · skip
        have hF := hF.trans (if_neg c13)
        try have hS := Eq.mp (if_neg c13) hS
        refine lv_iconst (v := 0) hx hb dX7_isClosed_38 (by decide) ?_
        exact hret _ _ _ _ _ _ dX7_isClosed_39 (Or.inl rfl) ⟨⟨congrArg Prod.fst (hF.symm.trans hsp), congrArg Prod.snd (hF.symm.trans hsp)⟩, (Or.inl rfl)⟩ hw
      · skip
        have hF := hF.trans (if_pos c13)
        try have hS := Eq.mp (if_pos c13) hS
        refine lv_iconst (v := 1) hx hb dX7_isClosed_34 (by decide) ?_
        refine lv_goto (tgt := 39) hx hb dX7_isClosed_35 (by decide) ?_
        exact hret _ _ _ _ _ _ dX7_isClosed_39 (Or.inr rfl) ⟨⟨congrArg Prod.fst (hF.symm.trans hsp), congrArg Prod.snd (hF.symm.trans hsp)⟩, (Or.inr rfl)⟩ hw
theorem gy_X7_isDirty : gY yX7_isDirty RX7 cX7_isDirty 2 (some .boolean) wsX7_isDirty 1 := ⟨⟨_, rfl⟩, rfl, by decide +kernel, by decide +kernel, by decide +kernel⟩
def F_X7_isDirty (C : CS) (q1 : Int32) : Int32 × CS := (bnd (F_X7_isBurst C q1) (fun r1 => (if r1 = 0 then (bnd (sI C 0 1) (fun u4 => (if u4.2.1 0 = 0 then (bnd (F_X7_of u4 q1 5) (fun r6 => (if r6 = 0 then (1, u4) else (bnd (F_X7_isOther u4 q1) (fun r9 => (if r9 = 0 then (0, u4) else (1, u4))))))) else (0, u4)))) else (bnd (sI C 0 0) (fun u12 => (if u12.2.1 0 = 0 then (bnd (F_X7_of u12 q1 5) (fun r14 => (if r14 = 0 then (1, u12) else (bnd (F_X7_isOther u12 q1) (fun r17 => (if r17 = 0 then (0, u12) else (1, u12))))))) else (0, u12)))))))
def S_X7_isDirty (C : CS) (q1 : Int32) : Prop := (S_X7_isBurst C q1 ∧ (bnd (F_X7_isBurst C q1) (fun r1 => (if r1 = 0 then (bnd (sI C 0 1) (fun u4 => (if u4.2.1 0 = 0 then (S_X7_of u4 q1 5 ∧ (bnd (F_X7_of u4 q1 5) (fun r6 => (if r6 = 0 then True else (S_X7_isOther u4 q1 ∧ True))))) else True))) else (bnd (sI C 0 0) (fun u12 => (if u12.2.1 0 = 0 then (S_X7_of u12 q1 5 ∧ (bnd (F_X7_of u12 q1 5) (fun r14 => (if r14 = 0 then True else (S_X7_isOther u12 q1 ∧ True))))) else True)))))))
abbrev rmX7_isDirty : Room := { frames := 3, cells := 0, slots := 0, locals := 69 }
set_option maxHeartbeats 4000000 in
set_option maxRecDepth 100000 in
theorem c_X7_isDirty (l : Launch) (D : va_G) (cy : Nat → ClassId) (ad : Nat → Nat) (rest : va_W) (C : CS) (q1 : Int32) (hS : S_X7_isDirty C q1) : GMi l yX7_isDirty wsX7_isDirty rmX7_isDirty D cy [.ref (ad 0), .int q1] (MW cy ad C ++ rest) (fun (r : Int32) (u : CS) => (r = (F_X7_isDirty C q1).1 ∧ u = (F_X7_isDirty C q1).2) ∧ (r = 0 ∨ r = 1)) (fun u => MW cy ad u ++ rest) := by
  refine GMz.intro cX7_isDirty 2 RX7 (by decide) rfl rfl (Nat.le_of_ble_eq_true rfl) ?_
  intro p e s m args below meth c A Q ls X hret hl hw
  have hx := X.1
  have hb := X.2.1
  have hl : lv_has ls 2 [(0, .ref (ad 0)), (1, .int q1)] := hl
  have inX7 : ∀ w ∈ wsX70, w ∈ wsX7_isDirty := fun w h => List.mem_cons_of_mem _ (List.mem_append_left _ (List.mem_append_right _ h))
  obtain ⟨sp, hsp⟩ : ∃ sp, sp = F_X7_isDirty C q1 := ⟨_, rfl⟩
  have hF := hsp.trans (F_X7_isDirty.eq_1 C q1)
  have hS := Eq.mp (S_X7_isDirty.eq_1 C q1) hS
  refine lv_aload_n hx hb dX7_isDirty_0 rfl (lv_at hl 0 rfl) ?_
  refine lv_aload_n hx hb dX7_isDirty_1 rfl (lv_at hl 0 rfl) ?_
  refine lv_iload_n hx hb dX7_isDirty_2 rfl (lv_at hl 1 rfl) ?_
  have hSc : S_X7_isBurst C q1 := hS.1
  have hS := hS.2
  refine gcV_i (rest := [.ref (ad 0)]) X (c_X7_isBurst l D cy ad rest C q1 hSc) gy_X7_isBurst gX7_isDirty_X7_isBurst ⟨rfl, rfl, Nat.le_of_ble_eq_true rfl, Nat.le_of_ble_eq_true rfl⟩ 0 rfl rfl rfl hl rfl (Nat.le_of_ble_eq_true rfl) dX7_isDirty_3 ⟨Nat.zero_le _, Nat.zero_le _⟩ hw (fun r1 _ H locs hr1 hw => ?_)
  obtain ⟨hr1, zr1⟩ : r1 = F_X7_isBurst C q1 ∧ (r1 = 0 ∨ r1 = 1) := hr1
  have hF := hF.trans (bnd_eq hr1)
  try have hS := Eq.mp (bnd_eq hr1) hS
  refine lv_if_eq (tgt := 13) hx hb dX7_isDirty_6 (by decide) (fun c3 => ?_) (fun c3 => ?_)
  · skip
    have hF := hF.trans (if_pos c3)
    try have hS := Eq.mp (if_pos c3) hS
    refine lv_iconst (v := 1) hx hb dX7_isDirty_13 (by decide) ?_
    refine g_put (v := .int 1) (C := RX7) (T := TX7) (N := 16) (ci := 9) (w' := MW cy ad (sI C 0 1) ++ rest) X inX7 tyX7 tyX7_ok nmX7 hw 0 rfl rfl 0 (by decide) (List.mem_of_getElem? (i := 1) rfl) rfl rfl rfl rfl (Nat.le_of_ble_eq_true rfl) rfl dX7_isDirty_14 (fun H locs hw => ?_)
    obtain ⟨u4, hu4⟩ : ∃ z, z = sI C 0 1 := ⟨_, rfl⟩
    rw [← hu4] at hw
    have hF := hF.trans (bnd_eq hu4)
    try have hS := Eq.mp (bnd_eq hu4) hS
    refine lv_aload_n hx hb dX7_isDirty_17 rfl (lv_at hl 0 rfl) ?_
    refine g_get (v := .int (u4.2.1 0)) (C := RX7) (T := TX7) (N := 16) (ci := 9) X inX7 hw 0 rfl rfl 0 (by decide) (List.mem_of_getElem? (i := 1) rfl) rfl rfl dX7_isDirty_18 ?_
    refine lv_if_ne (tgt := 45) hx hb dX7_isDirty_21 (by decide) (fun c5 => ?_) (fun c5 => ?_)
    · skip
      have hF := hF.trans (if_neg c5)
      try have hS := Eq.mp (if_neg c5) hS
      refine lv_iconst (v := 0) hx hb dX7_isDirty_45 (by decide) ?_
      exact hret _ _ _ _ _ _ dX7_isDirty_46 (Or.inl rfl) ⟨⟨congrArg Prod.fst (hF.symm.trans hsp), congrArg Prod.snd (hF.symm.trans hsp)⟩, (Or.inl rfl)⟩ hw
    · skip
      have hF := hF.trans (if_pos c5)
      try have hS := Eq.mp (if_pos c5) hS
      refine lv_aload_n hx hb dX7_isDirty_24 rfl (lv_at hl 0 rfl) ?_
      refine lv_iload_n hx hb dX7_isDirty_25 rfl (lv_at hl 1 rfl) ?_
      refine lv_iconst (v := 5) hx hb dX7_isDirty_26 (by decide) ?_
      have hSc : S_X7_of u4 q1 5 := hS.1
      have hS := hS.2
      refine gcV_i (rest := []) X (c_X7_of l D cy ad rest u4 q1 5 hSc) gy_X7_of gX7_isDirty_X7_of ⟨rfl, rfl, Nat.le_of_ble_eq_true rfl, Nat.le_of_ble_eq_true rfl⟩ 0 rfl rfl rfl hl rfl (Nat.le_of_ble_eq_true rfl) dX7_isDirty_27 ⟨Nat.zero_le _, Nat.zero_le _⟩ hw (fun r6 _ H locs hr6 hw => ?_)
      have hr6 : r6 = F_X7_of u4 q1 5 := hr6
      have hF := hF.trans (bnd_eq hr6)
      try have hS := Eq.mp (bnd_eq hr6) hS
      refine lv_if_eq (tgt := 41) hx hb dX7_isDirty_30 (by decide) (fun c8 => ?_) (fun c8 => ?_)
      · skip
        have hF := hF.trans (if_pos c8)
        try have hS := Eq.mp (if_pos c8) hS
        refine lv_iconst (v := 1) hx hb dX7_isDirty_41 (by decide) ?_
        refine lv_goto (tgt := 46) hx hb dX7_isDirty_42 (by decide) ?_
        exact hret _ _ _ _ _ _ dX7_isDirty_46 (Or.inr rfl) ⟨⟨congrArg Prod.fst (hF.symm.trans hsp), congrArg Prod.snd (hF.symm.trans hsp)⟩, (Or.inr rfl)⟩ hw
      · skip
        have hF := hF.trans (if_neg c8)
        try have hS := Eq.mp (if_neg c8) hS
        refine lv_aload_n hx hb dX7_isDirty_33 rfl (lv_at hl 0 rfl) ?_
        refine lv_iload_n hx hb dX7_isDirty_34 rfl (lv_at hl 1 rfl) ?_
        have hSc : S_X7_isOther u4 q1 := hS.1
        have hS := hS.2
        refine gcV_i (rest := []) X (c_X7_isOther l D cy ad rest u4 q1 hSc) gy_X7_isOther gX7_isDirty_X7_isOther ⟨rfl, rfl, Nat.le_of_ble_eq_true rfl, Nat.le_of_ble_eq_true rfl⟩ 0 rfl rfl rfl hl rfl (Nat.le_of_ble_eq_true rfl) dX7_isDirty_35 ⟨Nat.zero_le _, Nat.zero_le _⟩ hw (fun r9 _ H locs hr9 hw => ?_)
        obtain ⟨hr9, zr9⟩ : r9 = F_X7_isOther u4 q1 ∧ (r9 = 0 ∨ r9 = 1) := hr9
        have hF := hF.trans (bnd_eq hr9)
        try have hS := Eq.mp (bnd_eq hr9) hS
        refine lv_if_eq (tgt := 45) hx hb dX7_isDirty_38 (by decide) (fun c11 => ?_) (fun c11 => ?_)
        · skip
          have hF := hF.trans (if_pos c11)
          try have hS := Eq.mp (if_pos c11) hS
          refine lv_iconst (v := 0) hx hb dX7_isDirty_45 (by decide) ?_
          exact hret _ _ _ _ _ _ dX7_isDirty_46 (Or.inl rfl) ⟨⟨congrArg Prod.fst (hF.symm.trans hsp), congrArg Prod.snd (hF.symm.trans hsp)⟩, (Or.inl rfl)⟩ hw
        · skip
          have hF := hF.trans (if_neg c11)
          try have hS := Eq.mp (if_neg c11) hS
          refine lv_iconst (v := 1) hx hb dX7_isDirty_41 (by decide) ?_
          refine lv_goto (tgt := 46) hx hb dX7_isDirty_42 (by decide) ?_
          exact hret _ _ _ _ _ _ dX7_isDirty_46 (Or.inr rfl) ⟨⟨congrArg Prod.fst (hF.symm.trans hsp), congrArg Prod.snd (hF.symm.trans hsp)⟩, (Or.inr rfl)⟩ hw
  · skip
    have hF := hF.trans (if_neg c3)
    try have hS := Eq.mp (if_neg c3) hS
    refine lv_iconst (v := 0) hx hb dX7_isDirty_9 (by decide) ?_
    refine lv_goto (tgt := 14) hx hb dX7_isDirty_10 (by decide) ?_
    refine g_put (v := .int 0) (C := RX7) (T := TX7) (N := 16) (ci := 9) (w' := MW cy ad (sI C 0 0) ++ rest) X inX7 tyX7 tyX7_ok nmX7 hw 0 rfl rfl 0 (by decide) (List.mem_of_getElem? (i := 1) rfl) rfl rfl rfl rfl (Nat.le_of_ble_eq_true rfl) rfl dX7_isDirty_14 (fun H locs hw => ?_)
    obtain ⟨u12, hu12⟩ : ∃ z, z = sI C 0 0 := ⟨_, rfl⟩
    rw [← hu12] at hw
    have hF := hF.trans (bnd_eq hu12)
    try have hS := Eq.mp (bnd_eq hu12) hS
    refine lv_aload_n hx hb dX7_isDirty_17 rfl (lv_at hl 0 rfl) ?_
    refine g_get (v := .int (u12.2.1 0)) (C := RX7) (T := TX7) (N := 16) (ci := 9) X inX7 hw 0 rfl rfl 0 (by decide) (List.mem_of_getElem? (i := 1) rfl) rfl rfl dX7_isDirty_18 ?_
    refine lv_if_ne (tgt := 45) hx hb dX7_isDirty_21 (by decide) (fun c13 => ?_) (fun c13 => ?_)
    · skip
      have hF := hF.trans (if_neg c13)
      try have hS := Eq.mp (if_neg c13) hS
      refine lv_iconst (v := 0) hx hb dX7_isDirty_45 (by decide) ?_
      exact hret _ _ _ _ _ _ dX7_isDirty_46 (Or.inl rfl) ⟨⟨congrArg Prod.fst (hF.symm.trans hsp), congrArg Prod.snd (hF.symm.trans hsp)⟩, (Or.inl rfl)⟩ hw
    · skip
      have hF := hF.trans (if_pos c13)
      try have hS := Eq.mp (if_pos c13) hS
      refine lv_aload_n hx hb dX7_isDirty_24 rfl (lv_at hl 0 rfl) ?_
      refine lv_iload_n hx hb dX7_isDirty_25 rfl (lv_at hl 1 rfl) ?_
      refine lv_iconst (v := 5) hx hb dX7_isDirty_26 (by decide) ?_
      have hSc : S_X7_of u12 q1 5 := hS.1
      have hS := hS.2
      refine gcV_i (rest := []) X (c_X7_of l D cy ad rest u12 q1 5 hSc) gy_X7_of gX7_isDirty_X7_of ⟨rfl, rfl, Nat.le_of_ble_eq_true rfl, Nat.le_of_ble_eq_true rfl⟩ 0 rfl rfl rfl hl rfl (Nat.le_of_ble_eq_true rfl) dX7_isDirty_27 ⟨Nat.zero_le _, Nat.zero_le _⟩ hw (fun r14 _ H locs hr14 hw => ?_)
      have hr14 : r14 = F_X7_of u12 q1 5 := hr14
      have hF := hF.trans (bnd_eq hr14)
      try have hS := Eq.mp (bnd_eq hr14) hS
      refine lv_if_eq (tgt := 41) hx hb dX7_isDirty_30 (by decide) (fun c16 => ?_) (fun c16 => ?_)
      · skip
        have hF := hF.trans (if_pos c16)
        try have hS := Eq.mp (if_pos c16) hS
        refine lv_iconst (v := 1) hx hb dX7_isDirty_41 (by decide) ?_
        refine lv_goto (tgt := 46) hx hb dX7_isDirty_42 (by decide) ?_
        exact hret _ _ _ _ _ _ dX7_isDirty_46 (Or.inr rfl) ⟨⟨congrArg Prod.fst (hF.symm.trans hsp), congrArg Prod.snd (hF.symm.trans hsp)⟩, (Or.inr rfl)⟩ hw
      · skip
        have hF := hF.trans (if_neg c16)
        try have hS := Eq.mp (if_neg c16) hS
        refine lv_aload_n hx hb dX7_isDirty_33 rfl (lv_at hl 0 rfl) ?_
        refine lv_iload_n hx hb dX7_isDirty_34 rfl (lv_at hl 1 rfl) ?_
        have hSc : S_X7_isOther u12 q1 := hS.1
        have hS := hS.2
        refine gcV_i (rest := []) X (c_X7_isOther l D cy ad rest u12 q1 hSc) gy_X7_isOther gX7_isDirty_X7_isOther ⟨rfl, rfl, Nat.le_of_ble_eq_true rfl, Nat.le_of_ble_eq_true rfl⟩ 0 rfl rfl rfl hl rfl (Nat.le_of_ble_eq_true rfl) dX7_isDirty_35 ⟨Nat.zero_le _, Nat.zero_le _⟩ hw (fun r17 _ H locs hr17 hw => ?_)
        obtain ⟨hr17, zr17⟩ : r17 = F_X7_isOther u12 q1 ∧ (r17 = 0 ∨ r17 = 1) := hr17
        have hF := hF.trans (bnd_eq hr17)
        try have hS := Eq.mp (bnd_eq hr17) hS
        refine lv_if_eq (tgt := 45) hx hb dX7_isDirty_38 (by decide) (fun c19 => ?_) (fun c19 => ?_)
        · skip
          have hF := hF.trans (if_pos c19)
          try have hS := Eq.mp (if_pos c19) hS
          refine lv_iconst (v := 0) hx hb dX7_isDirty_45 (by decide) ?_
          exact hret _ _ _ _ _ _ dX7_isDirty_46 (Or.inl rfl) ⟨⟨congrArg Prod.fst (hF.symm.trans hsp), congrArg Prod.snd (hF.symm.trans hsp)⟩, (Or.inl rfl)⟩ hw
        · skip
          have hF := hF.trans (if_neg c19)
          try have hS := Eq.mp (if_neg c19) hS
          refine lv_iconst (v := 1) hx hb dX7_isDirty_41 (by decide) ?_
          refine lv_goto (tgt := 46) hx hb dX7_isDirty_42 (by decide) ?_
          exact hret _ _ _ _ _ _ dX7_isDirty_46 (Or.inr rfl) ⟨⟨congrArg Prod.fst (hF.symm.trans hsp), congrArg Prod.snd (hF.symm.trans hsp)⟩, (Or.inr rfl)⟩ hw
theorem gy_X7_placeOf : gY yX7_placeOf RX7 cX7_placeOf 5 (some .int) wsX7_placeOf 1 := ⟨⟨_, rfl⟩, rfl, by decide +kernel, by decide +kernel, by decide +kernel⟩
def st_X7_placeOf_4 (q1 : Int32) (C : CS) (v1_3 : Int32) (v1_2 : Int32) : (Int32 × Int32) ⊕ Int32 := (if (C.1 0 1401) ≤ v1_3 then .inr (v1_2) else (bnd (F_X7_isBurst C v1_3) (fun r3 => (if r3 = 0 then .inl ((v1_3 + 1), (v1_2 + 0)) else (bnd (F_X7_of C v1_3 1) (fun r6 => (bnd (F_X7_of C q1 1) (fun r8 => (if r6 = r8 then (bnd (F_X7_of C v1_3 2) (fun r11 => (bnd (F_X7_of C q1 2) (fun r13 => (if r11 < r13 then .inl ((v1_3 + 1), (v1_2 + 1)) else (if r11 = r13 then (if q1 ≤ v1_3 then .inl ((v1_3 + 1), (v1_2 + 0)) else .inl ((v1_3 + 1), (v1_2 + 1))) else .inl ((v1_3 + 1), (v1_2 + 0)))))))) else .inl ((v1_3 + 1), (v1_2 + 0)))))))))))
def Sst_X7_placeOf_4 (q1 : Int32) (C : CS) (v1_3 : Int32) (v1_2 : Int32) : Prop := (if (C.1 0 1401) ≤ v1_3 then True else (S_X7_isBurst C v1_3 ∧ (bnd (F_X7_isBurst C v1_3) (fun r3 => (if r3 = 0 then True else (S_X7_of C v1_3 1 ∧ (bnd (F_X7_of C v1_3 1) (fun r6 => (S_X7_of C q1 1 ∧ (bnd (F_X7_of C q1 1) (fun r8 => (if r6 = r8 then (S_X7_of C v1_3 2 ∧ (bnd (F_X7_of C v1_3 2) (fun r11 => (S_X7_of C q1 2 ∧ (bnd (F_X7_of C q1 2) (fun r13 => (if r11 < r13 then True else (S_X7_of C v1_3 2 ∧ (S_X7_of C q1 2 ∧ True))))))))) else True))))))))))))
def F_X7_placeOf (C : CS) (q1 : Int32) : Int32 := lp (fun (z : Int32 × Int32) => st_X7_placeOf_4 q1 C z.1 z.2) 0 (((C.1 0 1401).toInt - (0 : Int32).toInt).toNat + 1) (0, 0)
def S_X7_placeOf (C : CS) (q1 : Int32) : Prop := lpS (fun (z : Int32 × Int32) => st_X7_placeOf_4 q1 C z.1 z.2) (fun (z : Int32 × Int32) => Sst_X7_placeOf_4 q1 C z.1 z.2) (((C.1 0 1401).toInt - (0 : Int32).toInt).toNat + 1) (0, 0)
abbrev rmX7_placeOf : Room := { frames := 2, cells := 0, slots := 0, locals := 43 }
set_option maxHeartbeats 4000000 in
set_option maxRecDepth 100000 in
theorem c_X7_placeOf (l : Launch) (D : va_G) (cy : Nat → ClassId) (ad : Nat → Nat) (rest : va_W) (C : CS) (q1 : Int32) (hS : S_X7_placeOf C q1) : GMi l yX7_placeOf wsX7_placeOf rmX7_placeOf D cy [.ref (ad 0), .int q1] (MW cy ad C ++ rest) (fun (r : Int32) (_ : Unit) => r = F_X7_placeOf C q1) (fun _ => MW cy ad C ++ rest) := by
  refine GMi.intro cX7_placeOf 5 RX7 (by decide) rfl rfl (Nat.le_of_ble_eq_true rfl) ?_
  intro p e s m args below meth c A Q ls X hret hl hw
  have hx := X.1
  have hb := X.2.1
  have hl : lv_has ls 5 [(0, .ref (ad 0)), (1, .int q1)] := hl
  have inX7 : ∀ w ∈ wsX70, w ∈ wsX7_placeOf := fun w h => List.mem_cons_of_mem _ (List.mem_append_left _ (List.mem_append_right _ h))
  obtain ⟨sp, hsp⟩ : ∃ sp, sp = F_X7_placeOf C q1 := ⟨_, rfl⟩
  have hF := hsp.trans (F_X7_placeOf.eq_1 C q1)
  have hS := Eq.mp (S_X7_placeOf.eq_1 C q1) hS
  refine lv_iconst (v := 0) hx hb dX7_placeOf_0 (by decide) ?_
  refine lv_istore_n (lv' := [(2, .int 0), (0, .ref (ad 0)), (1, .int q1)]) hx hb dX7_placeOf_1 rfl hl (by decide) rfl (fun ls hl => ?_)
  refine lv_iconst (v := 0) hx hb dX7_placeOf_2 (by decide) ?_
  refine lv_istore_n (lv' := [(3, .int 0), (2, .int 0), (0, .ref (ad 0)), (1, .int q1)]) hx hb dX7_placeOf_3 rfl hl (by decide) rfl (fun ls hl => ?_)
  have L1 : ∀ (n1 : Nat) (v1_3 : Int32) (v1_2 : Int32), sp = lp (fun (z : Int32 × Int32) => st_X7_placeOf_4 q1 C z.1 z.2) 0 n1 (v1_3, v1_2) → lpS (fun (z : Int32 × Int32) => st_X7_placeOf_4 q1 C z.1 z.2) (fun (z : Int32 × Int32) => Sst_X7_placeOf_4 q1 C z.1 z.2) n1 (v1_3, v1_2) → ∀ (H : Heap) (locs : List Loc) (ls : Array Slot), lv_has ls 5 [(3, .int v1_3), (2, .int v1_2), (0, .ref (ad 0)), (1, .int q1)] → gw D A s.heap (MW cy ad C ++ rest) H locs → W p l e rmX7_placeOf s m args below meth c H locs 0 0 Q (F0 m 4 ls []) := by
    intro n1
    induction n1 with
    | zero => intro v1_3 v1_2 hF hL; exact False.elim hL
    | succ n1 ih1 =>
      intro v1_3 v1_2 hF hL H locs ls hl hw
      have hT1 := st_X7_placeOf_4.eq_1 q1 C v1_3 v1_2
      have hLn1 := hL.2
      have hS := Eq.mp (Sst_X7_placeOf_4.eq_1 q1 C v1_3 v1_2) hL.1
      refine lv_iload_n hx hb dX7_placeOf_4 rfl (lv_at hl 0 rfl) ?_
      refine lv_aload_n hx hb dX7_placeOf_5 rfl (lv_at hl 2 rfl) ?_
      refine g_get (v := .ref (ad 1)) (C := RX7) (T := TX7) (N := 16) (ci := 9) X inX7 hw 0 rfl rfl 1 (by decide) (List.mem_of_getElem? (i := 1) rfl) rfl rfl dX7_placeOf_6 ?_
      refine lv_sipush (v := 1401) hx hb dX7_placeOf_9 (by decide) ?_
      refine g_ialdk (k := 1401) rfl X hw 1 rfl (vk rfl) dX7_placeOf_12 ?_
      refine lv_icmp_ge (tgt := 100) hx hb dX7_placeOf_13 (by decide) (fun c2 => ?_) (fun c2 => ?_)
      · skip
        have hT1 := hT1.trans (if_pos c2)
        try have hS := Eq.mp (if_pos c2) hS
        refine lv_iload_n hx hb dX7_placeOf_100 rfl (lv_at hl 1 rfl) ?_
        exact hret _ _ () _ _ _ dX7_placeOf_101 ((hF.trans (lp_r hT1)).symm.trans hsp) hw
      · skip
        have hT1 := hT1.trans (if_neg c2)
        try have hS := Eq.mp (if_neg c2) hS
        refine lv_aload_n hx hb dX7_placeOf_16 rfl (lv_at hl 2 rfl) ?_
        refine lv_iload_n hx hb dX7_placeOf_17 rfl (lv_at hl 0 rfl) ?_
        have hSc : S_X7_isBurst C v1_3 := hS.1
        have hS := hS.2
        refine gcV_i (rest := []) X (c_X7_isBurst l D cy ad rest C v1_3 hSc) gy_X7_isBurst gX7_placeOf_X7_isBurst ⟨rfl, rfl, Nat.le_of_ble_eq_true rfl, Nat.le_of_ble_eq_true rfl⟩ 0 rfl rfl rfl hl rfl (Nat.le_of_ble_eq_true rfl) dX7_placeOf_18 ⟨Nat.zero_le _, Nat.zero_le _⟩ hw (fun r3 _ H locs hr3 hw => ?_)
        obtain ⟨hr3, zr3⟩ : r3 = F_X7_isBurst C v1_3 ∧ (r3 = 0 ∨ r3 = 1) := hr3
        have hT1 := hT1.trans (bnd_eq hr3)
        try have hS := Eq.mp (bnd_eq hr3) hS
        refine lv_if_eq (tgt := 43) hx hb dX7_placeOf_21 (by decide) (fun c5 => ?_) (fun c5 => ?_)
        · skip
          have hT1 := hT1.trans (if_pos c5)
          try have hS := Eq.mp (if_pos c5) hS
          refine lv_iconst (v := 0) hx hb dX7_placeOf_43 (by decide) ?_
          refine lv_istore (lv' := [(4, .int 0), (3, .int v1_3), (2, .int v1_2), (0, .ref (ad 0)), (1, .int q1)]) hx hb dX7_placeOf_44 hl (by decide) rfl (fun ls hl => ?_)
          refine lv_iload_n hx hb dX7_placeOf_46 rfl (lv_at hl 2 rfl) ?_
          refine lv_iload hx hb dX7_placeOf_47 (lv_at hl 0 rfl) ?_
          refine lv_if_eq (tgt := 91) hx hb dX7_placeOf_49 (by decide) (fun _ => ?_) (fun c => absurd (by decide) c)
          refine lv_iconst (v := 0) hx hb dX7_placeOf_91 (by decide) ?_
          refine lv_iadd hx hb dX7_placeOf_92 ?_
          refine lv_istore_n (lv' := [(2, .int (v1_2 + 0)), (4, .int 0), (3, .int v1_3), (0, .ref (ad 0)), (1, .int q1)]) hx hb dX7_placeOf_93 rfl hl (by decide) rfl (fun ls hl => ?_)
          refine lv_iinc (v := (v1_3 + 1)) (lv' := [(3, .int (v1_3 + 1)), (2, .int (v1_2 + 0)), (4, .int 0), (0, .ref (ad 0)), (1, .int q1)]) hx hb dX7_placeOf_94 hl (k := 2) rfl rfl (by decide) rfl (fun ls hl => ?_)
          refine lv_goto (tgt := 4) hx hb dX7_placeOf_97 (by decide) ?_
          exact ih1 (v1_3 + 1) (v1_2 + 0) (hF.trans (lp_l hT1)) (hLn1 _ hT1) _ _ ls (lv_sub hl [0, 1, 3, 4] rfl) hw
        · skip
          have hT1 := hT1.trans (if_neg c5)
          try have hS := Eq.mp (if_neg c5) hS
          refine lv_aload_n hx hb dX7_placeOf_24 rfl (lv_at hl 2 rfl) ?_
          refine lv_iload_n hx hb dX7_placeOf_25 rfl (lv_at hl 0 rfl) ?_
          refine lv_iconst (v := 1) hx hb dX7_placeOf_26 (by decide) ?_
          have hSc : S_X7_of C v1_3 1 := hS.1
          have hS := hS.2
          refine gcV_i (rest := []) X (c_X7_of l D cy ad rest C v1_3 1 hSc) gy_X7_of gX7_placeOf_X7_of ⟨rfl, rfl, Nat.le_of_ble_eq_true rfl, Nat.le_of_ble_eq_true rfl⟩ 0 rfl rfl rfl hl rfl (Nat.le_of_ble_eq_true rfl) dX7_placeOf_27 ⟨Nat.zero_le _, Nat.zero_le _⟩ hw (fun r6 _ H locs hr6 hw => ?_)
          have hr6 : r6 = F_X7_of C v1_3 1 := hr6
          have hT1 := hT1.trans (bnd_eq hr6)
          try have hS := Eq.mp (bnd_eq hr6) hS
          refine lv_aload_n hx hb dX7_placeOf_30 rfl (lv_at hl 2 rfl) ?_
          refine lv_iload_n hx hb dX7_placeOf_31 rfl (lv_at hl 3 rfl) ?_
          refine lv_iconst (v := 1) hx hb dX7_placeOf_32 (by decide) ?_
          have hSc : S_X7_of C q1 1 := hS.1
          have hS := hS.2
          refine gcV_i (rest := [.int r6]) X (c_X7_of l D cy ad rest C q1 1 hSc) gy_X7_of gX7_placeOf_X7_of ⟨rfl, rfl, Nat.le_of_ble_eq_true rfl, Nat.le_of_ble_eq_true rfl⟩ 0 rfl rfl rfl hl rfl (Nat.le_of_ble_eq_true rfl) dX7_placeOf_33 ⟨Nat.zero_le _, Nat.zero_le _⟩ hw (fun r8 _ H locs hr8 hw => ?_)
          have hr8 : r8 = F_X7_of C q1 1 := hr8
          have hT1 := hT1.trans (bnd_eq hr8)
          try have hS := Eq.mp (bnd_eq hr8) hS
          refine lv_icmp_ne (tgt := 43) hx hb dX7_placeOf_36 (by decide) (fun c10 => ?_) (fun c10 => ?_)
          · skip
            have hT1 := hT1.trans (if_neg c10)
            try have hS := Eq.mp (if_neg c10) hS
            refine lv_iconst (v := 0) hx hb dX7_placeOf_43 (by decide) ?_
            refine lv_istore (lv' := [(4, .int 0), (3, .int v1_3), (2, .int v1_2), (0, .ref (ad 0)), (1, .int q1)]) hx hb dX7_placeOf_44 hl (by decide) rfl (fun ls hl => ?_)
            refine lv_iload_n hx hb dX7_placeOf_46 rfl (lv_at hl 2 rfl) ?_
            refine lv_iload hx hb dX7_placeOf_47 (lv_at hl 0 rfl) ?_
            refine lv_if_eq (tgt := 91) hx hb dX7_placeOf_49 (by decide) (fun _ => ?_) (fun c => absurd (by decide) c)
            refine lv_iconst (v := 0) hx hb dX7_placeOf_91 (by decide) ?_
            refine lv_iadd hx hb dX7_placeOf_92 ?_
            refine lv_istore_n (lv' := [(2, .int (v1_2 + 0)), (4, .int 0), (3, .int v1_3), (0, .ref (ad 0)), (1, .int q1)]) hx hb dX7_placeOf_93 rfl hl (by decide) rfl (fun ls hl => ?_)
            refine lv_iinc (v := (v1_3 + 1)) (lv' := [(3, .int (v1_3 + 1)), (2, .int (v1_2 + 0)), (4, .int 0), (0, .ref (ad 0)), (1, .int q1)]) hx hb dX7_placeOf_94 hl (k := 2) rfl rfl (by decide) rfl (fun ls hl => ?_)
            refine lv_goto (tgt := 4) hx hb dX7_placeOf_97 (by decide) ?_
            exact ih1 (v1_3 + 1) (v1_2 + 0) (hF.trans (lp_l hT1)) (hLn1 _ hT1) _ _ ls (lv_sub hl [0, 1, 3, 4] rfl) hw
          · skip
            have hT1 := hT1.trans (if_pos c10)
            try have hS := Eq.mp (if_pos c10) hS
            refine lv_iconst (v := 1) hx hb dX7_placeOf_39 (by decide) ?_
            refine lv_goto (tgt := 44) hx hb dX7_placeOf_40 (by decide) ?_
            refine lv_istore (lv' := [(4, .int 1), (3, .int v1_3), (2, .int v1_2), (0, .ref (ad 0)), (1, .int q1)]) hx hb dX7_placeOf_44 hl (by decide) rfl (fun ls hl => ?_)
            refine lv_iload_n hx hb dX7_placeOf_46 rfl (lv_at hl 2 rfl) ?_
            refine lv_iload hx hb dX7_placeOf_47 (lv_at hl 0 rfl) ?_
            refine lv_if_eq (tgt := 91) hx hb dX7_placeOf_49 (by decide) (fun c => absurd c (by decide)) (fun _ => ?_)
            refine lv_aload_n hx hb dX7_placeOf_52 rfl (lv_at hl 3 rfl) ?_
            refine lv_iload_n hx hb dX7_placeOf_53 rfl (lv_at hl 1 rfl) ?_
            refine lv_iconst (v := 2) hx hb dX7_placeOf_54 (by decide) ?_
            have hSc : S_X7_of C v1_3 2 := hS.1
            have hS := hS.2
            refine gcV_i (rest := [.int v1_2]) X (c_X7_of l D cy ad rest C v1_3 2 hSc) gy_X7_of gX7_placeOf_X7_of ⟨rfl, rfl, Nat.le_of_ble_eq_true rfl, Nat.le_of_ble_eq_true rfl⟩ 0 rfl rfl rfl hl rfl (Nat.le_of_ble_eq_true rfl) dX7_placeOf_55 ⟨Nat.zero_le _, Nat.zero_le _⟩ hw (fun r11 _ H locs hr11 hw => ?_)
            have hr11 : r11 = F_X7_of C v1_3 2 := hr11
            have hT1 := hT1.trans (bnd_eq hr11)
            try have hS := Eq.mp (bnd_eq hr11) hS
            refine lv_aload_n hx hb dX7_placeOf_58 rfl (lv_at hl 3 rfl) ?_
            refine lv_iload_n hx hb dX7_placeOf_59 rfl (lv_at hl 4 rfl) ?_
            refine lv_iconst (v := 2) hx hb dX7_placeOf_60 (by decide) ?_
            have hSc : S_X7_of C q1 2 := hS.1
            have hS := hS.2
            refine gcV_i (rest := [.int r11, .int v1_2]) X (c_X7_of l D cy ad rest C q1 2 hSc) gy_X7_of gX7_placeOf_X7_of ⟨rfl, rfl, Nat.le_of_ble_eq_true rfl, Nat.le_of_ble_eq_true rfl⟩ 0 rfl rfl rfl hl rfl (Nat.le_of_ble_eq_true rfl) dX7_placeOf_61 ⟨Nat.zero_le _, Nat.zero_le _⟩ hw (fun r13 _ H locs hr13 hw => ?_)
            have hr13 : r13 = F_X7_of C q1 2 := hr13
            have hT1 := hT1.trans (bnd_eq hr13)
            try have hS := Eq.mp (bnd_eq hr13) hS
            refine lv_icmp_lt (tgt := 87) hx hb dX7_placeOf_64 (by decide) (fun c15 => ?_) (fun c15 => ?_)
            · skip
              have hT1 := hT1.trans (if_pos c15)
              try have hS := Eq.mp (if_pos c15) hS
              refine lv_iconst (v := 1) hx hb dX7_placeOf_87 (by decide) ?_
              refine lv_goto (tgt := 92) hx hb dX7_placeOf_88 (by decide) ?_
              refine lv_iadd hx hb dX7_placeOf_92 ?_
              refine lv_istore_n (lv' := [(2, .int (v1_2 + 1)), (4, .int 1), (3, .int v1_3), (0, .ref (ad 0)), (1, .int q1)]) hx hb dX7_placeOf_93 rfl hl (by decide) rfl (fun ls hl => ?_)
              refine lv_iinc (v := (v1_3 + 1)) (lv' := [(3, .int (v1_3 + 1)), (2, .int (v1_2 + 1)), (4, .int 1), (0, .ref (ad 0)), (1, .int q1)]) hx hb dX7_placeOf_94 hl (k := 2) rfl rfl (by decide) rfl (fun ls hl => ?_)
              refine lv_goto (tgt := 4) hx hb dX7_placeOf_97 (by decide) ?_
              exact ih1 (v1_3 + 1) (v1_2 + 1) (hF.trans (lp_l hT1)) (hLn1 _ hT1) _ _ ls (lv_sub hl [0, 1, 3, 4] rfl) hw
            · skip
              have hT1 := hT1.trans (if_neg c15)
              try have hS := Eq.mp (if_neg c15) hS
              refine lv_aload_n hx hb dX7_placeOf_67 rfl (lv_at hl 3 rfl) ?_
              refine lv_iload_n hx hb dX7_placeOf_68 rfl (lv_at hl 1 rfl) ?_
              refine lv_iconst (v := 2) hx hb dX7_placeOf_69 (by decide) ?_
              have hSc : S_X7_of C v1_3 2 := hS.1
              have hS := hS.2
              refine gcV_i (rest := [.int v1_2]) X (c_X7_of l D cy ad rest C v1_3 2 hSc) gy_X7_of gX7_placeOf_X7_of ⟨rfl, rfl, Nat.le_of_ble_eq_true rfl, Nat.le_of_ble_eq_true rfl⟩ 0 rfl rfl rfl hl rfl (Nat.le_of_ble_eq_true rfl) dX7_placeOf_70 ⟨Nat.zero_le _, Nat.zero_le _⟩ hw (fun r16 _ H locs hr16 hw => ?_)
              have hr16 : r16 = F_X7_of C v1_3 2 := hr16
              rw [show r16 = r11 from hr16.trans hr11.symm]
              refine lv_aload_n hx hb dX7_placeOf_73 rfl (lv_at hl 3 rfl) ?_
              refine lv_iload_n hx hb dX7_placeOf_74 rfl (lv_at hl 4 rfl) ?_
              refine lv_iconst (v := 2) hx hb dX7_placeOf_75 (by decide) ?_
              have hSc : S_X7_of C q1 2 := hS.1
              have hS := hS.2
              refine gcV_i (rest := [.int r11, .int v1_2]) X (c_X7_of l D cy ad rest C q1 2 hSc) gy_X7_of gX7_placeOf_X7_of ⟨rfl, rfl, Nat.le_of_ble_eq_true rfl, Nat.le_of_ble_eq_true rfl⟩ 0 rfl rfl rfl hl rfl (Nat.le_of_ble_eq_true rfl) dX7_placeOf_76 ⟨Nat.zero_le _, Nat.zero_le _⟩ hw (fun r18 _ H locs hr18 hw => ?_)
              have hr18 : r18 = F_X7_of C q1 2 := hr18
              rw [show r18 = r13 from hr18.trans hr13.symm]
              refine lv_icmp_ne (tgt := 91) hx hb dX7_placeOf_79 (by decide) (fun c20 => ?_) (fun c20 => ?_)
              · skip
                have hT1 := hT1.trans (if_neg c20)
                try have hS := Eq.mp (if_neg c20) hS
                refine lv_iconst (v := 0) hx hb dX7_placeOf_91 (by decide) ?_
                refine lv_iadd hx hb dX7_placeOf_92 ?_
                refine lv_istore_n (lv' := [(2, .int (v1_2 + 0)), (4, .int 1), (3, .int v1_3), (0, .ref (ad 0)), (1, .int q1)]) hx hb dX7_placeOf_93 rfl hl (by decide) rfl (fun ls hl => ?_)
                refine lv_iinc (v := (v1_3 + 1)) (lv' := [(3, .int (v1_3 + 1)), (2, .int (v1_2 + 0)), (4, .int 1), (0, .ref (ad 0)), (1, .int q1)]) hx hb dX7_placeOf_94 hl (k := 2) rfl rfl (by decide) rfl (fun ls hl => ?_)
                refine lv_goto (tgt := 4) hx hb dX7_placeOf_97 (by decide) ?_
                exact ih1 (v1_3 + 1) (v1_2 + 0) (hF.trans (lp_l hT1)) (hLn1 _ hT1) _ _ ls (lv_sub hl [0, 1, 3, 4] rfl) hw
              · skip
                have hT1 := hT1.trans (if_pos c20)
                try have hS := Eq.mp (if_pos c20) hS
                refine lv_iload_n hx hb dX7_placeOf_82 rfl (lv_at hl 1 rfl) ?_
                refine lv_iload_n hx hb dX7_placeOf_83 rfl (lv_at hl 4 rfl) ?_
                refine lv_icmp_ge (tgt := 91) hx hb dX7_placeOf_84 (by decide) (fun c21 => ?_) (fun c21 => ?_)
                · skip
                  have hT1 := hT1.trans (if_pos c21)
                  try have hS := Eq.mp (if_pos c21) hS
                  refine lv_iconst (v := 0) hx hb dX7_placeOf_91 (by decide) ?_
                  refine lv_iadd hx hb dX7_placeOf_92 ?_
                  refine lv_istore_n (lv' := [(2, .int (v1_2 + 0)), (4, .int 1), (3, .int v1_3), (0, .ref (ad 0)), (1, .int q1)]) hx hb dX7_placeOf_93 rfl hl (by decide) rfl (fun ls hl => ?_)
                  refine lv_iinc (v := (v1_3 + 1)) (lv' := [(3, .int (v1_3 + 1)), (2, .int (v1_2 + 0)), (4, .int 1), (0, .ref (ad 0)), (1, .int q1)]) hx hb dX7_placeOf_94 hl (k := 2) rfl rfl (by decide) rfl (fun ls hl => ?_)
                  refine lv_goto (tgt := 4) hx hb dX7_placeOf_97 (by decide) ?_
                  exact ih1 (v1_3 + 1) (v1_2 + 0) (hF.trans (lp_l hT1)) (hLn1 _ hT1) _ _ ls (lv_sub hl [0, 1, 3, 4] rfl) hw
                · skip
                  have hT1 := hT1.trans (if_neg c21)
                  try have hS := Eq.mp (if_neg c21) hS
                  refine lv_iconst (v := 1) hx hb dX7_placeOf_87 (by decide) ?_
                  refine lv_goto (tgt := 92) hx hb dX7_placeOf_88 (by decide) ?_
                  refine lv_iadd hx hb dX7_placeOf_92 ?_
                  refine lv_istore_n (lv' := [(2, .int (v1_2 + 1)), (4, .int 1), (3, .int v1_3), (0, .ref (ad 0)), (1, .int q1)]) hx hb dX7_placeOf_93 rfl hl (by decide) rfl (fun ls hl => ?_)
                  refine lv_iinc (v := (v1_3 + 1)) (lv' := [(3, .int (v1_3 + 1)), (2, .int (v1_2 + 1)), (4, .int 1), (0, .ref (ad 0)), (1, .int q1)]) hx hb dX7_placeOf_94 hl (k := 2) rfl rfl (by decide) rfl (fun ls hl => ?_)
                  refine lv_goto (tgt := 4) hx hb dX7_placeOf_97 (by decide) ?_
                  exact ih1 (v1_3 + 1) (v1_2 + 1) (hF.trans (lp_l hT1)) (hLn1 _ hT1) _ _ ls (lv_sub hl [0, 1, 3, 4] rfl) hw
  exact L1 _ 0 0 hF hS _ _ ls (lv_sub hl [0, 1, 2, 3] rfl) hw
theorem gy_X7_burstAt : gY yX7_burstAt RX7 cX7_burstAt 4 (some .int) wsX7_burstAt 2 := ⟨⟨_, rfl⟩, rfl, by decide +kernel, by decide +kernel, by decide +kernel⟩
def st_X7_burstAt_15 (q1 : Int32) (q2 : Int32) (v4_3 : Int32) (w4 : CS) : (Int32 × CS) ⊕ (Int32 × CS) := (if (w4.1 0 1401) ≤ v4_3 then (bnd ((F_X7_fails w4 2).2) (fun u7 => (bnd ((F_X7_fails w4 2).1) (fun r6 => .inr ((r6, u7)))))) else (bnd (F_X7_isBurst w4 v4_3) (fun r8 => (if r8 = 0 then .inl ((v4_3 + 1), w4) else (bnd (F_X7_of w4 v4_3 1) (fun r11 => (if r11 = q1 then (bnd (F_X7_placeOf w4 v4_3) (fun r14 => (if r14 = q2 then (bnd ((F_X7_done w4 v4_3).2) (fun u18 => (bnd ((F_X7_done w4 v4_3).1) (fun r17 => .inr ((r17, u18)))))) else .inl ((v4_3 + 1), w4)))) else .inl ((v4_3 + 1), w4))))))))
def Sst_X7_burstAt_15 (q1 : Int32) (q2 : Int32) (v4_3 : Int32) (w4 : CS) : Prop := (if (w4.1 0 1401) ≤ v4_3 then True else (S_X7_isBurst w4 v4_3 ∧ (bnd (F_X7_isBurst w4 v4_3) (fun r8 => (if r8 = 0 then True else (S_X7_of w4 v4_3 1 ∧ (bnd (F_X7_of w4 v4_3 1) (fun r11 => (if r11 = q1 then (S_X7_placeOf w4 v4_3 ∧ True) else True)))))))))
def F_X7_burstAt (C : CS) (q1 : Int32) (q2 : Int32) : Int32 × CS := (bnd (F_X7_isKey q1) (fun r1 => (if r1 = 0 then (bnd ((F_X7_fails C 1).2) (fun u20 => (bnd ((F_X7_fails C 1).1) (fun r19 => (r19, u20))))) else lp (fun (z : Int32 × CS) => st_X7_burstAt_15 q1 q2 z.1 z.2) (0, C) (((C.1 0 1401).toInt - (0 : Int32).toInt).toNat + 1) (0, C))))
def S_X7_burstAt (C : CS) (q1 : Int32) (q2 : Int32) : Prop := (bnd (F_X7_isKey q1) (fun r1 => (if r1 = 0 then True else lpS (fun (z : Int32 × CS) => st_X7_burstAt_15 q1 q2 z.1 z.2) (fun (z : Int32 × CS) => Sst_X7_burstAt_15 q1 q2 z.1 z.2) (((C.1 0 1401).toInt - (0 : Int32).toInt).toNat + 1) (0, C))))
abbrev rmX7_burstAt : Room := { frames := 3, cells := 0, slots := 0, locals := 67 }
set_option maxHeartbeats 4000000 in
set_option maxRecDepth 100000 in
theorem c_X7_burstAt (l : Launch) (D : va_G) (cy : Nat → ClassId) (ad : Nat → Nat) (rest : va_W) (C : CS) (q1 : Int32) (q2 : Int32) (hS : S_X7_burstAt C q1 q2) : GMi l yX7_burstAt wsX7_burstAt rmX7_burstAt D cy [.ref (ad 0), .int q1, .int q2] (MW cy ad C ++ rest) (fun (r : Int32) (u : CS) => r = (F_X7_burstAt C q1 q2).1 ∧ u = (F_X7_burstAt C q1 q2).2) (fun u => MW cy ad u ++ rest) := by
  refine GMi.intro cX7_burstAt 4 RX7 (by decide) rfl rfl (Nat.le_of_ble_eq_true rfl) ?_
  intro p e s m args below meth c A Q ls X hret hl hw
  have hx := X.1
  have hb := X.2.1
  have hl : lv_has ls 4 [(0, .ref (ad 0)), (1, .int q1), (2, .int q2)] := hl
  have inX7 : ∀ w ∈ wsX70, w ∈ wsX7_burstAt := fun w h => List.mem_cons_of_mem _ (List.mem_append_left _ (List.mem_append_right _ h))
  obtain ⟨sp, hsp⟩ : ∃ sp, sp = F_X7_burstAt C q1 q2 := ⟨_, rfl⟩
  have hF := hsp.trans (F_X7_burstAt.eq_1 C q1 q2)
  have hS := Eq.mp (S_X7_burstAt.eq_1 C q1 q2) hS
  refine lv_iload_n hx hb dX7_burstAt_0 rfl (lv_at hl 1 rfl) ?_
  refine gcS_i (rest := []) X (c_X7_isKey l D cy (MW cy ad C ++ rest) q1) gy_X7_isKey gX7_burstAt_X7_isKey ⟨rfl, rfl, Nat.le_of_ble_eq_true rfl, Nat.le_of_ble_eq_true rfl⟩ rfl hl rfl (Nat.le_of_ble_eq_true rfl) dX7_burstAt_1 ⟨Nat.zero_le _, Nat.zero_le _⟩ hw (fun r1 _ H locs hr1 hw => ?_)
  obtain ⟨hr1, zr1⟩ : r1 = F_X7_isKey q1 ∧ (r1 = 0 ∨ r1 = 1) := hr1
  have hF := hF.trans (bnd_eq hr1)
  try have hS := Eq.mp (bnd_eq hr1) hS
  refine lv_if_ne (tgt := 13) hx hb dX7_burstAt_4 (by decide) (fun c3 => ?_) (fun c3 => ?_)
  · skip
    have hF := hF.trans (if_neg c3)
    try have hS := Eq.mp (if_neg c3) hS
    refine lv_iconst (v := 0) hx hb dX7_burstAt_13 (by decide) ?_
    refine lv_istore_n (lv' := [(3, .int 0), (0, .ref (ad 0)), (1, .int q1), (2, .int q2)]) hx hb dX7_burstAt_14 rfl hl (by decide) rfl (fun ls hl => ?_)
    have L4 : ∀ (n4 : Nat) (v4_3 : Int32) (w4 : CS), sp = lp (fun (z : Int32 × CS) => st_X7_burstAt_15 q1 q2 z.1 z.2) (0, C) n4 (v4_3, w4) → lpS (fun (z : Int32 × CS) => st_X7_burstAt_15 q1 q2 z.1 z.2) (fun (z : Int32 × CS) => Sst_X7_burstAt_15 q1 q2 z.1 z.2) n4 (v4_3, w4) → ∀ (H : Heap) (locs : List Loc) (ls : Array Slot), lv_has ls 4 [(3, .int v4_3), (0, .ref (ad 0)), (1, .int q1), (2, .int q2)] → gw D A s.heap (MW cy ad w4 ++ rest) H locs → W p l e rmX7_burstAt s m args below meth c H locs 0 0 Q (F0 m 15 ls []) := by
      intro n4
      induction n4 with
      | zero => intro v4_3 w4 hF hL; exact False.elim hL
      | succ n4 ih4 =>
        intro v4_3 w4 hF hL H locs ls hl hw
        have hT4 := st_X7_burstAt_15.eq_1 q1 q2 v4_3 w4
        have hLn4 := hL.2
        have hS := Eq.mp (Sst_X7_burstAt_15.eq_1 q1 q2 v4_3 w4) hL.1
        refine lv_iload_n hx hb dX7_burstAt_15 rfl (lv_at hl 0 rfl) ?_
        refine lv_aload_n hx hb dX7_burstAt_16 rfl (lv_at hl 1 rfl) ?_
        refine g_get (v := .ref (ad 1)) (C := RX7) (T := TX7) (N := 16) (ci := 9) X inX7 hw 0 rfl rfl 1 (by decide) (List.mem_of_getElem? (i := 1) rfl) rfl rfl dX7_burstAt_17 ?_
        refine lv_sipush (v := 1401) hx hb dX7_burstAt_20 (by decide) ?_
        refine g_ialdk (k := 1401) rfl X hw 1 rfl (vk rfl) dX7_burstAt_23 ?_
        refine lv_icmp_ge (tgt := 66) hx hb dX7_burstAt_24 (by decide) (fun c5 => ?_) (fun c5 => ?_)
        · skip
          have hT4 := hT4.trans (if_pos c5)
          try have hS := Eq.mp (if_pos c5) hS
          refine lv_aload_n hx hb dX7_burstAt_66 rfl (lv_at hl 1 rfl) ?_
          refine lv_iconst (v := 2) hx hb dX7_burstAt_67 (by decide) ?_
          refine gcV_i (rest := []) X (c_X7_fails l D cy ad rest w4 2) gy_X7_fails gX7_burstAt_X7_fails ⟨rfl, rfl, Nat.le_of_ble_eq_true rfl, Nat.le_of_ble_eq_true rfl⟩ 0 rfl rfl rfl hl rfl (Nat.le_of_ble_eq_true rfl) dX7_burstAt_68 ⟨Nat.zero_le _, Nat.zero_le _⟩ hw (fun r6 u7 H locs hr6 hw => ?_)
          obtain ⟨hr6, hu7⟩ : r6 = (F_X7_fails w4 2).1 ∧ u7 = (F_X7_fails w4 2).2 := hr6
          have hT4 := hT4.trans (bnd_eq hu7)
          try have hS := Eq.mp (bnd_eq hu7) hS
          have hT4 := hT4.trans (bnd_eq hr6)
          try have hS := Eq.mp (bnd_eq hr6) hS
          exact hret _ _ _ _ _ _ dX7_burstAt_71 ⟨congrArg Prod.fst ((hF.trans (lp_r hT4)).symm.trans hsp), congrArg Prod.snd ((hF.trans (lp_r hT4)).symm.trans hsp)⟩ hw
        · skip
          have hT4 := hT4.trans (if_neg c5)
          try have hS := Eq.mp (if_neg c5) hS
          refine lv_aload_n hx hb dX7_burstAt_27 rfl (lv_at hl 1 rfl) ?_
          refine lv_iload_n hx hb dX7_burstAt_28 rfl (lv_at hl 0 rfl) ?_
          have hSc : S_X7_isBurst w4 v4_3 := hS.1
          have hS := hS.2
          refine gcV_i (rest := []) X (c_X7_isBurst l D cy ad rest w4 v4_3 hSc) gy_X7_isBurst gX7_burstAt_X7_isBurst ⟨rfl, rfl, Nat.le_of_ble_eq_true rfl, Nat.le_of_ble_eq_true rfl⟩ 0 rfl rfl rfl hl rfl (Nat.le_of_ble_eq_true rfl) dX7_burstAt_29 ⟨Nat.zero_le _, Nat.zero_le _⟩ hw (fun r8 _ H locs hr8 hw => ?_)
          obtain ⟨hr8, zr8⟩ : r8 = F_X7_isBurst w4 v4_3 ∧ (r8 = 0 ∨ r8 = 1) := hr8
          have hT4 := hT4.trans (bnd_eq hr8)
          try have hS := Eq.mp (bnd_eq hr8) hS
          refine lv_if_eq (tgt := 60) hx hb dX7_burstAt_32 (by decide) (fun c10 => ?_) (fun c10 => ?_)
          · skip
            have hT4 := hT4.trans (if_pos c10)
            try have hS := Eq.mp (if_pos c10) hS
            refine lv_iinc (v := (v4_3 + 1)) (lv' := [(3, .int (v4_3 + 1)), (0, .ref (ad 0)), (1, .int q1), (2, .int q2)]) hx hb dX7_burstAt_60 hl (k := 0) rfl rfl (by decide) rfl (fun ls hl => ?_)
            refine lv_goto (tgt := 15) hx hb dX7_burstAt_63 (by decide) ?_
            exact ih4 (v4_3 + 1) w4 (hF.trans (lp_l hT4)) (hLn4 _ hT4) _ _ ls (lv_sub hl [0, 1, 2, 3] rfl) hw
          · skip
            have hT4 := hT4.trans (if_neg c10)
            try have hS := Eq.mp (if_neg c10) hS
            refine lv_aload_n hx hb dX7_burstAt_35 rfl (lv_at hl 1 rfl) ?_
            refine lv_iload_n hx hb dX7_burstAt_36 rfl (lv_at hl 0 rfl) ?_
            refine lv_iconst (v := 1) hx hb dX7_burstAt_37 (by decide) ?_
            have hSc : S_X7_of w4 v4_3 1 := hS.1
            have hS := hS.2
            refine gcV_i (rest := []) X (c_X7_of l D cy ad rest w4 v4_3 1 hSc) gy_X7_of gX7_burstAt_X7_of ⟨rfl, rfl, Nat.le_of_ble_eq_true rfl, Nat.le_of_ble_eq_true rfl⟩ 0 rfl rfl rfl hl rfl (Nat.le_of_ble_eq_true rfl) dX7_burstAt_38 ⟨Nat.zero_le _, Nat.zero_le _⟩ hw (fun r11 _ H locs hr11 hw => ?_)
            have hr11 : r11 = F_X7_of w4 v4_3 1 := hr11
            have hT4 := hT4.trans (bnd_eq hr11)
            try have hS := Eq.mp (bnd_eq hr11) hS
            refine lv_iload_n hx hb dX7_burstAt_41 rfl (lv_at hl 2 rfl) ?_
            refine lv_icmp_ne (tgt := 60) hx hb dX7_burstAt_42 (by decide) (fun c13 => ?_) (fun c13 => ?_)
            · skip
              have hT4 := hT4.trans (if_neg c13)
              try have hS := Eq.mp (if_neg c13) hS
              refine lv_iinc (v := (v4_3 + 1)) (lv' := [(3, .int (v4_3 + 1)), (0, .ref (ad 0)), (1, .int q1), (2, .int q2)]) hx hb dX7_burstAt_60 hl (k := 0) rfl rfl (by decide) rfl (fun ls hl => ?_)
              refine lv_goto (tgt := 15) hx hb dX7_burstAt_63 (by decide) ?_
              exact ih4 (v4_3 + 1) w4 (hF.trans (lp_l hT4)) (hLn4 _ hT4) _ _ ls (lv_sub hl [0, 1, 2, 3] rfl) hw
            · skip
              have hT4 := hT4.trans (if_pos c13)
              try have hS := Eq.mp (if_pos c13) hS
              refine lv_aload_n hx hb dX7_burstAt_45 rfl (lv_at hl 1 rfl) ?_
              refine lv_iload_n hx hb dX7_burstAt_46 rfl (lv_at hl 0 rfl) ?_
              have hSc : S_X7_placeOf w4 v4_3 := hS.1
              have hS := hS.2
              refine gcV_i (rest := []) X (c_X7_placeOf l D cy ad rest w4 v4_3 hSc) gy_X7_placeOf gX7_burstAt_X7_placeOf ⟨rfl, rfl, Nat.le_of_ble_eq_true rfl, Nat.le_of_ble_eq_true rfl⟩ 0 rfl rfl rfl hl rfl (Nat.le_of_ble_eq_true rfl) dX7_burstAt_47 ⟨Nat.zero_le _, Nat.zero_le _⟩ hw (fun r14 _ H locs hr14 hw => ?_)
              have hr14 : r14 = F_X7_placeOf w4 v4_3 := hr14
              have hT4 := hT4.trans (bnd_eq hr14)
              try have hS := Eq.mp (bnd_eq hr14) hS
              refine lv_iload_n hx hb dX7_burstAt_50 rfl (lv_at hl 3 rfl) ?_
              refine lv_icmp_ne (tgt := 60) hx hb dX7_burstAt_51 (by decide) (fun c16 => ?_) (fun c16 => ?_)
              · skip
                have hT4 := hT4.trans (if_neg c16)
                try have hS := Eq.mp (if_neg c16) hS
                refine lv_iinc (v := (v4_3 + 1)) (lv' := [(3, .int (v4_3 + 1)), (0, .ref (ad 0)), (1, .int q1), (2, .int q2)]) hx hb dX7_burstAt_60 hl (k := 0) rfl rfl (by decide) rfl (fun ls hl => ?_)
                refine lv_goto (tgt := 15) hx hb dX7_burstAt_63 (by decide) ?_
                exact ih4 (v4_3 + 1) w4 (hF.trans (lp_l hT4)) (hLn4 _ hT4) _ _ ls (lv_sub hl [0, 1, 2, 3] rfl) hw
              · skip
                have hT4 := hT4.trans (if_pos c16)
                try have hS := Eq.mp (if_pos c16) hS
                refine lv_aload_n hx hb dX7_burstAt_54 rfl (lv_at hl 1 rfl) ?_
                refine lv_iload_n hx hb dX7_burstAt_55 rfl (lv_at hl 0 rfl) ?_
                refine gcV_i (rest := []) X (c_X7_done l D cy ad rest w4 v4_3) gy_X7_done gX7_burstAt_X7_done ⟨rfl, rfl, Nat.le_of_ble_eq_true rfl, Nat.le_of_ble_eq_true rfl⟩ 0 rfl rfl rfl hl rfl (Nat.le_of_ble_eq_true rfl) dX7_burstAt_56 ⟨Nat.zero_le _, Nat.zero_le _⟩ hw (fun r17 u18 H locs hr17 hw => ?_)
                obtain ⟨hr17, hu18⟩ : r17 = (F_X7_done w4 v4_3).1 ∧ u18 = (F_X7_done w4 v4_3).2 := hr17
                have hT4 := hT4.trans (bnd_eq hu18)
                try have hS := Eq.mp (bnd_eq hu18) hS
                have hT4 := hT4.trans (bnd_eq hr17)
                try have hS := Eq.mp (bnd_eq hr17) hS
                exact hret _ _ _ _ _ _ dX7_burstAt_59 ⟨congrArg Prod.fst ((hF.trans (lp_r hT4)).symm.trans hsp), congrArg Prod.snd ((hF.trans (lp_r hT4)).symm.trans hsp)⟩ hw
    exact L4 _ 0 C hF hS _ _ ls (lv_sub hl [0, 1, 2, 3] rfl) hw
  · skip
    have hF := hF.trans (if_pos c3)
    try have hS := Eq.mp (if_pos c3) hS
    refine lv_aload_n hx hb dX7_burstAt_7 rfl (lv_at hl 0 rfl) ?_
    refine lv_iconst (v := 1) hx hb dX7_burstAt_8 (by decide) ?_
    refine gcV_i (rest := []) X (c_X7_fails l D cy ad rest C 1) gy_X7_fails gX7_burstAt_X7_fails ⟨rfl, rfl, Nat.le_of_ble_eq_true rfl, Nat.le_of_ble_eq_true rfl⟩ 0 rfl rfl rfl hl rfl (Nat.le_of_ble_eq_true rfl) dX7_burstAt_9 ⟨Nat.zero_le _, Nat.zero_le _⟩ hw (fun r19 u20 H locs hr19 hw => ?_)
    obtain ⟨hr19, hu20⟩ : r19 = (F_X7_fails C 1).1 ∧ u20 = (F_X7_fails C 1).2 := hr19
    have hF := hF.trans (bnd_eq hu20)
    try have hS := Eq.mp (bnd_eq hu20) hS
    have hF := hF.trans (bnd_eq hr19)
    try have hS := Eq.mp (bnd_eq hr19) hS
    exact hret _ _ _ _ _ _ dX7_burstAt_12 ⟨congrArg Prod.fst (hF.symm.trans hsp), congrArg Prod.snd (hF.symm.trans hsp)⟩ hw
theorem gy_X7_joined : gY yX7_joined RX7 cX7_joined 4 (some .int) wsX7_joined 2 := ⟨⟨_, rfl⟩, rfl, by decide +kernel, by decide +kernel, by decide +kernel⟩
def st_X7_joined_32 (q1 : Int32) (q2 : Int32) (v7_3 : Int32) (w7 : CS) : (Int32 × CS) ⊕ (Int32 × CS) := (if (w7.1 0 1401) ≤ v7_3 then (bnd ((F_X7_fails w7 3).2) (fun u10 => (bnd ((F_X7_fails w7 3).1) (fun r9 => .inr ((r9, u10)))))) else (bnd (F_X7_isOpen w7 v7_3) (fun r11 => (if r11 = 0 then .inl ((v7_3 + 1), w7) else (bnd (F_X7_of w7 v7_3 1) (fun r14 => (if r14 = q1 then (bnd (F_X7_of w7 v7_3 2) (fun r17 => (if (q2 + (w7.1 0 (1402 + q1).toNatClampNeg)) < r17 then .inl ((v7_3 + 1), w7) else (bnd (F_X7_of w7 v7_3 3) (fun r20 => (if (r20 + (w7.1 0 (1402 + q1).toNatClampNeg)) < q2 then .inl ((v7_3 + 1), w7) else (bnd ((F_X7_done w7 v7_3).2) (fun u24 => (bnd ((F_X7_done w7 v7_3).1) (fun r23 => .inr ((r23, u24)))))))))))) else .inl ((v7_3 + 1), w7))))))))
def Sst_X7_joined_32 (q1 : Int32) (q2 : Int32) (v7_3 : Int32) (w7 : CS) : Prop := (if (w7.1 0 1401) ≤ v7_3 then True else (S_X7_isOpen w7 v7_3 ∧ (bnd (F_X7_isOpen w7 v7_3) (fun r11 => (if r11 = 0 then True else (S_X7_of w7 v7_3 1 ∧ (bnd (F_X7_of w7 v7_3 1) (fun r14 => (if r14 = q1 then (S_X7_of w7 v7_3 2 ∧ (bnd (F_X7_of w7 v7_3 2) (fun r17 => (vp_in (1402 + q1) 1787 ∧ (if (q2 + (w7.1 0 (1402 + q1).toNatClampNeg)) < r17 then True else (S_X7_of w7 v7_3 3 ∧ (bnd (F_X7_of w7 v7_3 3) (fun r20 => (vp_in (1402 + q1) 1787 ∧ True))))))))) else True)))))))))
def F_X7_joined (C : CS) (q1 : Int32) (q2 : Int32) : Int32 × CS := (bnd (F_X7_isKey q1) (fun r1 => (if r1 = 0 then (bnd ((F_X7_fails C 1).2) (fun u28 => (bnd ((F_X7_fails C 1).1) (fun r27 => (r27, u28))))) else (bnd (F_X7_in q2 0 9999) (fun r4 => (if r4 = 0 then (bnd ((F_X7_fails C 2).2) (fun u26 => (bnd ((F_X7_fails C 2).1) (fun r25 => (r25, u26))))) else lp (fun (z : Int32 × CS) => st_X7_joined_32 q1 q2 z.1 z.2) (0, C) (((C.1 0 1401).toInt - (0 : Int32).toInt).toNat + 1) (0, C)))))))
def S_X7_joined (C : CS) (q1 : Int32) (q2 : Int32) : Prop := (bnd (F_X7_isKey q1) (fun r1 => (if r1 = 0 then True else (bnd (F_X7_in q2 0 9999) (fun r4 => (if r4 = 0 then True else lpS (fun (z : Int32 × CS) => st_X7_joined_32 q1 q2 z.1 z.2) (fun (z : Int32 × CS) => Sst_X7_joined_32 q1 q2 z.1 z.2) (((C.1 0 1401).toInt - (0 : Int32).toInt).toNat + 1) (0, C)))))))
abbrev rmX7_joined : Room := { frames := 3, cells := 0, slots := 0, locals := 64 }
set_option maxHeartbeats 4000000 in
set_option maxRecDepth 100000 in
theorem c_X7_joined (l : Launch) (D : va_G) (cy : Nat → ClassId) (ad : Nat → Nat) (rest : va_W) (C : CS) (q1 : Int32) (q2 : Int32) (hS : S_X7_joined C q1 q2) : GMi l yX7_joined wsX7_joined rmX7_joined D cy [.ref (ad 0), .int q1, .int q2] (MW cy ad C ++ rest) (fun (r : Int32) (u : CS) => r = (F_X7_joined C q1 q2).1 ∧ u = (F_X7_joined C q1 q2).2) (fun u => MW cy ad u ++ rest) := by
  refine GMi.intro cX7_joined 4 RX7 (by decide) rfl rfl (Nat.le_of_ble_eq_true rfl) ?_
  intro p e s m args below meth c A Q ls X hret hl hw
  have hx := X.1
  have hb := X.2.1
  have hl : lv_has ls 4 [(0, .ref (ad 0)), (1, .int q1), (2, .int q2)] := hl
  have inX7 : ∀ w ∈ wsX70, w ∈ wsX7_joined := fun w h => List.mem_cons_of_mem _ (List.mem_append_left _ (List.mem_append_right _ h))
  obtain ⟨sp, hsp⟩ : ∃ sp, sp = F_X7_joined C q1 q2 := ⟨_, rfl⟩
  have hF := hsp.trans (F_X7_joined.eq_1 C q1 q2)
  have hS := Eq.mp (S_X7_joined.eq_1 C q1 q2) hS
  refine lv_iload_n hx hb dX7_joined_0 rfl (lv_at hl 1 rfl) ?_
  refine gcS_i (rest := []) X (c_X7_isKey l D cy (MW cy ad C ++ rest) q1) gy_X7_isKey gX7_joined_X7_isKey ⟨rfl, rfl, Nat.le_of_ble_eq_true rfl, Nat.le_of_ble_eq_true rfl⟩ rfl hl rfl (Nat.le_of_ble_eq_true rfl) dX7_joined_1 ⟨Nat.zero_le _, Nat.zero_le _⟩ hw (fun r1 _ H locs hr1 hw => ?_)
  obtain ⟨hr1, zr1⟩ : r1 = F_X7_isKey q1 ∧ (r1 = 0 ∨ r1 = 1) := hr1
  have hF := hF.trans (bnd_eq hr1)
  try have hS := Eq.mp (bnd_eq hr1) hS
  refine lv_if_ne (tgt := 13) hx hb dX7_joined_4 (by decide) (fun c3 => ?_) (fun c3 => ?_)
  · skip
    have hF := hF.trans (if_neg c3)
    try have hS := Eq.mp (if_neg c3) hS
    refine lv_iload_n hx hb dX7_joined_13 rfl (lv_at hl 2 rfl) ?_
    refine lv_iconst (v := 0) hx hb dX7_joined_14 (by decide) ?_
    refine lv_sipush (v := 9999) hx hb dX7_joined_15 (by decide) ?_
    refine gcS_i (rest := []) X (c_X7_in l D cy (MW cy ad C ++ rest) q2 0 9999) gy_X7_in gX7_joined_X7_in ⟨rfl, rfl, Nat.le_of_ble_eq_true rfl, Nat.le_of_ble_eq_true rfl⟩ rfl hl rfl (Nat.le_of_ble_eq_true rfl) dX7_joined_18 ⟨Nat.zero_le _, Nat.zero_le _⟩ hw (fun r4 _ H locs hr4 hw => ?_)
    obtain ⟨hr4, zr4⟩ : r4 = F_X7_in q2 0 9999 ∧ (r4 = 0 ∨ r4 = 1) := hr4
    have hF := hF.trans (bnd_eq hr4)
    try have hS := Eq.mp (bnd_eq hr4) hS
    refine lv_if_ne (tgt := 30) hx hb dX7_joined_21 (by decide) (fun c6 => ?_) (fun c6 => ?_)
    · skip
      have hF := hF.trans (if_neg c6)
      try have hS := Eq.mp (if_neg c6) hS
      refine lv_iconst (v := 0) hx hb dX7_joined_30 (by decide) ?_
      refine lv_istore_n (lv' := [(3, .int 0), (0, .ref (ad 0)), (1, .int q1), (2, .int q2)]) hx hb dX7_joined_31 rfl hl (by decide) rfl (fun ls hl => ?_)
      have L7 : ∀ (n7 : Nat) (v7_3 : Int32) (w7 : CS), sp = lp (fun (z : Int32 × CS) => st_X7_joined_32 q1 q2 z.1 z.2) (0, C) n7 (v7_3, w7) → lpS (fun (z : Int32 × CS) => st_X7_joined_32 q1 q2 z.1 z.2) (fun (z : Int32 × CS) => Sst_X7_joined_32 q1 q2 z.1 z.2) n7 (v7_3, w7) → ∀ (H : Heap) (locs : List Loc) (ls : Array Slot), lv_has ls 4 [(3, .int v7_3), (0, .ref (ad 0)), (1, .int q1), (2, .int q2)] → gw D A s.heap (MW cy ad w7 ++ rest) H locs → W p l e rmX7_joined s m args below meth c H locs 0 0 Q (F0 m 32 ls []) := by
        intro n7
        induction n7 with
        | zero => intro v7_3 w7 hF hL; exact False.elim hL
        | succ n7 ih7 =>
          intro v7_3 w7 hF hL H locs ls hl hw
          have hT7 := st_X7_joined_32.eq_1 q1 q2 v7_3 w7
          have hLn7 := hL.2
          have hS := Eq.mp (Sst_X7_joined_32.eq_1 q1 q2 v7_3 w7) hL.1
          refine lv_iload_n hx hb dX7_joined_32 rfl (lv_at hl 0 rfl) ?_
          refine lv_aload_n hx hb dX7_joined_33 rfl (lv_at hl 1 rfl) ?_
          refine g_get (v := .ref (ad 1)) (C := RX7) (T := TX7) (N := 16) (ci := 9) X inX7 hw 0 rfl rfl 1 (by decide) (List.mem_of_getElem? (i := 1) rfl) rfl rfl dX7_joined_34 ?_
          refine lv_sipush (v := 1401) hx hb dX7_joined_37 (by decide) ?_
          refine g_ialdk (k := 1401) rfl X hw 1 rfl (vk rfl) dX7_joined_40 ?_
          refine lv_icmp_ge (tgt := 116) hx hb dX7_joined_41 (by decide) (fun c8 => ?_) (fun c8 => ?_)
          · skip
            have hT7 := hT7.trans (if_pos c8)
            try have hS := Eq.mp (if_pos c8) hS
            refine lv_aload_n hx hb dX7_joined_116 rfl (lv_at hl 1 rfl) ?_
            refine lv_iconst (v := 3) hx hb dX7_joined_117 (by decide) ?_
            refine gcV_i (rest := []) X (c_X7_fails l D cy ad rest w7 3) gy_X7_fails gX7_joined_X7_fails ⟨rfl, rfl, Nat.le_of_ble_eq_true rfl, Nat.le_of_ble_eq_true rfl⟩ 0 rfl rfl rfl hl rfl (Nat.le_of_ble_eq_true rfl) dX7_joined_118 ⟨Nat.zero_le _, Nat.zero_le _⟩ hw (fun r9 u10 H locs hr9 hw => ?_)
            obtain ⟨hr9, hu10⟩ : r9 = (F_X7_fails w7 3).1 ∧ u10 = (F_X7_fails w7 3).2 := hr9
            have hT7 := hT7.trans (bnd_eq hu10)
            try have hS := Eq.mp (bnd_eq hu10) hS
            have hT7 := hT7.trans (bnd_eq hr9)
            try have hS := Eq.mp (bnd_eq hr9) hS
            exact hret _ _ _ _ _ _ dX7_joined_121 ⟨congrArg Prod.fst ((hF.trans (lp_r hT7)).symm.trans hsp), congrArg Prod.snd ((hF.trans (lp_r hT7)).symm.trans hsp)⟩ hw
          · skip
            have hT7 := hT7.trans (if_neg c8)
            try have hS := Eq.mp (if_neg c8) hS
            refine lv_aload_n hx hb dX7_joined_44 rfl (lv_at hl 1 rfl) ?_
            refine lv_iload_n hx hb dX7_joined_45 rfl (lv_at hl 0 rfl) ?_
            have hSc : S_X7_isOpen w7 v7_3 := hS.1
            have hS := hS.2
            refine gcV_i (rest := []) X (c_X7_isOpen l D cy ad rest w7 v7_3 hSc) gy_X7_isOpen gX7_joined_X7_isOpen ⟨rfl, rfl, Nat.le_of_ble_eq_true rfl, Nat.le_of_ble_eq_true rfl⟩ 0 rfl rfl rfl hl rfl (Nat.le_of_ble_eq_true rfl) dX7_joined_46 ⟨Nat.zero_le _, Nat.zero_le _⟩ hw (fun r11 _ H locs hr11 hw => ?_)
            obtain ⟨hr11, zr11⟩ : r11 = F_X7_isOpen w7 v7_3 ∧ (r11 = 0 ∨ r11 = 1) := hr11
            have hT7 := hT7.trans (bnd_eq hr11)
            try have hS := Eq.mp (bnd_eq hr11) hS
            refine lv_if_eq (tgt := 110) hx hb dX7_joined_49 (by decide) (fun c13 => ?_) (fun c13 => ?_)
            · skip
              have hT7 := hT7.trans (if_pos c13)
              try have hS := Eq.mp (if_pos c13) hS
              refine lv_iinc (v := (v7_3 + 1)) (lv' := [(3, .int (v7_3 + 1)), (0, .ref (ad 0)), (1, .int q1), (2, .int q2)]) hx hb dX7_joined_110 hl (k := 0) rfl rfl (by decide) rfl (fun ls hl => ?_)
              refine lv_goto (tgt := 32) hx hb dX7_joined_113 (by decide) ?_
              exact ih7 (v7_3 + 1) w7 (hF.trans (lp_l hT7)) (hLn7 _ hT7) _ _ ls (lv_sub hl [0, 1, 2, 3] rfl) hw
            · skip
              have hT7 := hT7.trans (if_neg c13)
              try have hS := Eq.mp (if_neg c13) hS
              refine lv_aload_n hx hb dX7_joined_52 rfl (lv_at hl 1 rfl) ?_
              refine lv_iload_n hx hb dX7_joined_53 rfl (lv_at hl 0 rfl) ?_
              refine lv_iconst (v := 1) hx hb dX7_joined_54 (by decide) ?_
              have hSc : S_X7_of w7 v7_3 1 := hS.1
              have hS := hS.2
              refine gcV_i (rest := []) X (c_X7_of l D cy ad rest w7 v7_3 1 hSc) gy_X7_of gX7_joined_X7_of ⟨rfl, rfl, Nat.le_of_ble_eq_true rfl, Nat.le_of_ble_eq_true rfl⟩ 0 rfl rfl rfl hl rfl (Nat.le_of_ble_eq_true rfl) dX7_joined_55 ⟨Nat.zero_le _, Nat.zero_le _⟩ hw (fun r14 _ H locs hr14 hw => ?_)
              have hr14 : r14 = F_X7_of w7 v7_3 1 := hr14
              have hT7 := hT7.trans (bnd_eq hr14)
              try have hS := Eq.mp (bnd_eq hr14) hS
              refine lv_iload_n hx hb dX7_joined_58 rfl (lv_at hl 2 rfl) ?_
              refine lv_icmp_ne (tgt := 110) hx hb dX7_joined_59 (by decide) (fun c16 => ?_) (fun c16 => ?_)
              · skip
                have hT7 := hT7.trans (if_neg c16)
                try have hS := Eq.mp (if_neg c16) hS
                refine lv_iinc (v := (v7_3 + 1)) (lv' := [(3, .int (v7_3 + 1)), (0, .ref (ad 0)), (1, .int q1), (2, .int q2)]) hx hb dX7_joined_110 hl (k := 0) rfl rfl (by decide) rfl (fun ls hl => ?_)
                refine lv_goto (tgt := 32) hx hb dX7_joined_113 (by decide) ?_
                exact ih7 (v7_3 + 1) w7 (hF.trans (lp_l hT7)) (hLn7 _ hT7) _ _ ls (lv_sub hl [0, 1, 2, 3] rfl) hw
              · skip
                have hT7 := hT7.trans (if_pos c16)
                try have hS := Eq.mp (if_pos c16) hS
                refine lv_aload_n hx hb dX7_joined_62 rfl (lv_at hl 1 rfl) ?_
                refine lv_iload_n hx hb dX7_joined_63 rfl (lv_at hl 0 rfl) ?_
                refine lv_iconst (v := 2) hx hb dX7_joined_64 (by decide) ?_
                have hSc : S_X7_of w7 v7_3 2 := hS.1
                have hS := hS.2
                refine gcV_i (rest := []) X (c_X7_of l D cy ad rest w7 v7_3 2 hSc) gy_X7_of gX7_joined_X7_of ⟨rfl, rfl, Nat.le_of_ble_eq_true rfl, Nat.le_of_ble_eq_true rfl⟩ 0 rfl rfl rfl hl rfl (Nat.le_of_ble_eq_true rfl) dX7_joined_65 ⟨Nat.zero_le _, Nat.zero_le _⟩ hw (fun r17 _ H locs hr17 hw => ?_)
                have hr17 : r17 = F_X7_of w7 v7_3 2 := hr17
                have hT7 := hT7.trans (bnd_eq hr17)
                try have hS := Eq.mp (bnd_eq hr17) hS
                refine lv_iload_n hx hb dX7_joined_68 rfl (lv_at hl 3 rfl) ?_
                refine lv_aload_n hx hb dX7_joined_69 rfl (lv_at hl 1 rfl) ?_
                refine g_get (v := .ref (ad 1)) (C := RX7) (T := TX7) (N := 16) (ci := 9) X inX7 hw 0 rfl rfl 1 (by decide) (List.mem_of_getElem? (i := 1) rfl) rfl rfl dX7_joined_70 ?_
                refine lv_sipush (v := 1402) hx hb dX7_joined_73 (by decide) ?_
                refine lv_iload_n hx hb dX7_joined_76 rfl (lv_at hl 2 rfl) ?_
                refine lv_iadd hx hb dX7_joined_77 ?_
                refine g_iald X hw 1 rfl hS.1 dX7_joined_78 ?_
                have hS := hS.2
                refine lv_iadd hx hb dX7_joined_79 ?_
                refine lv_icmp_gt (tgt := 110) hx hb dX7_joined_80 (by decide) (fun c19 => ?_) (fun c19 => ?_)
                · skip
                  have hT7 := hT7.trans (if_pos c19)
                  try have hS := Eq.mp (if_pos c19) hS
                  refine lv_iinc (v := (v7_3 + 1)) (lv' := [(3, .int (v7_3 + 1)), (0, .ref (ad 0)), (1, .int q1), (2, .int q2)]) hx hb dX7_joined_110 hl (k := 0) rfl rfl (by decide) rfl (fun ls hl => ?_)
                  refine lv_goto (tgt := 32) hx hb dX7_joined_113 (by decide) ?_
                  exact ih7 (v7_3 + 1) w7 (hF.trans (lp_l hT7)) (hLn7 _ hT7) _ _ ls (lv_sub hl [0, 1, 2, 3] rfl) hw
                · skip
                  have hT7 := hT7.trans (if_neg c19)
                  try have hS := Eq.mp (if_neg c19) hS
                  refine lv_aload_n hx hb dX7_joined_83 rfl (lv_at hl 1 rfl) ?_
                  refine lv_iload_n hx hb dX7_joined_84 rfl (lv_at hl 0 rfl) ?_
                  refine lv_iconst (v := 3) hx hb dX7_joined_85 (by decide) ?_
                  have hSc : S_X7_of w7 v7_3 3 := hS.1
                  have hS := hS.2
                  refine gcV_i (rest := []) X (c_X7_of l D cy ad rest w7 v7_3 3 hSc) gy_X7_of gX7_joined_X7_of ⟨rfl, rfl, Nat.le_of_ble_eq_true rfl, Nat.le_of_ble_eq_true rfl⟩ 0 rfl rfl rfl hl rfl (Nat.le_of_ble_eq_true rfl) dX7_joined_86 ⟨Nat.zero_le _, Nat.zero_le _⟩ hw (fun r20 _ H locs hr20 hw => ?_)
                  have hr20 : r20 = F_X7_of w7 v7_3 3 := hr20
                  have hT7 := hT7.trans (bnd_eq hr20)
                  try have hS := Eq.mp (bnd_eq hr20) hS
                  refine lv_aload_n hx hb dX7_joined_89 rfl (lv_at hl 1 rfl) ?_
                  refine g_get (v := .ref (ad 1)) (C := RX7) (T := TX7) (N := 16) (ci := 9) X inX7 hw 0 rfl rfl 1 (by decide) (List.mem_of_getElem? (i := 1) rfl) rfl rfl dX7_joined_90 ?_
                  refine lv_sipush (v := 1402) hx hb dX7_joined_93 (by decide) ?_
                  refine lv_iload_n hx hb dX7_joined_96 rfl (lv_at hl 2 rfl) ?_
                  refine lv_iadd hx hb dX7_joined_97 ?_
                  refine g_iald X hw 1 rfl hS.1 dX7_joined_98 ?_
                  have hS := hS.2
                  refine lv_iadd hx hb dX7_joined_99 ?_
                  refine lv_iload_n hx hb dX7_joined_100 rfl (lv_at hl 3 rfl) ?_
                  refine lv_icmp_lt (tgt := 110) hx hb dX7_joined_101 (by decide) (fun c22 => ?_) (fun c22 => ?_)
                  · skip
                    have hT7 := hT7.trans (if_pos c22)
                    try have hS := Eq.mp (if_pos c22) hS
                    refine lv_iinc (v := (v7_3 + 1)) (lv' := [(3, .int (v7_3 + 1)), (0, .ref (ad 0)), (1, .int q1), (2, .int q2)]) hx hb dX7_joined_110 hl (k := 0) rfl rfl (by decide) rfl (fun ls hl => ?_)
                    refine lv_goto (tgt := 32) hx hb dX7_joined_113 (by decide) ?_
                    exact ih7 (v7_3 + 1) w7 (hF.trans (lp_l hT7)) (hLn7 _ hT7) _ _ ls (lv_sub hl [0, 1, 2, 3] rfl) hw
                  · skip
                    have hT7 := hT7.trans (if_neg c22)
                    try have hS := Eq.mp (if_neg c22) hS
                    refine lv_aload_n hx hb dX7_joined_104 rfl (lv_at hl 1 rfl) ?_
                    refine lv_iload_n hx hb dX7_joined_105 rfl (lv_at hl 0 rfl) ?_
                    refine gcV_i (rest := []) X (c_X7_done l D cy ad rest w7 v7_3) gy_X7_done gX7_joined_X7_done ⟨rfl, rfl, Nat.le_of_ble_eq_true rfl, Nat.le_of_ble_eq_true rfl⟩ 0 rfl rfl rfl hl rfl (Nat.le_of_ble_eq_true rfl) dX7_joined_106 ⟨Nat.zero_le _, Nat.zero_le _⟩ hw (fun r23 u24 H locs hr23 hw => ?_)
                    obtain ⟨hr23, hu24⟩ : r23 = (F_X7_done w7 v7_3).1 ∧ u24 = (F_X7_done w7 v7_3).2 := hr23
                    have hT7 := hT7.trans (bnd_eq hu24)
                    try have hS := Eq.mp (bnd_eq hu24) hS
                    have hT7 := hT7.trans (bnd_eq hr23)
                    try have hS := Eq.mp (bnd_eq hr23) hS
                    exact hret _ _ _ _ _ _ dX7_joined_109 ⟨congrArg Prod.fst ((hF.trans (lp_r hT7)).symm.trans hsp), congrArg Prod.snd ((hF.trans (lp_r hT7)).symm.trans hsp)⟩ hw
      exact L7 _ 0 C hF hS _ _ ls (lv_sub hl [0, 1, 2, 3] rfl) hw
    · skip
      have hF := hF.trans (if_pos c6)
      try have hS := Eq.mp (if_pos c6) hS
      refine lv_aload_n hx hb dX7_joined_24 rfl (lv_at hl 0 rfl) ?_
      refine lv_iconst (v := 2) hx hb dX7_joined_25 (by decide) ?_
      refine gcV_i (rest := []) X (c_X7_fails l D cy ad rest C 2) gy_X7_fails gX7_joined_X7_fails ⟨rfl, rfl, Nat.le_of_ble_eq_true rfl, Nat.le_of_ble_eq_true rfl⟩ 0 rfl rfl rfl hl rfl (Nat.le_of_ble_eq_true rfl) dX7_joined_26 ⟨Nat.zero_le _, Nat.zero_le _⟩ hw (fun r25 u26 H locs hr25 hw => ?_)
      obtain ⟨hr25, hu26⟩ : r25 = (F_X7_fails C 2).1 ∧ u26 = (F_X7_fails C 2).2 := hr25
      have hF := hF.trans (bnd_eq hu26)
      try have hS := Eq.mp (bnd_eq hu26) hS
      have hF := hF.trans (bnd_eq hr25)
      try have hS := Eq.mp (bnd_eq hr25) hS
      exact hret _ _ _ _ _ _ dX7_joined_29 ⟨congrArg Prod.fst (hF.symm.trans hsp), congrArg Prod.snd (hF.symm.trans hsp)⟩ hw
  · skip
    have hF := hF.trans (if_pos c3)
    try have hS := Eq.mp (if_pos c3) hS
    refine lv_aload_n hx hb dX7_joined_7 rfl (lv_at hl 0 rfl) ?_
    refine lv_iconst (v := 1) hx hb dX7_joined_8 (by decide) ?_
    refine gcV_i (rest := []) X (c_X7_fails l D cy ad rest C 1) gy_X7_fails gX7_joined_X7_fails ⟨rfl, rfl, Nat.le_of_ble_eq_true rfl, Nat.le_of_ble_eq_true rfl⟩ 0 rfl rfl rfl hl rfl (Nat.le_of_ble_eq_true rfl) dX7_joined_9 ⟨Nat.zero_le _, Nat.zero_le _⟩ hw (fun r27 u28 H locs hr27 hw => ?_)
    obtain ⟨hr27, hu28⟩ : r27 = (F_X7_fails C 1).1 ∧ u28 = (F_X7_fails C 1).2 := hr27
    have hF := hF.trans (bnd_eq hu28)
    try have hS := Eq.mp (bnd_eq hu28) hS
    have hF := hF.trans (bnd_eq hr27)
    try have hS := Eq.mp (bnd_eq hr27) hS
    exact hret _ _ _ _ _ _ dX7_joined_12 ⟨congrArg Prod.fst (hF.symm.trans hsp), congrArg Prod.snd (hF.symm.trans hsp)⟩ hw
theorem gy_X7_rankOf : gY yX7_rankOf RX7 cX7_rankOf 5 (some .int) wsX7_rankOf 1 := ⟨⟨_, rfl⟩, rfl, by decide +kernel, by decide +kernel, by decide +kernel⟩
def st_X7_rankOf_4 (q1 : Int32) (C : CS) (v1_3 : Int32) (v1_2 : Int32) : (Int32 × Int32) ⊕ Int32 := (if (C.1 0 400) ≤ v1_3 then .inr (v1_2) else (if (C.1 0 ((4 * v1_3) + 3).toNatClampNeg) = (C.1 0 ((4 * q1) + 3).toNatClampNeg) then (if (C.1 0 ((4 * v1_3) + 1).toNatClampNeg) < (C.1 0 ((4 * q1) + 1).toNatClampNeg) then .inl ((v1_3 + 1), (v1_2 + 1)) else (if (C.1 0 ((4 * v1_3) + 1).toNatClampNeg) = (C.1 0 ((4 * q1) + 1).toNatClampNeg) then (if q1 ≤ v1_3 then .inl ((v1_3 + 1), (v1_2 + 0)) else .inl ((v1_3 + 1), (v1_2 + 1))) else .inl ((v1_3 + 1), (v1_2 + 0)))) else .inl ((v1_3 + 1), (v1_2 + 0))))
def Sst_X7_rankOf_4 (q1 : Int32) (C : CS) (v1_3 : Int32) (v1_2 : Int32) : Prop := (if (C.1 0 400) ≤ v1_3 then True else (vp_in ((4 * v1_3) + 3) 1787 ∧ (vp_in ((4 * q1) + 3) 1787 ∧ (if (C.1 0 ((4 * v1_3) + 3).toNatClampNeg) = (C.1 0 ((4 * q1) + 3).toNatClampNeg) then (vp_in ((4 * v1_3) + 1) 1787 ∧ (vp_in ((4 * q1) + 1) 1787 ∧ (if (C.1 0 ((4 * v1_3) + 1).toNatClampNeg) < (C.1 0 ((4 * q1) + 1).toNatClampNeg) then True else (vp_in ((4 * v1_3) + 1) 1787 ∧ (vp_in ((4 * q1) + 1) 1787 ∧ True))))) else True))))
def F_X7_rankOf (C : CS) (q1 : Int32) : Int32 := lp (fun (z : Int32 × Int32) => st_X7_rankOf_4 q1 C z.1 z.2) 0 (((C.1 0 400).toInt - (0 : Int32).toInt).toNat + 1) (0, 0)
def S_X7_rankOf (C : CS) (q1 : Int32) : Prop := lpS (fun (z : Int32 × Int32) => st_X7_rankOf_4 q1 C z.1 z.2) (fun (z : Int32 × Int32) => Sst_X7_rankOf_4 q1 C z.1 z.2) (((C.1 0 400).toInt - (0 : Int32).toInt).toNat + 1) (0, 0)
abbrev rmX7_rankOf : Room := { frames := 0, cells := 0, slots := 0, locals := 0 }
set_option maxHeartbeats 4000000 in
set_option maxRecDepth 100000 in
theorem c_X7_rankOf (l : Launch) (D : va_G) (cy : Nat → ClassId) (ad : Nat → Nat) (rest : va_W) (C : CS) (q1 : Int32) (hS : S_X7_rankOf C q1) : GMi l yX7_rankOf wsX7_rankOf rmX7_rankOf D cy [.ref (ad 0), .int q1] (MW cy ad C ++ rest) (fun (r : Int32) (_ : Unit) => r = F_X7_rankOf C q1) (fun _ => MW cy ad C ++ rest) := by
  refine GMi.intro cX7_rankOf 5 RX7 (by decide) rfl rfl (Nat.le_of_ble_eq_true rfl) ?_
  intro p e s m args below meth c A Q ls X hret hl hw
  have hx := X.1
  have hb := X.2.1
  have hl : lv_has ls 5 [(0, .ref (ad 0)), (1, .int q1)] := hl
  have inX7 : ∀ w ∈ wsX70, w ∈ wsX7_rankOf := fun w h => List.mem_cons_of_mem _ (List.mem_append_left _ (List.mem_append_right _ h))
  obtain ⟨sp, hsp⟩ : ∃ sp, sp = F_X7_rankOf C q1 := ⟨_, rfl⟩
  have hF := hsp.trans (F_X7_rankOf.eq_1 C q1)
  have hS := Eq.mp (S_X7_rankOf.eq_1 C q1) hS
  refine lv_iconst (v := 0) hx hb dX7_rankOf_0 (by decide) ?_
  refine lv_istore_n (lv' := [(2, .int 0), (0, .ref (ad 0)), (1, .int q1)]) hx hb dX7_rankOf_1 rfl hl (by decide) rfl (fun ls hl => ?_)
  refine lv_iconst (v := 0) hx hb dX7_rankOf_2 (by decide) ?_
  refine lv_istore_n (lv' := [(3, .int 0), (2, .int 0), (0, .ref (ad 0)), (1, .int q1)]) hx hb dX7_rankOf_3 rfl hl (by decide) rfl (fun ls hl => ?_)
  have L1 : ∀ (n1 : Nat) (v1_3 : Int32) (v1_2 : Int32), sp = lp (fun (z : Int32 × Int32) => st_X7_rankOf_4 q1 C z.1 z.2) 0 n1 (v1_3, v1_2) → lpS (fun (z : Int32 × Int32) => st_X7_rankOf_4 q1 C z.1 z.2) (fun (z : Int32 × Int32) => Sst_X7_rankOf_4 q1 C z.1 z.2) n1 (v1_3, v1_2) → ∀ (H : Heap) (locs : List Loc) (ls : Array Slot), lv_has ls 5 [(3, .int v1_3), (2, .int v1_2), (0, .ref (ad 0)), (1, .int q1)] → gw D A s.heap (MW cy ad C ++ rest) H locs → W p l e rmX7_rankOf s m args below meth c H locs 0 0 Q (F0 m 4 ls []) := by
    intro n1
    induction n1 with
    | zero => intro v1_3 v1_2 hF hL; exact False.elim hL
    | succ n1 ih1 =>
      intro v1_3 v1_2 hF hL H locs ls hl hw
      have hT1 := st_X7_rankOf_4.eq_1 q1 C v1_3 v1_2
      have hLn1 := hL.2
      have hS := Eq.mp (Sst_X7_rankOf_4.eq_1 q1 C v1_3 v1_2) hL.1
      refine lv_iload_n hx hb dX7_rankOf_4 rfl (lv_at hl 0 rfl) ?_
      refine lv_aload_n hx hb dX7_rankOf_5 rfl (lv_at hl 2 rfl) ?_
      refine g_get (v := .ref (ad 1)) (C := RX7) (T := TX7) (N := 16) (ci := 9) X inX7 hw 0 rfl rfl 1 (by decide) (List.mem_of_getElem? (i := 1) rfl) rfl rfl dX7_rankOf_6 ?_
      refine lv_sipush (v := 400) hx hb dX7_rankOf_9 (by decide) ?_
      refine g_ialdk (k := 400) rfl X hw 1 rfl (vk rfl) dX7_rankOf_12 ?_
      refine lv_icmp_ge (tgt := 116) hx hb dX7_rankOf_13 (by decide) (fun c2 => ?_) (fun c2 => ?_)
      · skip
        have hT1 := hT1.trans (if_pos c2)
        try have hS := Eq.mp (if_pos c2) hS
        refine lv_iload_n hx hb dX7_rankOf_116 rfl (lv_at hl 1 rfl) ?_
        exact hret _ _ () _ _ _ dX7_rankOf_117 ((hF.trans (lp_r hT1)).symm.trans hsp) hw
      · skip
        have hT1 := hT1.trans (if_neg c2)
        try have hS := Eq.mp (if_neg c2) hS
        refine lv_aload_n hx hb dX7_rankOf_16 rfl (lv_at hl 2 rfl) ?_
        refine g_get (v := .ref (ad 1)) (C := RX7) (T := TX7) (N := 16) (ci := 9) X inX7 hw 0 rfl rfl 1 (by decide) (List.mem_of_getElem? (i := 1) rfl) rfl rfl dX7_rankOf_17 ?_
        refine lv_iconst (v := 4) hx hb dX7_rankOf_20 (by decide) ?_
        refine lv_iload_n hx hb dX7_rankOf_21 rfl (lv_at hl 0 rfl) ?_
        refine lv_imul hx hb dX7_rankOf_22 ?_
        refine lv_iconst (v := 3) hx hb dX7_rankOf_23 (by decide) ?_
        refine lv_iadd hx hb dX7_rankOf_24 ?_
        refine g_iald X hw 1 rfl hS.1 dX7_rankOf_25 ?_
        have hS := hS.2
        refine lv_aload_n hx hb dX7_rankOf_26 rfl (lv_at hl 2 rfl) ?_
        refine g_get (v := .ref (ad 1)) (C := RX7) (T := TX7) (N := 16) (ci := 9) X inX7 hw 0 rfl rfl 1 (by decide) (List.mem_of_getElem? (i := 1) rfl) rfl rfl dX7_rankOf_27 ?_
        refine lv_iconst (v := 4) hx hb dX7_rankOf_30 (by decide) ?_
        refine lv_iload_n hx hb dX7_rankOf_31 rfl (lv_at hl 3 rfl) ?_
        refine lv_imul hx hb dX7_rankOf_32 ?_
        refine lv_iconst (v := 3) hx hb dX7_rankOf_33 (by decide) ?_
        refine lv_iadd hx hb dX7_rankOf_34 ?_
        refine g_iald X hw 1 rfl hS.1 dX7_rankOf_35 ?_
        have hS := hS.2
        refine lv_icmp_ne (tgt := 43) hx hb dX7_rankOf_36 (by decide) (fun c3 => ?_) (fun c3 => ?_)
        · skip
          have hT1 := hT1.trans (if_neg c3)
          try have hS := Eq.mp (if_neg c3) hS
          refine lv_iconst (v := 0) hx hb dX7_rankOf_43 (by decide) ?_
          refine lv_istore (lv' := [(4, .int 0), (3, .int v1_3), (2, .int v1_2), (0, .ref (ad 0)), (1, .int q1)]) hx hb dX7_rankOf_44 hl (by decide) rfl (fun ls hl => ?_)
          refine lv_iload_n hx hb dX7_rankOf_46 rfl (lv_at hl 2 rfl) ?_
          refine lv_iload hx hb dX7_rankOf_47 (lv_at hl 0 rfl) ?_
          refine lv_if_eq (tgt := 107) hx hb dX7_rankOf_49 (by decide) (fun _ => ?_) (fun c => absurd (by decide) c)
          refine lv_iconst (v := 0) hx hb dX7_rankOf_107 (by decide) ?_
          refine lv_iadd hx hb dX7_rankOf_108 ?_
          refine lv_istore_n (lv' := [(2, .int (v1_2 + 0)), (4, .int 0), (3, .int v1_3), (0, .ref (ad 0)), (1, .int q1)]) hx hb dX7_rankOf_109 rfl hl (by decide) rfl (fun ls hl => ?_)
          refine lv_iinc (v := (v1_3 + 1)) (lv' := [(3, .int (v1_3 + 1)), (2, .int (v1_2 + 0)), (4, .int 0), (0, .ref (ad 0)), (1, .int q1)]) hx hb dX7_rankOf_110 hl (k := 2) rfl rfl (by decide) rfl (fun ls hl => ?_)
          refine lv_goto (tgt := 4) hx hb dX7_rankOf_113 (by decide) ?_
          exact ih1 (v1_3 + 1) (v1_2 + 0) (hF.trans (lp_l hT1)) (hLn1 _ hT1) _ _ ls (lv_sub hl [0, 1, 3, 4] rfl) hw
        · skip
          have hT1 := hT1.trans (if_pos c3)
          try have hS := Eq.mp (if_pos c3) hS
          refine lv_iconst (v := 1) hx hb dX7_rankOf_39 (by decide) ?_
          refine lv_goto (tgt := 44) hx hb dX7_rankOf_40 (by decide) ?_
          refine lv_istore (lv' := [(4, .int 1), (3, .int v1_3), (2, .int v1_2), (0, .ref (ad 0)), (1, .int q1)]) hx hb dX7_rankOf_44 hl (by decide) rfl (fun ls hl => ?_)
          refine lv_iload_n hx hb dX7_rankOf_46 rfl (lv_at hl 2 rfl) ?_
          refine lv_iload hx hb dX7_rankOf_47 (lv_at hl 0 rfl) ?_
          refine lv_if_eq (tgt := 107) hx hb dX7_rankOf_49 (by decide) (fun c => absurd c (by decide)) (fun _ => ?_)
          refine lv_aload_n hx hb dX7_rankOf_52 rfl (lv_at hl 3 rfl) ?_
          refine g_get (v := .ref (ad 1)) (C := RX7) (T := TX7) (N := 16) (ci := 9) X inX7 hw 0 rfl rfl 1 (by decide) (List.mem_of_getElem? (i := 1) rfl) rfl rfl dX7_rankOf_53 ?_
          refine lv_iconst (v := 4) hx hb dX7_rankOf_56 (by decide) ?_
          refine lv_iload_n hx hb dX7_rankOf_57 rfl (lv_at hl 1 rfl) ?_
          refine lv_imul hx hb dX7_rankOf_58 ?_
          refine lv_iconst (v := 1) hx hb dX7_rankOf_59 (by decide) ?_
          refine lv_iadd hx hb dX7_rankOf_60 ?_
          refine g_iald X hw 1 rfl hS.1 dX7_rankOf_61 ?_
          have hS := hS.2
          refine lv_aload_n hx hb dX7_rankOf_62 rfl (lv_at hl 3 rfl) ?_
          refine g_get (v := .ref (ad 1)) (C := RX7) (T := TX7) (N := 16) (ci := 9) X inX7 hw 0 rfl rfl 1 (by decide) (List.mem_of_getElem? (i := 1) rfl) rfl rfl dX7_rankOf_63 ?_
          refine lv_iconst (v := 4) hx hb dX7_rankOf_66 (by decide) ?_
          refine lv_iload_n hx hb dX7_rankOf_67 rfl (lv_at hl 4 rfl) ?_
          refine lv_imul hx hb dX7_rankOf_68 ?_
          refine lv_iconst (v := 1) hx hb dX7_rankOf_69 (by decide) ?_
          refine lv_iadd hx hb dX7_rankOf_70 ?_
          refine g_iald X hw 1 rfl hS.1 dX7_rankOf_71 ?_
          have hS := hS.2
          refine lv_icmp_lt (tgt := 103) hx hb dX7_rankOf_72 (by decide) (fun c4 => ?_) (fun c4 => ?_)
          · skip
            have hT1 := hT1.trans (if_pos c4)
            try have hS := Eq.mp (if_pos c4) hS
            refine lv_iconst (v := 1) hx hb dX7_rankOf_103 (by decide) ?_
            refine lv_goto (tgt := 108) hx hb dX7_rankOf_104 (by decide) ?_
            refine lv_iadd hx hb dX7_rankOf_108 ?_
            refine lv_istore_n (lv' := [(2, .int (v1_2 + 1)), (4, .int 1), (3, .int v1_3), (0, .ref (ad 0)), (1, .int q1)]) hx hb dX7_rankOf_109 rfl hl (by decide) rfl (fun ls hl => ?_)
            refine lv_iinc (v := (v1_3 + 1)) (lv' := [(3, .int (v1_3 + 1)), (2, .int (v1_2 + 1)), (4, .int 1), (0, .ref (ad 0)), (1, .int q1)]) hx hb dX7_rankOf_110 hl (k := 2) rfl rfl (by decide) rfl (fun ls hl => ?_)
            refine lv_goto (tgt := 4) hx hb dX7_rankOf_113 (by decide) ?_
            exact ih1 (v1_3 + 1) (v1_2 + 1) (hF.trans (lp_l hT1)) (hLn1 _ hT1) _ _ ls (lv_sub hl [0, 1, 3, 4] rfl) hw
          · skip
            have hT1 := hT1.trans (if_neg c4)
            try have hS := Eq.mp (if_neg c4) hS
            refine lv_aload_n hx hb dX7_rankOf_75 rfl (lv_at hl 3 rfl) ?_
            refine g_get (v := .ref (ad 1)) (C := RX7) (T := TX7) (N := 16) (ci := 9) X inX7 hw 0 rfl rfl 1 (by decide) (List.mem_of_getElem? (i := 1) rfl) rfl rfl dX7_rankOf_76 ?_
            refine lv_iconst (v := 4) hx hb dX7_rankOf_79 (by decide) ?_
            refine lv_iload_n hx hb dX7_rankOf_80 rfl (lv_at hl 1 rfl) ?_
            refine lv_imul hx hb dX7_rankOf_81 ?_
            refine lv_iconst (v := 1) hx hb dX7_rankOf_82 (by decide) ?_
            refine lv_iadd hx hb dX7_rankOf_83 ?_
            refine g_iald X hw 1 rfl hS.1 dX7_rankOf_84 ?_
            have hS := hS.2
            refine lv_aload_n hx hb dX7_rankOf_85 rfl (lv_at hl 3 rfl) ?_
            refine g_get (v := .ref (ad 1)) (C := RX7) (T := TX7) (N := 16) (ci := 9) X inX7 hw 0 rfl rfl 1 (by decide) (List.mem_of_getElem? (i := 1) rfl) rfl rfl dX7_rankOf_86 ?_
            refine lv_iconst (v := 4) hx hb dX7_rankOf_89 (by decide) ?_
            refine lv_iload_n hx hb dX7_rankOf_90 rfl (lv_at hl 4 rfl) ?_
            refine lv_imul hx hb dX7_rankOf_91 ?_
            refine lv_iconst (v := 1) hx hb dX7_rankOf_92 (by decide) ?_
            refine lv_iadd hx hb dX7_rankOf_93 ?_
            refine g_iald X hw 1 rfl hS.1 dX7_rankOf_94 ?_
            have hS := hS.2
            refine lv_icmp_ne (tgt := 107) hx hb dX7_rankOf_95 (by decide) (fun c5 => ?_) (fun c5 => ?_)
            · skip
              have hT1 := hT1.trans (if_neg c5)
              try have hS := Eq.mp (if_neg c5) hS
              refine lv_iconst (v := 0) hx hb dX7_rankOf_107 (by decide) ?_
              refine lv_iadd hx hb dX7_rankOf_108 ?_
              refine lv_istore_n (lv' := [(2, .int (v1_2 + 0)), (4, .int 1), (3, .int v1_3), (0, .ref (ad 0)), (1, .int q1)]) hx hb dX7_rankOf_109 rfl hl (by decide) rfl (fun ls hl => ?_)
              refine lv_iinc (v := (v1_3 + 1)) (lv' := [(3, .int (v1_3 + 1)), (2, .int (v1_2 + 0)), (4, .int 1), (0, .ref (ad 0)), (1, .int q1)]) hx hb dX7_rankOf_110 hl (k := 2) rfl rfl (by decide) rfl (fun ls hl => ?_)
              refine lv_goto (tgt := 4) hx hb dX7_rankOf_113 (by decide) ?_
              exact ih1 (v1_3 + 1) (v1_2 + 0) (hF.trans (lp_l hT1)) (hLn1 _ hT1) _ _ ls (lv_sub hl [0, 1, 3, 4] rfl) hw
            · skip
              have hT1 := hT1.trans (if_pos c5)
              try have hS := Eq.mp (if_pos c5) hS
              refine lv_iload_n hx hb dX7_rankOf_98 rfl (lv_at hl 1 rfl) ?_
              refine lv_iload_n hx hb dX7_rankOf_99 rfl (lv_at hl 4 rfl) ?_
              refine lv_icmp_ge (tgt := 107) hx hb dX7_rankOf_100 (by decide) (fun c6 => ?_) (fun c6 => ?_)
              · skip
                have hT1 := hT1.trans (if_pos c6)
                try have hS := Eq.mp (if_pos c6) hS
                refine lv_iconst (v := 0) hx hb dX7_rankOf_107 (by decide) ?_
                refine lv_iadd hx hb dX7_rankOf_108 ?_
                refine lv_istore_n (lv' := [(2, .int (v1_2 + 0)), (4, .int 1), (3, .int v1_3), (0, .ref (ad 0)), (1, .int q1)]) hx hb dX7_rankOf_109 rfl hl (by decide) rfl (fun ls hl => ?_)
                refine lv_iinc (v := (v1_3 + 1)) (lv' := [(3, .int (v1_3 + 1)), (2, .int (v1_2 + 0)), (4, .int 1), (0, .ref (ad 0)), (1, .int q1)]) hx hb dX7_rankOf_110 hl (k := 2) rfl rfl (by decide) rfl (fun ls hl => ?_)
                refine lv_goto (tgt := 4) hx hb dX7_rankOf_113 (by decide) ?_
                exact ih1 (v1_3 + 1) (v1_2 + 0) (hF.trans (lp_l hT1)) (hLn1 _ hT1) _ _ ls (lv_sub hl [0, 1, 3, 4] rfl) hw
              · skip
                have hT1 := hT1.trans (if_neg c6)
                try have hS := Eq.mp (if_neg c6) hS
                refine lv_iconst (v := 1) hx hb dX7_rankOf_103 (by decide) ?_
                refine lv_goto (tgt := 108) hx hb dX7_rankOf_104 (by decide) ?_
                refine lv_iadd hx hb dX7_rankOf_108 ?_
                refine lv_istore_n (lv' := [(2, .int (v1_2 + 1)), (4, .int 1), (3, .int v1_3), (0, .ref (ad 0)), (1, .int q1)]) hx hb dX7_rankOf_109 rfl hl (by decide) rfl (fun ls hl => ?_)
                refine lv_iinc (v := (v1_3 + 1)) (lv' := [(3, .int (v1_3 + 1)), (2, .int (v1_2 + 1)), (4, .int 1), (0, .ref (ad 0)), (1, .int q1)]) hx hb dX7_rankOf_110 hl (k := 2) rfl rfl (by decide) rfl (fun ls hl => ?_)
                refine lv_goto (tgt := 4) hx hb dX7_rankOf_113 (by decide) ?_
                exact ih1 (v1_3 + 1) (v1_2 + 1) (hF.trans (lp_l hT1)) (hLn1 _ hT1) _ _ ls (lv_sub hl [0, 1, 3, 4] rfl) hw
  exact L1 _ 0 0 hF hS _ _ ls (lv_sub hl [0, 1, 2, 3] rfl) hw
theorem gy_X7_record : gY yX7_record RX7 cX7_record 5 (some .int) wsX7_record 3 := ⟨⟨_, rfl⟩, rfl, by decide +kernel, by decide +kernel, by decide +kernel⟩
def st_X7_record_17 (q1 : Int32) (q2 : Int32) (q3 : Int32) (v4_4 : Int32) (w4 : CS) : (Int32 × CS) ⊕ (Int32 × CS) := (if (w4.1 0 400) ≤ v4_4 then (bnd ((F_X7_fails w4 2).2) (fun u7 => (bnd ((F_X7_fails w4 2).1) (fun r6 => .inr ((r6, u7)))))) else (if (w4.1 0 ((4 * v4_4) + 3).toNatClampNeg) = q1 then (bnd (F_X7_rankOf w4 v4_4) (fun r9 => (if r9 = q2 then (if q3 = 0 then (bnd ((F_X7_done w4 (w4.1 0 ((4 * v4_4) + 2).toNatClampNeg)).2) (fun u14 => (bnd ((F_X7_done w4 (w4.1 0 ((4 * v4_4) + 2).toNatClampNeg)).1) (fun r13 => .inr ((r13, u14)))))) else (bnd ((F_X7_done w4 (w4.1 0 ((4 * v4_4) + 1).toNatClampNeg)).2) (fun u16 => (bnd ((F_X7_done w4 (w4.1 0 ((4 * v4_4) + 1).toNatClampNeg)).1) (fun r15 => .inr ((r15, u16))))))) else .inl ((v4_4 + 1), w4)))) else .inl ((v4_4 + 1), w4)))
def Sst_X7_record_17 (q1 : Int32) (q2 : Int32) (q3 : Int32) (v4_4 : Int32) (w4 : CS) : Prop := (if (w4.1 0 400) ≤ v4_4 then True else (vp_in ((4 * v4_4) + 3) 1787 ∧ (if (w4.1 0 ((4 * v4_4) + 3).toNatClampNeg) = q1 then (S_X7_rankOf w4 v4_4 ∧ (bnd (F_X7_rankOf w4 v4_4) (fun r9 => (if r9 = q2 then (if q3 = 0 then (vp_in ((4 * v4_4) + 2) 1787 ∧ True) else (vp_in ((4 * v4_4) + 1) 1787 ∧ True)) else True)))) else True)))
def F_X7_record (C : CS) (q1 : Int32) (q2 : Int32) (q3 : Int32) : Int32 × CS := (bnd (F_X7_isBurst C q1) (fun r1 => (if r1 = 0 then (bnd ((F_X7_fails C 1).2) (fun u18 => (bnd ((F_X7_fails C 1).1) (fun r17 => (r17, u18))))) else lp (fun (z : Int32 × CS) => st_X7_record_17 q1 q2 q3 z.1 z.2) (0, C) (((C.1 0 400).toInt - (0 : Int32).toInt).toNat + 1) (0, C))))
def S_X7_record (C : CS) (q1 : Int32) (q2 : Int32) (q3 : Int32) : Prop := (S_X7_isBurst C q1 ∧ (bnd (F_X7_isBurst C q1) (fun r1 => (if r1 = 0 then True else lpS (fun (z : Int32 × CS) => st_X7_record_17 q1 q2 q3 z.1 z.2) (fun (z : Int32 × CS) => Sst_X7_record_17 q1 q2 q3 z.1 z.2) (((C.1 0 400).toInt - (0 : Int32).toInt).toNat + 1) (0, C)))))
abbrev rmX7_record : Room := { frames := 2, cells := 0, slots := 0, locals := 43 }
set_option maxHeartbeats 4000000 in
set_option maxRecDepth 100000 in
theorem c_X7_record (l : Launch) (D : va_G) (cy : Nat → ClassId) (ad : Nat → Nat) (rest : va_W) (C : CS) (q1 : Int32) (q2 : Int32) (q3 : Int32) (hS : S_X7_record C q1 q2 q3) : GMi l yX7_record wsX7_record rmX7_record D cy [.ref (ad 0), .int q1, .int q2, .int q3] (MW cy ad C ++ rest) (fun (r : Int32) (u : CS) => r = (F_X7_record C q1 q2 q3).1 ∧ u = (F_X7_record C q1 q2 q3).2) (fun u => MW cy ad u ++ rest) := by
  refine GMi.intro cX7_record 5 RX7 (by decide) rfl rfl (Nat.le_of_ble_eq_true rfl) ?_
  intro p e s m args below meth c A Q ls X hret hl hw
  have hx := X.1
  have hb := X.2.1
  have hl : lv_has ls 5 [(0, .ref (ad 0)), (1, .int q1), (2, .int q2), (3, .int q3)] := hl
  have inX7 : ∀ w ∈ wsX70, w ∈ wsX7_record := fun w h => List.mem_cons_of_mem _ (List.mem_append_left _ (List.mem_append_right _ h))
  obtain ⟨sp, hsp⟩ : ∃ sp, sp = F_X7_record C q1 q2 q3 := ⟨_, rfl⟩
  have hF := hsp.trans (F_X7_record.eq_1 C q1 q2 q3)
  have hS := Eq.mp (S_X7_record.eq_1 C q1 q2 q3) hS
  refine lv_aload_n hx hb dX7_record_0 rfl (lv_at hl 0 rfl) ?_
  refine lv_iload_n hx hb dX7_record_1 rfl (lv_at hl 1 rfl) ?_
  have hSc : S_X7_isBurst C q1 := hS.1
  have hS := hS.2
  refine gcV_i (rest := []) X (c_X7_isBurst l D cy ad rest C q1 hSc) gy_X7_isBurst gX7_record_X7_isBurst ⟨rfl, rfl, Nat.le_of_ble_eq_true rfl, Nat.le_of_ble_eq_true rfl⟩ 0 rfl rfl rfl hl rfl (Nat.le_of_ble_eq_true rfl) dX7_record_2 ⟨Nat.zero_le _, Nat.zero_le _⟩ hw (fun r1 _ H locs hr1 hw => ?_)
  obtain ⟨hr1, zr1⟩ : r1 = F_X7_isBurst C q1 ∧ (r1 = 0 ∨ r1 = 1) := hr1
  have hF := hF.trans (bnd_eq hr1)
  try have hS := Eq.mp (bnd_eq hr1) hS
  refine lv_if_ne (tgt := 14) hx hb dX7_record_5 (by decide) (fun c3 => ?_) (fun c3 => ?_)
  · skip
    have hF := hF.trans (if_neg c3)
    try have hS := Eq.mp (if_neg c3) hS
    refine lv_iconst (v := 0) hx hb dX7_record_14 (by decide) ?_
    refine lv_istore (lv' := [(4, .int 0), (0, .ref (ad 0)), (1, .int q1), (2, .int q2), (3, .int q3)]) hx hb dX7_record_15 hl (by decide) rfl (fun ls hl => ?_)
    have L4 : ∀ (n4 : Nat) (v4_4 : Int32) (w4 : CS), sp = lp (fun (z : Int32 × CS) => st_X7_record_17 q1 q2 q3 z.1 z.2) (0, C) n4 (v4_4, w4) → lpS (fun (z : Int32 × CS) => st_X7_record_17 q1 q2 q3 z.1 z.2) (fun (z : Int32 × CS) => Sst_X7_record_17 q1 q2 q3 z.1 z.2) n4 (v4_4, w4) → ∀ (H : Heap) (locs : List Loc) (ls : Array Slot), lv_has ls 5 [(4, .int v4_4), (0, .ref (ad 0)), (1, .int q1), (2, .int q2), (3, .int q3)] → gw D A s.heap (MW cy ad w4 ++ rest) H locs → W p l e rmX7_record s m args below meth c H locs 0 0 Q (F0 m 17 ls []) := by
      intro n4
      induction n4 with
      | zero => intro v4_4 w4 hF hL; exact False.elim hL
      | succ n4 ih4 =>
        intro v4_4 w4 hF hL H locs ls hl hw
        have hT4 := st_X7_record_17.eq_1 q1 q2 q3 v4_4 w4
        have hLn4 := hL.2
        have hS := Eq.mp (Sst_X7_record_17.eq_1 q1 q2 q3 v4_4 w4) hL.1
        refine lv_iload hx hb dX7_record_17 (lv_at hl 0 rfl) ?_
        refine lv_aload_n hx hb dX7_record_19 rfl (lv_at hl 1 rfl) ?_
        refine g_get (v := .ref (ad 1)) (C := RX7) (T := TX7) (N := 16) (ci := 9) X inX7 hw 0 rfl rfl 1 (by decide) (List.mem_of_getElem? (i := 1) rfl) rfl rfl dX7_record_20 ?_
        refine lv_sipush (v := 400) hx hb dX7_record_23 (by decide) ?_
        refine g_ialdk (k := 400) rfl X hw 1 rfl (vk rfl) dX7_record_26 ?_
        refine lv_icmp_ge (tgt := 85) hx hb dX7_record_27 (by decide) (fun c5 => ?_) (fun c5 => ?_)
        · skip
          have hT4 := hT4.trans (if_pos c5)
          try have hS := Eq.mp (if_pos c5) hS
          refine lv_aload_n hx hb dX7_record_85 rfl (lv_at hl 1 rfl) ?_
          refine lv_iconst (v := 2) hx hb dX7_record_86 (by decide) ?_
          refine gcV_i (rest := []) X (c_X7_fails l D cy ad rest w4 2) gy_X7_fails gX7_record_X7_fails ⟨rfl, rfl, Nat.le_of_ble_eq_true rfl, Nat.le_of_ble_eq_true rfl⟩ 0 rfl rfl rfl hl rfl (Nat.le_of_ble_eq_true rfl) dX7_record_87 ⟨Nat.zero_le _, Nat.zero_le _⟩ hw (fun r6 u7 H locs hr6 hw => ?_)
          obtain ⟨hr6, hu7⟩ : r6 = (F_X7_fails w4 2).1 ∧ u7 = (F_X7_fails w4 2).2 := hr6
          have hT4 := hT4.trans (bnd_eq hu7)
          try have hS := Eq.mp (bnd_eq hu7) hS
          have hT4 := hT4.trans (bnd_eq hr6)
          try have hS := Eq.mp (bnd_eq hr6) hS
          exact hret _ _ _ _ _ _ dX7_record_90 ⟨congrArg Prod.fst ((hF.trans (lp_r hT4)).symm.trans hsp), congrArg Prod.snd ((hF.trans (lp_r hT4)).symm.trans hsp)⟩ hw
        · skip
          have hT4 := hT4.trans (if_neg c5)
          try have hS := Eq.mp (if_neg c5) hS
          refine lv_aload_n hx hb dX7_record_30 rfl (lv_at hl 1 rfl) ?_
          refine g_get (v := .ref (ad 1)) (C := RX7) (T := TX7) (N := 16) (ci := 9) X inX7 hw 0 rfl rfl 1 (by decide) (List.mem_of_getElem? (i := 1) rfl) rfl rfl dX7_record_31 ?_
          refine lv_iconst (v := 4) hx hb dX7_record_34 (by decide) ?_
          refine lv_iload hx hb dX7_record_35 (lv_at hl 0 rfl) ?_
          refine lv_imul hx hb dX7_record_37 ?_
          refine lv_iconst (v := 3) hx hb dX7_record_38 (by decide) ?_
          refine lv_iadd hx hb dX7_record_39 ?_
          refine g_iald X hw 1 rfl hS.1 dX7_record_40 ?_
          have hS := hS.2
          refine lv_iload_n hx hb dX7_record_41 rfl (lv_at hl 2 rfl) ?_
          refine lv_icmp_ne (tgt := 79) hx hb dX7_record_42 (by decide) (fun c8 => ?_) (fun c8 => ?_)
          · skip
            have hT4 := hT4.trans (if_neg c8)
            try have hS := Eq.mp (if_neg c8) hS
            refine lv_iinc (v := (v4_4 + 1)) (lv' := [(4, .int (v4_4 + 1)), (0, .ref (ad 0)), (1, .int q1), (2, .int q2), (3, .int q3)]) hx hb dX7_record_79 hl (k := 0) rfl rfl (by decide) rfl (fun ls hl => ?_)
            refine lv_goto (tgt := 17) hx hb dX7_record_82 (by decide) ?_
            exact ih4 (v4_4 + 1) w4 (hF.trans (lp_l hT4)) (hLn4 _ hT4) _ _ ls (lv_sub hl [0, 1, 2, 3, 4] rfl) hw
          · skip
            have hT4 := hT4.trans (if_pos c8)
            try have hS := Eq.mp (if_pos c8) hS
            refine lv_aload_n hx hb dX7_record_45 rfl (lv_at hl 1 rfl) ?_
            refine lv_iload hx hb dX7_record_46 (lv_at hl 0 rfl) ?_
            have hSc : S_X7_rankOf w4 v4_4 := hS.1
            have hS := hS.2
            refine gcV_i (rest := []) X (c_X7_rankOf l D cy ad rest w4 v4_4 hSc) gy_X7_rankOf gX7_record_X7_rankOf ⟨rfl, rfl, Nat.le_of_ble_eq_true rfl, Nat.le_of_ble_eq_true rfl⟩ 0 rfl rfl rfl hl rfl (Nat.le_of_ble_eq_true rfl) dX7_record_48 ⟨Nat.zero_le _, Nat.zero_le _⟩ hw (fun r9 _ H locs hr9 hw => ?_)
            have hr9 : r9 = F_X7_rankOf w4 v4_4 := hr9
            have hT4 := hT4.trans (bnd_eq hr9)
            try have hS := Eq.mp (bnd_eq hr9) hS
            refine lv_iload_n hx hb dX7_record_51 rfl (lv_at hl 3 rfl) ?_
            refine lv_icmp_ne (tgt := 79) hx hb dX7_record_52 (by decide) (fun c11 => ?_) (fun c11 => ?_)
            · skip
              have hT4 := hT4.trans (if_neg c11)
              try have hS := Eq.mp (if_neg c11) hS
              refine lv_iinc (v := (v4_4 + 1)) (lv' := [(4, .int (v4_4 + 1)), (0, .ref (ad 0)), (1, .int q1), (2, .int q2), (3, .int q3)]) hx hb dX7_record_79 hl (k := 0) rfl rfl (by decide) rfl (fun ls hl => ?_)
              refine lv_goto (tgt := 17) hx hb dX7_record_82 (by decide) ?_
              exact ih4 (v4_4 + 1) w4 (hF.trans (lp_l hT4)) (hLn4 _ hT4) _ _ ls (lv_sub hl [0, 1, 2, 3, 4] rfl) hw
            · skip
              have hT4 := hT4.trans (if_pos c11)
              try have hS := Eq.mp (if_pos c11) hS
              refine lv_aload_n hx hb dX7_record_55 rfl (lv_at hl 1 rfl) ?_
              refine lv_aload_n hx hb dX7_record_56 rfl (lv_at hl 1 rfl) ?_
              refine g_get (v := .ref (ad 1)) (C := RX7) (T := TX7) (N := 16) (ci := 9) X inX7 hw 0 rfl rfl 1 (by decide) (List.mem_of_getElem? (i := 1) rfl) rfl rfl dX7_record_57 ?_
              refine lv_iconst (v := 4) hx hb dX7_record_60 (by decide) ?_
              refine lv_iload hx hb dX7_record_61 (lv_at hl 0 rfl) ?_
              refine lv_imul hx hb dX7_record_63 ?_
              refine lv_iload_n hx hb dX7_record_64 rfl (lv_at hl 4 rfl) ?_
              refine lv_if_eq (tgt := 72) hx hb dX7_record_65 (by decide) (fun c12 => ?_) (fun c12 => ?_)
              · skip
                have hT4 := hT4.trans (if_pos c12)
                try have hS := Eq.mp (if_pos c12) hS
                refine lv_iconst (v := 2) hx hb dX7_record_72 (by decide) ?_
                refine lv_iadd hx hb dX7_record_73 ?_
                refine g_iald X hw 1 rfl hS.1 dX7_record_74 ?_
                have hS := hS.2
                refine gcV_i (rest := []) X (c_X7_done l D cy ad rest w4 (w4.1 0 ((4 * v4_4) + 2).toNatClampNeg)) gy_X7_done gX7_record_X7_done ⟨rfl, rfl, Nat.le_of_ble_eq_true rfl, Nat.le_of_ble_eq_true rfl⟩ 0 rfl rfl rfl hl rfl (Nat.le_of_ble_eq_true rfl) dX7_record_75 ⟨Nat.zero_le _, Nat.zero_le _⟩ hw (fun r13 u14 H locs hr13 hw => ?_)
                obtain ⟨hr13, hu14⟩ : r13 = (F_X7_done w4 (w4.1 0 ((4 * v4_4) + 2).toNatClampNeg)).1 ∧ u14 = (F_X7_done w4 (w4.1 0 ((4 * v4_4) + 2).toNatClampNeg)).2 := hr13
                have hT4 := hT4.trans (bnd_eq hu14)
                try have hS := Eq.mp (bnd_eq hu14) hS
                have hT4 := hT4.trans (bnd_eq hr13)
                try have hS := Eq.mp (bnd_eq hr13) hS
                exact hret _ _ _ _ _ _ dX7_record_78 ⟨congrArg Prod.fst ((hF.trans (lp_r hT4)).symm.trans hsp), congrArg Prod.snd ((hF.trans (lp_r hT4)).symm.trans hsp)⟩ hw
              · skip
                have hT4 := hT4.trans (if_neg c12)
                try have hS := Eq.mp (if_neg c12) hS
                refine lv_iconst (v := 1) hx hb dX7_record_68 (by decide) ?_
                refine lv_goto (tgt := 73) hx hb dX7_record_69 (by decide) ?_
                refine lv_iadd hx hb dX7_record_73 ?_
                refine g_iald X hw 1 rfl hS.1 dX7_record_74 ?_
                have hS := hS.2
                refine gcV_i (rest := []) X (c_X7_done l D cy ad rest w4 (w4.1 0 ((4 * v4_4) + 1).toNatClampNeg)) gy_X7_done gX7_record_X7_done ⟨rfl, rfl, Nat.le_of_ble_eq_true rfl, Nat.le_of_ble_eq_true rfl⟩ 0 rfl rfl rfl hl rfl (Nat.le_of_ble_eq_true rfl) dX7_record_75 ⟨Nat.zero_le _, Nat.zero_le _⟩ hw (fun r15 u16 H locs hr15 hw => ?_)
                obtain ⟨hr15, hu16⟩ : r15 = (F_X7_done w4 (w4.1 0 ((4 * v4_4) + 1).toNatClampNeg)).1 ∧ u16 = (F_X7_done w4 (w4.1 0 ((4 * v4_4) + 1).toNatClampNeg)).2 := hr15
                have hT4 := hT4.trans (bnd_eq hu16)
                try have hS := Eq.mp (bnd_eq hu16) hS
                have hT4 := hT4.trans (bnd_eq hr15)
                try have hS := Eq.mp (bnd_eq hr15) hS
                exact hret _ _ _ _ _ _ dX7_record_78 ⟨congrArg Prod.fst ((hF.trans (lp_r hT4)).symm.trans hsp), congrArg Prod.snd ((hF.trans (lp_r hT4)).symm.trans hsp)⟩ hw
    exact L4 _ 0 C hF hS _ _ ls (lv_sub hl [0, 1, 2, 3, 4] rfl) hw
  · skip
    have hF := hF.trans (if_pos c3)
    try have hS := Eq.mp (if_pos c3) hS
    refine lv_aload_n hx hb dX7_record_8 rfl (lv_at hl 0 rfl) ?_
    refine lv_iconst (v := 1) hx hb dX7_record_9 (by decide) ?_
    refine gcV_i (rest := []) X (c_X7_fails l D cy ad rest C 1) gy_X7_fails gX7_record_X7_fails ⟨rfl, rfl, Nat.le_of_ble_eq_true rfl, Nat.le_of_ble_eq_true rfl⟩ 0 rfl rfl rfl hl rfl (Nat.le_of_ble_eq_true rfl) dX7_record_10 ⟨Nat.zero_le _, Nat.zero_le _⟩ hw (fun r17 u18 H locs hr17 hw => ?_)
    obtain ⟨hr17, hu18⟩ : r17 = (F_X7_fails C 1).1 ∧ u18 = (F_X7_fails C 1).2 := hr17
    have hF := hF.trans (bnd_eq hu18)
    try have hS := Eq.mp (bnd_eq hu18) hS
    have hF := hF.trans (bnd_eq hr17)
    try have hS := Eq.mp (bnd_eq hr17) hS
    exact hret _ _ _ _ _ _ dX7_record_13 ⟨congrArg Prod.fst (hF.symm.trans hsp), congrArg Prod.snd (hF.symm.trans hsp)⟩ hw
theorem gy_X7_closesAt : gY yX7_closesAt RX7 cX7_closesAt 2 (some .int) wsX7_closesAt 1 := ⟨⟨_, rfl⟩, rfl, by decide +kernel, by decide +kernel, by decide +kernel⟩
def F_X7_closesAt (C : CS) (q1 : Int32) : Int32 × CS := (bnd (F_X7_isBurst C q1) (fun r1 => (if r1 = 0 then (bnd ((F_X7_fails C 1).2) (fun u14 => (bnd ((F_X7_fails C 1).1) (fun r13 => (r13, u14))))) else (bnd (F_X7_isOpen C q1) (fun r4 => (if r4 = 0 then (bnd ((F_X7_fails C 2).2) (fun u8 => (bnd ((F_X7_fails C 2).1) (fun r7 => (r7, u8))))) else (bnd (F_X7_bound C q1) (fun r9 => (bnd ((F_X7_done C (r9 + 1)).2) (fun u12 => (bnd ((F_X7_done C (r9 + 1)).1) (fun r11 => (r11, u12)))))))))))))
def S_X7_closesAt (C : CS) (q1 : Int32) : Prop := (S_X7_isBurst C q1 ∧ (bnd (F_X7_isBurst C q1) (fun r1 => (if r1 = 0 then True else (S_X7_isOpen C q1 ∧ (bnd (F_X7_isOpen C q1) (fun r4 => (if r4 = 0 then True else (S_X7_bound C q1 ∧ True)))))))))
abbrev rmX7_closesAt : Room := { frames := 3, cells := 0, slots := 0, locals := 64 }
set_option maxHeartbeats 4000000 in
set_option maxRecDepth 100000 in
theorem c_X7_closesAt (l : Launch) (D : va_G) (cy : Nat → ClassId) (ad : Nat → Nat) (rest : va_W) (C : CS) (q1 : Int32) (hS : S_X7_closesAt C q1) : GMi l yX7_closesAt wsX7_closesAt rmX7_closesAt D cy [.ref (ad 0), .int q1] (MW cy ad C ++ rest) (fun (r : Int32) (u : CS) => r = (F_X7_closesAt C q1).1 ∧ u = (F_X7_closesAt C q1).2) (fun u => MW cy ad u ++ rest) := by
  refine GMi.intro cX7_closesAt 2 RX7 (by decide) rfl rfl (Nat.le_of_ble_eq_true rfl) ?_
  intro p e s m args below meth c A Q ls X hret hl hw
  have hx := X.1
  have hb := X.2.1
  have hl : lv_has ls 2 [(0, .ref (ad 0)), (1, .int q1)] := hl
  obtain ⟨sp, hsp⟩ : ∃ sp, sp = F_X7_closesAt C q1 := ⟨_, rfl⟩
  have hF := hsp.trans (F_X7_closesAt.eq_1 C q1)
  have hS := Eq.mp (S_X7_closesAt.eq_1 C q1) hS
  refine lv_aload_n hx hb dX7_closesAt_0 rfl (lv_at hl 0 rfl) ?_
  refine lv_iload_n hx hb dX7_closesAt_1 rfl (lv_at hl 1 rfl) ?_
  have hSc : S_X7_isBurst C q1 := hS.1
  have hS := hS.2
  refine gcV_i (rest := []) X (c_X7_isBurst l D cy ad rest C q1 hSc) gy_X7_isBurst gX7_closesAt_X7_isBurst ⟨rfl, rfl, Nat.le_of_ble_eq_true rfl, Nat.le_of_ble_eq_true rfl⟩ 0 rfl rfl rfl hl rfl (Nat.le_of_ble_eq_true rfl) dX7_closesAt_2 ⟨Nat.zero_le _, Nat.zero_le _⟩ hw (fun r1 _ H locs hr1 hw => ?_)
  obtain ⟨hr1, zr1⟩ : r1 = F_X7_isBurst C q1 ∧ (r1 = 0 ∨ r1 = 1) := hr1
  have hF := hF.trans (bnd_eq hr1)
  try have hS := Eq.mp (bnd_eq hr1) hS
  refine lv_if_ne (tgt := 14) hx hb dX7_closesAt_5 (by decide) (fun c3 => ?_) (fun c3 => ?_)
  · skip
    have hF := hF.trans (if_neg c3)
    try have hS := Eq.mp (if_neg c3) hS
    refine lv_aload_n hx hb dX7_closesAt_14 rfl (lv_at hl 0 rfl) ?_
    refine lv_iload_n hx hb dX7_closesAt_15 rfl (lv_at hl 1 rfl) ?_
    have hSc : S_X7_isOpen C q1 := hS.1
    have hS := hS.2
    refine gcV_i (rest := []) X (c_X7_isOpen l D cy ad rest C q1 hSc) gy_X7_isOpen gX7_closesAt_X7_isOpen ⟨rfl, rfl, Nat.le_of_ble_eq_true rfl, Nat.le_of_ble_eq_true rfl⟩ 0 rfl rfl rfl hl rfl (Nat.le_of_ble_eq_true rfl) dX7_closesAt_16 ⟨Nat.zero_le _, Nat.zero_le _⟩ hw (fun r4 _ H locs hr4 hw => ?_)
    obtain ⟨hr4, zr4⟩ : r4 = F_X7_isOpen C q1 ∧ (r4 = 0 ∨ r4 = 1) := hr4
    have hF := hF.trans (bnd_eq hr4)
    try have hS := Eq.mp (bnd_eq hr4) hS
    refine lv_if_eq (tgt := 36) hx hb dX7_closesAt_19 (by decide) (fun c6 => ?_) (fun c6 => ?_)
    · skip
      have hF := hF.trans (if_pos c6)
      try have hS := Eq.mp (if_pos c6) hS
      refine lv_aload_n hx hb dX7_closesAt_36 rfl (lv_at hl 0 rfl) ?_
      refine lv_iconst (v := 2) hx hb dX7_closesAt_37 (by decide) ?_
      refine gcV_i (rest := []) X (c_X7_fails l D cy ad rest C 2) gy_X7_fails gX7_closesAt_X7_fails ⟨rfl, rfl, Nat.le_of_ble_eq_true rfl, Nat.le_of_ble_eq_true rfl⟩ 0 rfl rfl rfl hl rfl (Nat.le_of_ble_eq_true rfl) dX7_closesAt_38 ⟨Nat.zero_le _, Nat.zero_le _⟩ hw (fun r7 u8 H locs hr7 hw => ?_)
      obtain ⟨hr7, hu8⟩ : r7 = (F_X7_fails C 2).1 ∧ u8 = (F_X7_fails C 2).2 := hr7
      have hF := hF.trans (bnd_eq hu8)
      try have hS := Eq.mp (bnd_eq hu8) hS
      have hF := hF.trans (bnd_eq hr7)
      try have hS := Eq.mp (bnd_eq hr7) hS
      exact hret _ _ _ _ _ _ dX7_closesAt_41 ⟨congrArg Prod.fst (hF.symm.trans hsp), congrArg Prod.snd (hF.symm.trans hsp)⟩ hw
    · skip
      have hF := hF.trans (if_neg c6)
      try have hS := Eq.mp (if_neg c6) hS
      refine lv_aload_n hx hb dX7_closesAt_22 rfl (lv_at hl 0 rfl) ?_
      refine lv_aload_n hx hb dX7_closesAt_23 rfl (lv_at hl 0 rfl) ?_
      refine lv_iload_n hx hb dX7_closesAt_24 rfl (lv_at hl 1 rfl) ?_
      have hSc : S_X7_bound C q1 := hS.1
      have hS := hS.2
      refine gcV_i (rest := [.ref (ad 0)]) X (c_X7_bound l D cy ad rest C q1 hSc) gy_X7_bound gX7_closesAt_X7_bound ⟨rfl, rfl, Nat.le_of_ble_eq_true rfl, Nat.le_of_ble_eq_true rfl⟩ 0 rfl rfl rfl hl rfl (Nat.le_of_ble_eq_true rfl) dX7_closesAt_25 ⟨Nat.zero_le _, Nat.zero_le _⟩ hw (fun r9 _ H locs hr9 hw => ?_)
      have hr9 : r9 = F_X7_bound C q1 := hr9
      have hF := hF.trans (bnd_eq hr9)
      try have hS := Eq.mp (bnd_eq hr9) hS
      refine lv_iconst (v := 1) hx hb dX7_closesAt_28 (by decide) ?_
      refine lv_iadd hx hb dX7_closesAt_29 ?_
      refine gcV_i (rest := []) X (c_X7_done l D cy ad rest C (r9 + 1)) gy_X7_done gX7_closesAt_X7_done ⟨rfl, rfl, Nat.le_of_ble_eq_true rfl, Nat.le_of_ble_eq_true rfl⟩ 0 rfl rfl rfl hl rfl (Nat.le_of_ble_eq_true rfl) dX7_closesAt_30 ⟨Nat.zero_le _, Nat.zero_le _⟩ hw (fun r11 u12 H locs hr11 hw => ?_)
      obtain ⟨hr11, hu12⟩ : r11 = (F_X7_done C (r9 + 1)).1 ∧ u12 = (F_X7_done C (r9 + 1)).2 := hr11
      have hF := hF.trans (bnd_eq hu12)
      try have hS := Eq.mp (bnd_eq hu12) hS
      have hF := hF.trans (bnd_eq hr11)
      try have hS := Eq.mp (bnd_eq hr11) hS
      refine lv_goto (tgt := 41) hx hb dX7_closesAt_33 (by decide) ?_
      exact hret _ _ _ _ _ _ dX7_closesAt_41 ⟨congrArg Prod.fst (hF.symm.trans hsp), congrArg Prod.snd (hF.symm.trans hsp)⟩ hw
  · skip
    have hF := hF.trans (if_pos c3)
    try have hS := Eq.mp (if_pos c3) hS
    refine lv_aload_n hx hb dX7_closesAt_8 rfl (lv_at hl 0 rfl) ?_
    refine lv_iconst (v := 1) hx hb dX7_closesAt_9 (by decide) ?_
    refine gcV_i (rest := []) X (c_X7_fails l D cy ad rest C 1) gy_X7_fails gX7_closesAt_X7_fails ⟨rfl, rfl, Nat.le_of_ble_eq_true rfl, Nat.le_of_ble_eq_true rfl⟩ 0 rfl rfl rfl hl rfl (Nat.le_of_ble_eq_true rfl) dX7_closesAt_10 ⟨Nat.zero_le _, Nat.zero_le _⟩ hw (fun r13 u14 H locs hr13 hw => ?_)
    obtain ⟨hr13, hu14⟩ : r13 = (F_X7_fails C 1).1 ∧ u14 = (F_X7_fails C 1).2 := hr13
    have hF := hF.trans (bnd_eq hu14)
    try have hS := Eq.mp (bnd_eq hu14) hS
    have hF := hF.trans (bnd_eq hr13)
    try have hS := Eq.mp (bnd_eq hr13) hS
    exact hret _ _ _ _ _ _ dX7_closesAt_13 ⟨congrArg Prod.fst (hF.symm.trans hsp), congrArg Prod.snd (hF.symm.trans hsp)⟩ hw
theorem gy_X7_nextClosing : gY yX7_nextClosing RX7 cX7_nextClosing 3 (some .int) wsX7_nextClosing 0 := ⟨⟨_, rfl⟩, rfl, by decide +kernel, by decide +kernel, by decide +kernel⟩
def st_X7_nextClosing_4 (C : CS) (v1_2 : Int32) (v1_1 : Int32) : (Int32 × Int32) ⊕ (Int32 × CS) := (if (C.1 0 1401) ≤ v1_2 then (if v1_1 = (-1) then (bnd ((F_X7_fails C 1).2) (fun u7 => (bnd ((F_X7_fails C 1).1) (fun r6 => .inr ((r6, u7)))))) else (bnd ((F_X7_done C v1_1).2) (fun u5 => (bnd ((F_X7_done C v1_1).1) (fun r4 => .inr ((r4, u5))))))) else (bnd (F_X7_isOpen C v1_2) (fun r8 => (if r8 = 0 then .inl ((v1_2 + 1), v1_1) else (if v1_1 = (-1) then .inl ((v1_2 + 1), v1_2) else (bnd (F_X7_bound C v1_2) (fun r12 => (bnd (F_X7_bound C v1_1) (fun r14 => (if r12 < r14 then .inl ((v1_2 + 1), v1_2) else (if r12 = r14 then (bnd (F_X7_of C v1_2 3) (fun r22 => (bnd (F_X7_of C v1_1 3) (fun r24 => (if r24 ≤ r22 then .inl ((v1_2 + 1), v1_1) else .inl ((v1_2 + 1), v1_2)))))) else .inl ((v1_2 + 1), v1_1))))))))))))
def Sst_X7_nextClosing_4 (C : CS) (v1_2 : Int32) (v1_1 : Int32) : Prop := (if (C.1 0 1401) ≤ v1_2 then True else (S_X7_isOpen C v1_2 ∧ (bnd (F_X7_isOpen C v1_2) (fun r8 => (if r8 = 0 then True else (if v1_1 = (-1) then True else (S_X7_bound C v1_2 ∧ (bnd (F_X7_bound C v1_2) (fun r12 => (S_X7_bound C v1_1 ∧ (bnd (F_X7_bound C v1_1) (fun r14 => (if r12 < r14 then True else (S_X7_bound C v1_2 ∧ (S_X7_bound C v1_1 ∧ (if r12 = r14 then (S_X7_of C v1_2 3 ∧ (bnd (F_X7_of C v1_2 3) (fun r22 => (S_X7_of C v1_1 3 ∧ True)))) else True))))))))))))))))
def F_X7_nextClosing (C : CS) : Int32 × CS := lp (fun (z : Int32 × Int32) => st_X7_nextClosing_4 C z.1 z.2) (0, C) (((C.1 0 1401).toInt - (0 : Int32).toInt).toNat + 1) (0, (-1))
def S_X7_nextClosing (C : CS) : Prop := lpS (fun (z : Int32 × Int32) => st_X7_nextClosing_4 C z.1 z.2) (fun (z : Int32 × Int32) => Sst_X7_nextClosing_4 C z.1 z.2) (((C.1 0 1401).toInt - (0 : Int32).toInt).toNat + 1) (0, (-1))
abbrev rmX7_nextClosing : Room := { frames := 3, cells := 0, slots := 0, locals := 64 }
set_option maxHeartbeats 4000000 in
set_option maxRecDepth 100000 in
theorem c_X7_nextClosing (l : Launch) (D : va_G) (cy : Nat → ClassId) (ad : Nat → Nat) (rest : va_W) (C : CS) (hS : S_X7_nextClosing C) : GMi l yX7_nextClosing wsX7_nextClosing rmX7_nextClosing D cy [.ref (ad 0)] (MW cy ad C ++ rest) (fun (r : Int32) (u : CS) => r = (F_X7_nextClosing C).1 ∧ u = (F_X7_nextClosing C).2) (fun u => MW cy ad u ++ rest) := by
  refine GMi.intro cX7_nextClosing 3 RX7 (by decide) rfl rfl (Nat.le_of_ble_eq_true rfl) ?_
  intro p e s m args below meth c A Q ls X hret hl hw
  have hx := X.1
  have hb := X.2.1
  have hl : lv_has ls 3 [(0, .ref (ad 0))] := hl
  have inX7 : ∀ w ∈ wsX70, w ∈ wsX7_nextClosing := fun w h => List.mem_cons_of_mem _ (List.mem_append_left _ (List.mem_append_right _ h))
  obtain ⟨sp, hsp⟩ : ∃ sp, sp = F_X7_nextClosing C := ⟨_, rfl⟩
  have hF := hsp.trans (F_X7_nextClosing.eq_1 C)
  have hS := Eq.mp (S_X7_nextClosing.eq_1 C) hS
  refine lv_iconst (v := (-1)) hx hb dX7_nextClosing_0 (by decide) ?_
  refine lv_istore_n (lv' := [(1, .int (-1)), (0, .ref (ad 0))]) hx hb dX7_nextClosing_1 rfl hl (by decide) rfl (fun ls hl => ?_)
  refine lv_iconst (v := 0) hx hb dX7_nextClosing_2 (by decide) ?_
  refine lv_istore_n (lv' := [(2, .int 0), (1, .int (-1)), (0, .ref (ad 0))]) hx hb dX7_nextClosing_3 rfl hl (by decide) rfl (fun ls hl => ?_)
  have L1 : ∀ (n1 : Nat) (v1_2 : Int32) (v1_1 : Int32), sp = lp (fun (z : Int32 × Int32) => st_X7_nextClosing_4 C z.1 z.2) (0, C) n1 (v1_2, v1_1) → lpS (fun (z : Int32 × Int32) => st_X7_nextClosing_4 C z.1 z.2) (fun (z : Int32 × Int32) => Sst_X7_nextClosing_4 C z.1 z.2) n1 (v1_2, v1_1) → ∀ (H : Heap) (locs : List Loc) (ls : Array Slot), lv_has ls 3 [(2, .int v1_2), (1, .int v1_1), (0, .ref (ad 0))] → gw D A s.heap (MW cy ad C ++ rest) H locs → W p l e rmX7_nextClosing s m args below meth c H locs 0 0 Q (F0 m 4 ls []) := by
    intro n1
    induction n1 with
    | zero => intro v1_2 v1_1 hF hL; exact False.elim hL
    | succ n1 ih1 =>
      intro v1_2 v1_1 hF hL H locs ls hl hw
      have hT1 := st_X7_nextClosing_4.eq_1 C v1_2 v1_1
      have hLn1 := hL.2
      have hS := Eq.mp (Sst_X7_nextClosing_4.eq_1 C v1_2 v1_1) hL.1
      refine lv_iload_n hx hb dX7_nextClosing_4 rfl (lv_at hl 0 rfl) ?_
      refine lv_aload_n hx hb dX7_nextClosing_5 rfl (lv_at hl 2 rfl) ?_
      refine g_get (v := .ref (ad 1)) (C := RX7) (T := TX7) (N := 16) (ci := 9) X inX7 hw 0 rfl rfl 1 (by decide) (List.mem_of_getElem? (i := 1) rfl) rfl rfl dX7_nextClosing_6 ?_
      refine lv_sipush (v := 1401) hx hb dX7_nextClosing_9 (by decide) ?_
      refine g_ialdk (k := 1401) rfl X hw 1 rfl (vk rfl) dX7_nextClosing_12 ?_
      refine lv_icmp_ge (tgt := 78) hx hb dX7_nextClosing_13 (by decide) (fun c2 => ?_) (fun c2 => ?_)
      · skip
        have hT1 := hT1.trans (if_pos c2)
        try have hS := Eq.mp (if_pos c2) hS
        refine lv_iload_n hx hb dX7_nextClosing_78 rfl (lv_at hl 1 rfl) ?_
        refine lv_iconst (v := (-1)) hx hb dX7_nextClosing_79 (by decide) ?_
        refine lv_icmp_ne (tgt := 91) hx hb dX7_nextClosing_80 (by decide) (fun c3 => ?_) (fun c3 => ?_)
        · skip
          have hT1 := hT1.trans (if_neg c3)
          try have hS := Eq.mp (if_neg c3) hS
          refine lv_aload_n hx hb dX7_nextClosing_91 rfl (lv_at hl 2 rfl) ?_
          refine lv_iload_n hx hb dX7_nextClosing_92 rfl (lv_at hl 1 rfl) ?_
          refine gcV_i (rest := []) X (c_X7_done l D cy ad rest C v1_1) gy_X7_done gX7_nextClosing_X7_done ⟨rfl, rfl, Nat.le_of_ble_eq_true rfl, Nat.le_of_ble_eq_true rfl⟩ 0 rfl rfl rfl hl rfl (Nat.le_of_ble_eq_true rfl) dX7_nextClosing_93 ⟨Nat.zero_le _, Nat.zero_le _⟩ hw (fun r4 u5 H locs hr4 hw => ?_)
          obtain ⟨hr4, hu5⟩ : r4 = (F_X7_done C v1_1).1 ∧ u5 = (F_X7_done C v1_1).2 := hr4
          have hT1 := hT1.trans (bnd_eq hu5)
          try have hS := Eq.mp (bnd_eq hu5) hS
          have hT1 := hT1.trans (bnd_eq hr4)
          try have hS := Eq.mp (bnd_eq hr4) hS
          exact hret _ _ _ _ _ _ dX7_nextClosing_96 ⟨congrArg Prod.fst ((hF.trans (lp_r hT1)).symm.trans hsp), congrArg Prod.snd ((hF.trans (lp_r hT1)).symm.trans hsp)⟩ hw
        · skip
          have hT1 := hT1.trans (if_pos c3)
          try have hS := Eq.mp (if_pos c3) hS
          refine lv_aload_n hx hb dX7_nextClosing_83 rfl (lv_at hl 2 rfl) ?_
          refine lv_iconst (v := 1) hx hb dX7_nextClosing_84 (by decide) ?_
          refine gcV_i (rest := []) X (c_X7_fails l D cy ad rest C 1) gy_X7_fails gX7_nextClosing_X7_fails ⟨rfl, rfl, Nat.le_of_ble_eq_true rfl, Nat.le_of_ble_eq_true rfl⟩ 0 rfl rfl rfl hl rfl (Nat.le_of_ble_eq_true rfl) dX7_nextClosing_85 ⟨Nat.zero_le _, Nat.zero_le _⟩ hw (fun r6 u7 H locs hr6 hw => ?_)
          obtain ⟨hr6, hu7⟩ : r6 = (F_X7_fails C 1).1 ∧ u7 = (F_X7_fails C 1).2 := hr6
          have hT1 := hT1.trans (bnd_eq hu7)
          try have hS := Eq.mp (bnd_eq hu7) hS
          have hT1 := hT1.trans (bnd_eq hr6)
          try have hS := Eq.mp (bnd_eq hr6) hS
          refine lv_goto (tgt := 96) hx hb dX7_nextClosing_88 (by decide) ?_
          exact hret _ _ _ _ _ _ dX7_nextClosing_96 ⟨congrArg Prod.fst ((hF.trans (lp_r hT1)).symm.trans hsp), congrArg Prod.snd ((hF.trans (lp_r hT1)).symm.trans hsp)⟩ hw
      · skip
        have hT1 := hT1.trans (if_neg c2)
        try have hS := Eq.mp (if_neg c2) hS
        refine lv_aload_n hx hb dX7_nextClosing_16 rfl (lv_at hl 2 rfl) ?_
        refine lv_iload_n hx hb dX7_nextClosing_17 rfl (lv_at hl 0 rfl) ?_
        have hSc : S_X7_isOpen C v1_2 := hS.1
        have hS := hS.2
        refine gcV_i (rest := []) X (c_X7_isOpen l D cy ad rest C v1_2 hSc) gy_X7_isOpen gX7_nextClosing_X7_isOpen ⟨rfl, rfl, Nat.le_of_ble_eq_true rfl, Nat.le_of_ble_eq_true rfl⟩ 0 rfl rfl rfl hl rfl (Nat.le_of_ble_eq_true rfl) dX7_nextClosing_18 ⟨Nat.zero_le _, Nat.zero_le _⟩ hw (fun r8 _ H locs hr8 hw => ?_)
        obtain ⟨hr8, zr8⟩ : r8 = F_X7_isOpen C v1_2 ∧ (r8 = 0 ∨ r8 = 1) := hr8
        have hT1 := hT1.trans (bnd_eq hr8)
        try have hS := Eq.mp (bnd_eq hr8) hS
        refine lv_if_eq (tgt := 72) hx hb dX7_nextClosing_21 (by decide) (fun c10 => ?_) (fun c10 => ?_)
        · skip
          have hT1 := hT1.trans (if_pos c10)
          try have hS := Eq.mp (if_pos c10) hS
          refine lv_iinc (v := (v1_2 + 1)) (lv' := [(2, .int (v1_2 + 1)), (1, .int v1_1), (0, .ref (ad 0))]) hx hb dX7_nextClosing_72 hl (k := 0) rfl rfl (by decide) rfl (fun ls hl => ?_)
          refine lv_goto (tgt := 4) hx hb dX7_nextClosing_75 (by decide) ?_
          exact ih1 (v1_2 + 1) v1_1 (hF.trans (lp_l hT1)) (hLn1 _ hT1) _ _ ls (lv_sub hl [0, 1, 2] rfl) hw
        · skip
          have hT1 := hT1.trans (if_neg c10)
          try have hS := Eq.mp (if_neg c10) hS
          refine lv_iload_n hx hb dX7_nextClosing_24 rfl (lv_at hl 1 rfl) ?_
          refine lv_iconst (v := (-1)) hx hb dX7_nextClosing_25 (by decide) ?_
          refine lv_icmp_eq (tgt := 70) hx hb dX7_nextClosing_26 (by decide) (fun c11 => ?_) (fun c11 => ?_)
          · skip
            have hT1 := hT1.trans (if_pos c11)
            try have hS := Eq.mp (if_pos c11) hS
            refine lv_iload_n hx hb dX7_nextClosing_70 rfl (lv_at hl 0 rfl) ?_
            refine lv_istore_n (lv' := [(1, .int v1_2), (2, .int v1_2), (0, .ref (ad 0))]) hx hb dX7_nextClosing_71 rfl hl (by decide) rfl (fun ls hl => ?_)
            refine lv_iinc (v := (v1_2 + 1)) (lv' := [(2, .int (v1_2 + 1)), (1, .int v1_2), (0, .ref (ad 0))]) hx hb dX7_nextClosing_72 hl (k := 1) rfl rfl (by decide) rfl (fun ls hl => ?_)
            refine lv_goto (tgt := 4) hx hb dX7_nextClosing_75 (by decide) ?_
            exact ih1 (v1_2 + 1) v1_2 (hF.trans (lp_l hT1)) (hLn1 _ hT1) _ _ ls (lv_sub hl [0, 1, 2] rfl) hw
          · skip
            have hT1 := hT1.trans (if_neg c11)
            try have hS := Eq.mp (if_neg c11) hS
            refine lv_aload_n hx hb dX7_nextClosing_29 rfl (lv_at hl 2 rfl) ?_
            refine lv_iload_n hx hb dX7_nextClosing_30 rfl (lv_at hl 0 rfl) ?_
            have hSc : S_X7_bound C v1_2 := hS.1
            have hS := hS.2
            refine gcV_i (rest := []) X (c_X7_bound l D cy ad rest C v1_2 hSc) gy_X7_bound gX7_nextClosing_X7_bound ⟨rfl, rfl, Nat.le_of_ble_eq_true rfl, Nat.le_of_ble_eq_true rfl⟩ 0 rfl rfl rfl hl rfl (Nat.le_of_ble_eq_true rfl) dX7_nextClosing_31 ⟨Nat.zero_le _, Nat.zero_le _⟩ hw (fun r12 _ H locs hr12 hw => ?_)
            have hr12 : r12 = F_X7_bound C v1_2 := hr12
            have hT1 := hT1.trans (bnd_eq hr12)
            try have hS := Eq.mp (bnd_eq hr12) hS
            refine lv_aload_n hx hb dX7_nextClosing_34 rfl (lv_at hl 2 rfl) ?_
            refine lv_iload_n hx hb dX7_nextClosing_35 rfl (lv_at hl 1 rfl) ?_
            have hSc : S_X7_bound C v1_1 := hS.1
            have hS := hS.2
            refine gcV_i (rest := [.int r12]) X (c_X7_bound l D cy ad rest C v1_1 hSc) gy_X7_bound gX7_nextClosing_X7_bound ⟨rfl, rfl, Nat.le_of_ble_eq_true rfl, Nat.le_of_ble_eq_true rfl⟩ 0 rfl rfl rfl hl rfl (Nat.le_of_ble_eq_true rfl) dX7_nextClosing_36 ⟨Nat.zero_le _, Nat.zero_le _⟩ hw (fun r14 _ H locs hr14 hw => ?_)
            have hr14 : r14 = F_X7_bound C v1_1 := hr14
            have hT1 := hT1.trans (bnd_eq hr14)
            try have hS := Eq.mp (bnd_eq hr14) hS
            refine lv_icmp_lt (tgt := 70) hx hb dX7_nextClosing_39 (by decide) (fun c16 => ?_) (fun c16 => ?_)
            · skip
              have hT1 := hT1.trans (if_pos c16)
              try have hS := Eq.mp (if_pos c16) hS
              refine lv_iload_n hx hb dX7_nextClosing_70 rfl (lv_at hl 0 rfl) ?_
              refine lv_istore_n (lv' := [(1, .int v1_2), (2, .int v1_2), (0, .ref (ad 0))]) hx hb dX7_nextClosing_71 rfl hl (by decide) rfl (fun ls hl => ?_)
              refine lv_iinc (v := (v1_2 + 1)) (lv' := [(2, .int (v1_2 + 1)), (1, .int v1_2), (0, .ref (ad 0))]) hx hb dX7_nextClosing_72 hl (k := 1) rfl rfl (by decide) rfl (fun ls hl => ?_)
              refine lv_goto (tgt := 4) hx hb dX7_nextClosing_75 (by decide) ?_
              exact ih1 (v1_2 + 1) v1_2 (hF.trans (lp_l hT1)) (hLn1 _ hT1) _ _ ls (lv_sub hl [0, 1, 2] rfl) hw
            · skip
              have hT1 := hT1.trans (if_neg c16)
              try have hS := Eq.mp (if_neg c16) hS
              refine lv_aload_n hx hb dX7_nextClosing_42 rfl (lv_at hl 2 rfl) ?_
              refine lv_iload_n hx hb dX7_nextClosing_43 rfl (lv_at hl 0 rfl) ?_
              have hSc : S_X7_bound C v1_2 := hS.1
              have hS := hS.2
              refine gcV_i (rest := []) X (c_X7_bound l D cy ad rest C v1_2 hSc) gy_X7_bound gX7_nextClosing_X7_bound ⟨rfl, rfl, Nat.le_of_ble_eq_true rfl, Nat.le_of_ble_eq_true rfl⟩ 0 rfl rfl rfl hl rfl (Nat.le_of_ble_eq_true rfl) dX7_nextClosing_44 ⟨Nat.zero_le _, Nat.zero_le _⟩ hw (fun r17 _ H locs hr17 hw => ?_)
              have hr17 : r17 = F_X7_bound C v1_2 := hr17
              rw [show r17 = r12 from hr17.trans hr12.symm]
              refine lv_aload_n hx hb dX7_nextClosing_47 rfl (lv_at hl 2 rfl) ?_
              refine lv_iload_n hx hb dX7_nextClosing_48 rfl (lv_at hl 1 rfl) ?_
              have hSc : S_X7_bound C v1_1 := hS.1
              have hS := hS.2
              refine gcV_i (rest := [.int r12]) X (c_X7_bound l D cy ad rest C v1_1 hSc) gy_X7_bound gX7_nextClosing_X7_bound ⟨rfl, rfl, Nat.le_of_ble_eq_true rfl, Nat.le_of_ble_eq_true rfl⟩ 0 rfl rfl rfl hl rfl (Nat.le_of_ble_eq_true rfl) dX7_nextClosing_49 ⟨Nat.zero_le _, Nat.zero_le _⟩ hw (fun r19 _ H locs hr19 hw => ?_)
              have hr19 : r19 = F_X7_bound C v1_1 := hr19
              rw [show r19 = r14 from hr19.trans hr14.symm]
              refine lv_icmp_ne (tgt := 72) hx hb dX7_nextClosing_52 (by decide) (fun c21 => ?_) (fun c21 => ?_)
              · skip
                have hT1 := hT1.trans (if_neg c21)
                try have hS := Eq.mp (if_neg c21) hS
                refine lv_iinc (v := (v1_2 + 1)) (lv' := [(2, .int (v1_2 + 1)), (1, .int v1_1), (0, .ref (ad 0))]) hx hb dX7_nextClosing_72 hl (k := 0) rfl rfl (by decide) rfl (fun ls hl => ?_)
                refine lv_goto (tgt := 4) hx hb dX7_nextClosing_75 (by decide) ?_
                exact ih1 (v1_2 + 1) v1_1 (hF.trans (lp_l hT1)) (hLn1 _ hT1) _ _ ls (lv_sub hl [0, 1, 2] rfl) hw
              · skip
                have hT1 := hT1.trans (if_pos c21)
                try have hS := Eq.mp (if_pos c21) hS
                refine lv_aload_n hx hb dX7_nextClosing_55 rfl (lv_at hl 2 rfl) ?_
                refine lv_iload_n hx hb dX7_nextClosing_56 rfl (lv_at hl 0 rfl) ?_
                refine lv_iconst (v := 3) hx hb dX7_nextClosing_57 (by decide) ?_
                have hSc : S_X7_of C v1_2 3 := hS.1
                have hS := hS.2
                refine gcV_i (rest := []) X (c_X7_of l D cy ad rest C v1_2 3 hSc) gy_X7_of gX7_nextClosing_X7_of ⟨rfl, rfl, Nat.le_of_ble_eq_true rfl, Nat.le_of_ble_eq_true rfl⟩ 0 rfl rfl rfl hl rfl (Nat.le_of_ble_eq_true rfl) dX7_nextClosing_58 ⟨Nat.zero_le _, Nat.zero_le _⟩ hw (fun r22 _ H locs hr22 hw => ?_)
                have hr22 : r22 = F_X7_of C v1_2 3 := hr22
                have hT1 := hT1.trans (bnd_eq hr22)
                try have hS := Eq.mp (bnd_eq hr22) hS
                refine lv_aload_n hx hb dX7_nextClosing_61 rfl (lv_at hl 2 rfl) ?_
                refine lv_iload_n hx hb dX7_nextClosing_62 rfl (lv_at hl 1 rfl) ?_
                refine lv_iconst (v := 3) hx hb dX7_nextClosing_63 (by decide) ?_
                have hSc : S_X7_of C v1_1 3 := hS.1
                have hS := hS.2
                refine gcV_i (rest := [.int r22]) X (c_X7_of l D cy ad rest C v1_1 3 hSc) gy_X7_of gX7_nextClosing_X7_of ⟨rfl, rfl, Nat.le_of_ble_eq_true rfl, Nat.le_of_ble_eq_true rfl⟩ 0 rfl rfl rfl hl rfl (Nat.le_of_ble_eq_true rfl) dX7_nextClosing_64 ⟨Nat.zero_le _, Nat.zero_le _⟩ hw (fun r24 _ H locs hr24 hw => ?_)
                have hr24 : r24 = F_X7_of C v1_1 3 := hr24
                have hT1 := hT1.trans (bnd_eq hr24)
                try have hS := Eq.mp (bnd_eq hr24) hS
                refine lv_icmp_ge (tgt := 72) hx hb dX7_nextClosing_67 (by decide) (fun c26 => ?_) (fun c26 => ?_)
                · skip
                  have hT1 := hT1.trans (if_pos c26)
                  try have hS := Eq.mp (if_pos c26) hS
                  refine lv_iinc (v := (v1_2 + 1)) (lv' := [(2, .int (v1_2 + 1)), (1, .int v1_1), (0, .ref (ad 0))]) hx hb dX7_nextClosing_72 hl (k := 0) rfl rfl (by decide) rfl (fun ls hl => ?_)
                  refine lv_goto (tgt := 4) hx hb dX7_nextClosing_75 (by decide) ?_
                  exact ih1 (v1_2 + 1) v1_1 (hF.trans (lp_l hT1)) (hLn1 _ hT1) _ _ ls (lv_sub hl [0, 1, 2] rfl) hw
                · skip
                  have hT1 := hT1.trans (if_neg c26)
                  try have hS := Eq.mp (if_neg c26) hS
                  refine lv_iload_n hx hb dX7_nextClosing_70 rfl (lv_at hl 0 rfl) ?_
                  refine lv_istore_n (lv' := [(1, .int v1_2), (2, .int v1_2), (0, .ref (ad 0))]) hx hb dX7_nextClosing_71 rfl hl (by decide) rfl (fun ls hl => ?_)
                  refine lv_iinc (v := (v1_2 + 1)) (lv' := [(2, .int (v1_2 + 1)), (1, .int v1_2), (0, .ref (ad 0))]) hx hb dX7_nextClosing_72 hl (k := 1) rfl rfl (by decide) rfl (fun ls hl => ?_)
                  refine lv_goto (tgt := 4) hx hb dX7_nextClosing_75 (by decide) ?_
                  exact ih1 (v1_2 + 1) v1_2 (hF.trans (lp_l hT1)) (hLn1 _ hT1) _ _ ls (lv_sub hl [0, 1, 2] rfl) hw
  exact L1 _ 0 (-1) hF hS _ _ ls (lv_sub hl [0, 1, 2] rfl) hw
theorem gy_X7_averageLength : gY yX7_averageLength RX7 cX7_averageLength 5 (some .double) wsX7_averageLength 1 := ⟨⟨_, rfl⟩, rfl, by decide +kernel, by decide +kernel, by decide +kernel⟩
def st_X7_averageLength_32 (q1 : Int32) (u4 : CS) (v6_4 : Int32) (v6_3 : Int32) (v6_2 : Int32) : (Int32 × Int32 × Int32) ⊕ (UInt64 × CS) := (if (u4.1 0 1401) ≤ v6_4 then (if v6_2 = 0 then (bnd (sI u4 0 2) (fun u11 => (if v6_2 = 0 then .inr ((FP.dconst0, u11)) else .inr (((FP.ddiv (FP.i2d v6_3) (FP.i2d v6_2)), u11))))) else (bnd (sI u4 0 0) (fun u9 => (if v6_2 = 0 then .inr ((FP.dconst0, u9)) else .inr (((FP.ddiv (FP.i2d v6_3) (FP.i2d v6_2)), u9)))))) else (bnd (F_X7_isBurst u4 v6_4) (fun r13 => (if r13 = 0 then .inl ((v6_4 + 1), v6_3, v6_2) else (bnd (F_X7_of u4 v6_4 1) (fun r16 => (if r16 = q1 then (bnd (F_X7_of u4 v6_4 3) (fun r19 => (bnd (F_X7_of u4 v6_4 2) (fun r21 => .inl ((v6_4 + 1), (v6_3 + (r19 - r21)), (v6_2 + 1)))))) else .inl ((v6_4 + 1), v6_3, v6_2))))))))
def Sst_X7_averageLength_32 (q1 : Int32) (u4 : CS) (v6_4 : Int32) (v6_3 : Int32) (v6_2 : Int32) : Prop := (if (u4.1 0 1401) ≤ v6_4 then True else (S_X7_isBurst u4 v6_4 ∧ (bnd (F_X7_isBurst u4 v6_4) (fun r13 => (if r13 = 0 then True else (S_X7_of u4 v6_4 1 ∧ (bnd (F_X7_of u4 v6_4 1) (fun r16 => (if r16 = q1 then (S_X7_of u4 v6_4 3 ∧ (bnd (F_X7_of u4 v6_4 3) (fun r19 => (S_X7_of u4 v6_4 2 ∧ True)))) else True)))))))))
def F_X7_averageLength (C : CS) (q1 : Int32) : UInt64 × CS := (bnd (F_X7_isKey q1) (fun r1 => (if r1 = 0 then (bnd (sI C 0 1) (fun u4 => (if u4.2.1 0 = 0 then lp (fun (z : Int32 × Int32 × Int32) => st_X7_averageLength_32 q1 u4 z.1 z.2.1 z.2.2) (0, C) (((u4.1 0 1401).toInt - (0 : Int32).toInt).toNat + 1) (0, 0, 0) else (FP.dconst0, u4)))) else (bnd (sI C 0 0) (fun u23 => (if u23.2.1 0 = 0 then lp (fun (z : Int32 × Int32 × Int32) => st_X7_averageLength_32 q1 u23 z.1 z.2.1 z.2.2) (0, C) (((u23.1 0 1401).toInt - (0 : Int32).toInt).toNat + 1) (0, 0, 0) else (FP.dconst0, u23)))))))
def S_X7_averageLength (C : CS) (q1 : Int32) : Prop := (bnd (F_X7_isKey q1) (fun r1 => (if r1 = 0 then (bnd (sI C 0 1) (fun u4 => (if u4.2.1 0 = 0 then lpS (fun (z : Int32 × Int32 × Int32) => st_X7_averageLength_32 q1 u4 z.1 z.2.1 z.2.2) (fun (z : Int32 × Int32 × Int32) => Sst_X7_averageLength_32 q1 u4 z.1 z.2.1 z.2.2) (((u4.1 0 1401).toInt - (0 : Int32).toInt).toNat + 1) (0, 0, 0) else True))) else (bnd (sI C 0 0) (fun u23 => (if u23.2.1 0 = 0 then lpS (fun (z : Int32 × Int32 × Int32) => st_X7_averageLength_32 q1 u23 z.1 z.2.1 z.2.2) (fun (z : Int32 × Int32 × Int32) => Sst_X7_averageLength_32 q1 u23 z.1 z.2.1 z.2.2) (((u23.1 0 1401).toInt - (0 : Int32).toInt).toNat + 1) (0, 0, 0) else True))))))
abbrev rmX7_averageLength : Room := { frames := 2, cells := 0, slots := 0, locals := 43 }
set_option maxHeartbeats 4000000 in
set_option maxRecDepth 100000 in
theorem c_X7_averageLength (l : Launch) (D : va_G) (cy : Nat → ClassId) (ad : Nat → Nat) (rest : va_W) (C : CS) (q1 : Int32) (hS : S_X7_averageLength C q1) : GMd l yX7_averageLength wsX7_averageLength rmX7_averageLength D cy [.ref (ad 0), .int q1] (MW cy ad C ++ rest) (fun (r : UInt64) (u : CS) => r = (F_X7_averageLength C q1).1 ∧ u = (F_X7_averageLength C q1).2) (fun u => MW cy ad u ++ rest) := by
  refine GMd.intro cX7_averageLength 5 RX7 (by decide) rfl rfl (Nat.le_of_ble_eq_true rfl) ?_
  intro p e s m args below meth c A Q ls X hret hl hw
  have hx := X.1
  have hb := X.2.1
  have hl : lv_has ls 5 [(0, .ref (ad 0)), (1, .int q1)] := hl
  have inX7 : ∀ w ∈ wsX70, w ∈ wsX7_averageLength := fun w h => List.mem_cons_of_mem _ (List.mem_append_left _ (List.mem_append_right _ h))
  obtain ⟨sp, hsp⟩ : ∃ sp, sp = F_X7_averageLength C q1 := ⟨_, rfl⟩
  have hF := hsp.trans (F_X7_averageLength.eq_1 C q1)
  have hS := Eq.mp (S_X7_averageLength.eq_1 C q1) hS
  refine lv_aload_n hx hb dX7_averageLength_0 rfl (lv_at hl 0 rfl) ?_
  refine lv_iload_n hx hb dX7_averageLength_1 rfl (lv_at hl 1 rfl) ?_
  refine gcS_i (rest := [.ref (ad 0)]) X (c_X7_isKey l D cy (MW cy ad C ++ rest) q1) gy_X7_isKey gX7_averageLength_X7_isKey ⟨rfl, rfl, Nat.le_of_ble_eq_true rfl, Nat.le_of_ble_eq_true rfl⟩ rfl hl rfl (Nat.le_of_ble_eq_true rfl) dX7_averageLength_2 ⟨Nat.zero_le _, Nat.zero_le _⟩ hw (fun r1 _ H locs hr1 hw => ?_)
  obtain ⟨hr1, zr1⟩ : r1 = F_X7_isKey q1 ∧ (r1 = 0 ∨ r1 = 1) := hr1
  have hF := hF.trans (bnd_eq hr1)
  try have hS := Eq.mp (bnd_eq hr1) hS
  refine lv_if_eq (tgt := 12) hx hb dX7_averageLength_5 (by decide) (fun c3 => ?_) (fun c3 => ?_)
  · skip
    have hF := hF.trans (if_pos c3)
    try have hS := Eq.mp (if_pos c3) hS
    refine lv_iconst (v := 1) hx hb dX7_averageLength_12 (by decide) ?_
    refine g_put (v := .int 1) (C := RX7) (T := TX7) (N := 16) (ci := 9) (w' := MW cy ad (sI C 0 1) ++ rest) X inX7 tyX7 tyX7_ok nmX7 hw 0 rfl rfl 0 (by decide) (List.mem_of_getElem? (i := 1) rfl) rfl rfl rfl rfl (Nat.le_of_ble_eq_true rfl) rfl dX7_averageLength_13 (fun H locs hw => ?_)
    obtain ⟨u4, hu4⟩ : ∃ z, z = sI C 0 1 := ⟨_, rfl⟩
    rw [← hu4] at hw
    have hF := hF.trans (bnd_eq hu4)
    try have hS := Eq.mp (bnd_eq hu4) hS
    refine lv_aload_n hx hb dX7_averageLength_16 rfl (lv_at hl 0 rfl) ?_
    refine g_get (v := .int (u4.2.1 0)) (C := RX7) (T := TX7) (N := 16) (ci := 9) X inX7 hw 0 rfl rfl 0 (by decide) (List.mem_of_getElem? (i := 1) rfl) rfl rfl dX7_averageLength_17 ?_
    refine lv_if_eq (tgt := 25) hx hb dX7_averageLength_20 (by decide) (fun c5 => ?_) (fun c5 => ?_)
    · skip
      have hF := hF.trans (if_pos c5)
      try have hS := Eq.mp (if_pos c5) hS
      refine lv_iconst (v := 0) hx hb dX7_averageLength_25 (by decide) ?_
      refine lv_istore_n (lv' := [(2, .int 0), (0, .ref (ad 0)), (1, .int q1)]) hx hb dX7_averageLength_26 rfl hl (by decide) rfl (fun ls hl => ?_)
      refine lv_iconst (v := 0) hx hb dX7_averageLength_27 (by decide) ?_
      refine lv_istore_n (lv' := [(3, .int 0), (2, .int 0), (0, .ref (ad 0)), (1, .int q1)]) hx hb dX7_averageLength_28 rfl hl (by decide) rfl (fun ls hl => ?_)
      refine lv_iconst (v := 0) hx hb dX7_averageLength_29 (by decide) ?_
      refine lv_istore (lv' := [(4, .int 0), (3, .int 0), (2, .int 0), (0, .ref (ad 0)), (1, .int q1)]) hx hb dX7_averageLength_30 hl (by decide) rfl (fun ls hl => ?_)
      have L6 : ∀ (n6 : Nat) (v6_4 : Int32) (v6_3 : Int32) (v6_2 : Int32), sp = lp (fun (z : Int32 × Int32 × Int32) => st_X7_averageLength_32 q1 u4 z.1 z.2.1 z.2.2) (0, C) n6 (v6_4, v6_3, v6_2) → lpS (fun (z : Int32 × Int32 × Int32) => st_X7_averageLength_32 q1 u4 z.1 z.2.1 z.2.2) (fun (z : Int32 × Int32 × Int32) => Sst_X7_averageLength_32 q1 u4 z.1 z.2.1 z.2.2) n6 (v6_4, v6_3, v6_2) → ∀ (H : Heap) (locs : List Loc) (ls : Array Slot), lv_has ls 5 [(4, .int v6_4), (3, .int v6_3), (2, .int v6_2), (0, .ref (ad 0)), (1, .int q1)] → gw D A s.heap (MW cy ad u4 ++ rest) H locs → W p l e rmX7_averageLength s m args below meth c H locs 0 0 Q (F0 m 32 ls []) := by
        intro n6
        induction n6 with
        | zero => intro v6_4 v6_3 v6_2 hF hL; exact False.elim hL
        | succ n6 ih6 =>
          intro v6_4 v6_3 v6_2 hF hL H locs ls hl hw
          have hT6 := st_X7_averageLength_32.eq_1 q1 u4 v6_4 v6_3 v6_2
          have hLn6 := hL.2
          have hS := Eq.mp (Sst_X7_averageLength_32.eq_1 q1 u4 v6_4 v6_3 v6_2) hL.1
          refine lv_iload hx hb dX7_averageLength_32 (lv_at hl 0 rfl) ?_
          refine lv_aload_n hx hb dX7_averageLength_34 rfl (lv_at hl 3 rfl) ?_
          refine g_get (v := .ref (ad 1)) (C := RX7) (T := TX7) (N := 16) (ci := 9) X inX7 hw 0 rfl rfl 1 (by decide) (List.mem_of_getElem? (i := 2) rfl) rfl rfl dX7_averageLength_35 ?_
          refine lv_sipush (v := 1401) hx hb dX7_averageLength_38 (by decide) ?_
          refine g_ialdk (k := 1401) rfl X hw 1 rfl (vk rfl) dX7_averageLength_41 ?_
          refine lv_icmp_ge (tgt := 92) hx hb dX7_averageLength_42 (by decide) (fun c7 => ?_) (fun c7 => ?_)
          · skip
            have hT6 := hT6.trans (if_pos c7)
            try have hS := Eq.mp (if_pos c7) hS
            refine lv_aload_n hx hb dX7_averageLength_92 rfl (lv_at hl 3 rfl) ?_
            refine lv_iload_n hx hb dX7_averageLength_93 rfl (lv_at hl 2 rfl) ?_
            refine lv_if_ne (tgt := 101) hx hb dX7_averageLength_94 (by decide) (fun c8 => ?_) (fun c8 => ?_)
            · skip
              have hT6 := hT6.trans (if_neg c8)
              try have hS := Eq.mp (if_neg c8) hS
              refine lv_iconst (v := 0) hx hb dX7_averageLength_101 (by decide) ?_
              refine g_put (v := .int 0) (C := RX7) (T := TX7) (N := 16) (ci := 9) (w' := MW cy ad (sI u4 0 0) ++ rest) X inX7 tyX7 tyX7_ok nmX7 hw 0 rfl rfl 0 (by decide) (List.mem_of_getElem? (i := 1) rfl) rfl rfl rfl rfl (Nat.le_of_ble_eq_true rfl) rfl dX7_averageLength_102 (fun H locs hw => ?_)
              obtain ⟨u9, hu9⟩ : ∃ z, z = sI u4 0 0 := ⟨_, rfl⟩
              rw [← hu9] at hw
              have hT6 := hT6.trans (bnd_eq hu9)
              try have hS := Eq.mp (bnd_eq hu9) hS
              refine lv_iload_n hx hb dX7_averageLength_105 rfl (lv_at hl 2 rfl) ?_
              refine lv_if_ne (tgt := 113) hx hb dX7_averageLength_106 (by decide) (fun c10 => ?_) (fun c10 => ?_)
              · skip
                have hT6 := hT6.trans (if_neg c10)
                try have hS := Eq.mp (if_neg c10) hS
                refine lv_iload_n hx hb dX7_averageLength_113 rfl (lv_at hl 1 rfl) ?_
                refine lv_i2d hx hb dX7_averageLength_114 ?_
                refine lv_iload_n hx hb dX7_averageLength_115 rfl (lv_at hl 2 rfl) ?_
                refine lv_i2d hx hb dX7_averageLength_116 ?_
                refine lv_ddiv hx hb dX7_averageLength_117 (ddiv_ok (by assumption)) ?_
                exact hret _ _ _ _ _ _ dX7_averageLength_118 ⟨congrArg Prod.fst ((hF.trans (lp_r hT6)).symm.trans hsp), congrArg Prod.snd ((hF.trans (lp_r hT6)).symm.trans hsp)⟩ hw
              · skip
                have hT6 := hT6.trans (if_pos c10)
                try have hS := Eq.mp (if_pos c10) hS
                refine lv_dconst0 hx hb dX7_averageLength_109 ?_
                refine lv_goto (tgt := 118) hx hb dX7_averageLength_110 (by decide) ?_
                exact hret _ _ _ _ _ _ dX7_averageLength_118 ⟨congrArg Prod.fst ((hF.trans (lp_r hT6)).symm.trans hsp), congrArg Prod.snd ((hF.trans (lp_r hT6)).symm.trans hsp)⟩ hw
            · skip
              have hT6 := hT6.trans (if_pos c8)
              try have hS := Eq.mp (if_pos c8) hS
              refine lv_iconst (v := 2) hx hb dX7_averageLength_97 (by decide) ?_
              refine lv_goto (tgt := 102) hx hb dX7_averageLength_98 (by decide) ?_
              refine g_put (v := .int 2) (C := RX7) (T := TX7) (N := 16) (ci := 9) (w' := MW cy ad (sI u4 0 2) ++ rest) X inX7 tyX7 tyX7_ok nmX7 hw 0 rfl rfl 0 (by decide) (List.mem_of_getElem? (i := 1) rfl) rfl rfl rfl rfl (Nat.le_of_ble_eq_true rfl) rfl dX7_averageLength_102 (fun H locs hw => ?_)
              obtain ⟨u11, hu11⟩ : ∃ z, z = sI u4 0 2 := ⟨_, rfl⟩
              rw [← hu11] at hw
              have hT6 := hT6.trans (bnd_eq hu11)
              try have hS := Eq.mp (bnd_eq hu11) hS
              refine lv_iload_n hx hb dX7_averageLength_105 rfl (lv_at hl 2 rfl) ?_
              refine lv_if_ne (tgt := 113) hx hb dX7_averageLength_106 (by decide) (fun c12 => ?_) (fun c12 => ?_)
              · skip
                have hT6 := hT6.trans (if_neg c12)
                try have hS := Eq.mp (if_neg c12) hS
                refine lv_iload_n hx hb dX7_averageLength_113 rfl (lv_at hl 1 rfl) ?_
                refine lv_i2d hx hb dX7_averageLength_114 ?_
                refine lv_iload_n hx hb dX7_averageLength_115 rfl (lv_at hl 2 rfl) ?_
                refine lv_i2d hx hb dX7_averageLength_116 ?_
                refine lv_ddiv hx hb dX7_averageLength_117 (ddiv_ok (by assumption)) ?_
                exact hret _ _ _ _ _ _ dX7_averageLength_118 ⟨congrArg Prod.fst ((hF.trans (lp_r hT6)).symm.trans hsp), congrArg Prod.snd ((hF.trans (lp_r hT6)).symm.trans hsp)⟩ hw
              · skip
                have hT6 := hT6.trans (if_pos c12)
                try have hS := Eq.mp (if_pos c12) hS
                refine lv_dconst0 hx hb dX7_averageLength_109 ?_
                refine lv_goto (tgt := 118) hx hb dX7_averageLength_110 (by decide) ?_
                exact hret _ _ _ _ _ _ dX7_averageLength_118 ⟨congrArg Prod.fst ((hF.trans (lp_r hT6)).symm.trans hsp), congrArg Prod.snd ((hF.trans (lp_r hT6)).symm.trans hsp)⟩ hw
          · skip
            have hT6 := hT6.trans (if_neg c7)
            try have hS := Eq.mp (if_neg c7) hS
            refine lv_aload_n hx hb dX7_averageLength_45 rfl (lv_at hl 3 rfl) ?_
            refine lv_iload hx hb dX7_averageLength_46 (lv_at hl 0 rfl) ?_
            have hSc : S_X7_isBurst u4 v6_4 := hS.1
            have hS := hS.2
            refine gcV_i (rest := []) X (c_X7_isBurst l D cy ad rest u4 v6_4 hSc) gy_X7_isBurst gX7_averageLength_X7_isBurst ⟨rfl, rfl, Nat.le_of_ble_eq_true rfl, Nat.le_of_ble_eq_true rfl⟩ 0 rfl rfl rfl hl rfl (Nat.le_of_ble_eq_true rfl) dX7_averageLength_48 ⟨Nat.zero_le _, Nat.zero_le _⟩ hw (fun r13 _ H locs hr13 hw => ?_)
            obtain ⟨hr13, zr13⟩ : r13 = F_X7_isBurst u4 v6_4 ∧ (r13 = 0 ∨ r13 = 1) := hr13
            have hT6 := hT6.trans (bnd_eq hr13)
            try have hS := Eq.mp (bnd_eq hr13) hS
            refine lv_if_eq (tgt := 86) hx hb dX7_averageLength_51 (by decide) (fun c15 => ?_) (fun c15 => ?_)
            · skip
              have hT6 := hT6.trans (if_pos c15)
              try have hS := Eq.mp (if_pos c15) hS
              refine lv_iinc (v := (v6_4 + 1)) (lv' := [(4, .int (v6_4 + 1)), (3, .int v6_3), (2, .int v6_2), (0, .ref (ad 0)), (1, .int q1)]) hx hb dX7_averageLength_86 hl (k := 0) rfl rfl (by decide) rfl (fun ls hl => ?_)
              refine lv_goto (tgt := 32) hx hb dX7_averageLength_89 (by decide) ?_
              exact ih6 (v6_4 + 1) v6_3 v6_2 (hF.trans (lp_l hT6)) (hLn6 _ hT6) _ _ ls (lv_sub hl [0, 1, 2, 3, 4] rfl) hw
            · skip
              have hT6 := hT6.trans (if_neg c15)
              try have hS := Eq.mp (if_neg c15) hS
              refine lv_aload_n hx hb dX7_averageLength_54 rfl (lv_at hl 3 rfl) ?_
              refine lv_iload hx hb dX7_averageLength_55 (lv_at hl 0 rfl) ?_
              refine lv_iconst (v := 1) hx hb dX7_averageLength_57 (by decide) ?_
              have hSc : S_X7_of u4 v6_4 1 := hS.1
              have hS := hS.2
              refine gcV_i (rest := []) X (c_X7_of l D cy ad rest u4 v6_4 1 hSc) gy_X7_of gX7_averageLength_X7_of ⟨rfl, rfl, Nat.le_of_ble_eq_true rfl, Nat.le_of_ble_eq_true rfl⟩ 0 rfl rfl rfl hl rfl (Nat.le_of_ble_eq_true rfl) dX7_averageLength_58 ⟨Nat.zero_le _, Nat.zero_le _⟩ hw (fun r16 _ H locs hr16 hw => ?_)
              have hr16 : r16 = F_X7_of u4 v6_4 1 := hr16
              have hT6 := hT6.trans (bnd_eq hr16)
              try have hS := Eq.mp (bnd_eq hr16) hS
              refine lv_iload_n hx hb dX7_averageLength_61 rfl (lv_at hl 4 rfl) ?_
              refine lv_icmp_ne (tgt := 86) hx hb dX7_averageLength_62 (by decide) (fun c18 => ?_) (fun c18 => ?_)
              · skip
                have hT6 := hT6.trans (if_neg c18)
                try have hS := Eq.mp (if_neg c18) hS
                refine lv_iinc (v := (v6_4 + 1)) (lv' := [(4, .int (v6_4 + 1)), (3, .int v6_3), (2, .int v6_2), (0, .ref (ad 0)), (1, .int q1)]) hx hb dX7_averageLength_86 hl (k := 0) rfl rfl (by decide) rfl (fun ls hl => ?_)
                refine lv_goto (tgt := 32) hx hb dX7_averageLength_89 (by decide) ?_
                exact ih6 (v6_4 + 1) v6_3 v6_2 (hF.trans (lp_l hT6)) (hLn6 _ hT6) _ _ ls (lv_sub hl [0, 1, 2, 3, 4] rfl) hw
              · skip
                have hT6 := hT6.trans (if_pos c18)
                try have hS := Eq.mp (if_pos c18) hS
                refine lv_iinc (v := (v6_2 + 1)) (lv' := [(2, .int (v6_2 + 1)), (4, .int v6_4), (3, .int v6_3), (0, .ref (ad 0)), (1, .int q1)]) hx hb dX7_averageLength_65 hl (k := 2) rfl rfl (by decide) rfl (fun ls hl => ?_)
                refine lv_iload_n hx hb dX7_averageLength_68 rfl (lv_at hl 2 rfl) ?_
                refine lv_aload_n hx hb dX7_averageLength_69 rfl (lv_at hl 3 rfl) ?_
                refine lv_iload hx hb dX7_averageLength_70 (lv_at hl 1 rfl) ?_
                refine lv_iconst (v := 3) hx hb dX7_averageLength_72 (by decide) ?_
                have hSc : S_X7_of u4 v6_4 3 := hS.1
                have hS := hS.2
                refine gcV_i (rest := [.int v6_3]) X (c_X7_of l D cy ad rest u4 v6_4 3 hSc) gy_X7_of gX7_averageLength_X7_of ⟨rfl, rfl, Nat.le_of_ble_eq_true rfl, Nat.le_of_ble_eq_true rfl⟩ 0 rfl rfl rfl hl rfl (Nat.le_of_ble_eq_true rfl) dX7_averageLength_73 ⟨Nat.zero_le _, Nat.zero_le _⟩ hw (fun r19 _ H locs hr19 hw => ?_)
                have hr19 : r19 = F_X7_of u4 v6_4 3 := hr19
                have hT6 := hT6.trans (bnd_eq hr19)
                try have hS := Eq.mp (bnd_eq hr19) hS
                refine lv_aload_n hx hb dX7_averageLength_76 rfl (lv_at hl 3 rfl) ?_
                refine lv_iload hx hb dX7_averageLength_77 (lv_at hl 1 rfl) ?_
                refine lv_iconst (v := 2) hx hb dX7_averageLength_79 (by decide) ?_
                have hSc : S_X7_of u4 v6_4 2 := hS.1
                have hS := hS.2
                refine gcV_i (rest := [.int r19, .int v6_3]) X (c_X7_of l D cy ad rest u4 v6_4 2 hSc) gy_X7_of gX7_averageLength_X7_of ⟨rfl, rfl, Nat.le_of_ble_eq_true rfl, Nat.le_of_ble_eq_true rfl⟩ 0 rfl rfl rfl hl rfl (Nat.le_of_ble_eq_true rfl) dX7_averageLength_80 ⟨Nat.zero_le _, Nat.zero_le _⟩ hw (fun r21 _ H locs hr21 hw => ?_)
                have hr21 : r21 = F_X7_of u4 v6_4 2 := hr21
                have hT6 := hT6.trans (bnd_eq hr21)
                try have hS := Eq.mp (bnd_eq hr21) hS
                refine lv_isub hx hb dX7_averageLength_83 ?_
                refine lv_iadd hx hb dX7_averageLength_84 ?_
                refine lv_istore_n (lv' := [(3, .int (v6_3 + (r19 - r21))), (2, .int (v6_2 + 1)), (4, .int v6_4), (0, .ref (ad 0)), (1, .int q1)]) hx hb dX7_averageLength_85 rfl hl (by decide) rfl (fun ls hl => ?_)
                refine lv_iinc (v := (v6_4 + 1)) (lv' := [(4, .int (v6_4 + 1)), (3, .int (v6_3 + (r19 - r21))), (2, .int (v6_2 + 1)), (0, .ref (ad 0)), (1, .int q1)]) hx hb dX7_averageLength_86 hl (k := 2) rfl rfl (by decide) rfl (fun ls hl => ?_)
                refine lv_goto (tgt := 32) hx hb dX7_averageLength_89 (by decide) ?_
                exact ih6 (v6_4 + 1) (v6_3 + (r19 - r21)) (v6_2 + 1) (hF.trans (lp_l hT6)) (hLn6 _ hT6) _ _ ls (lv_sub hl [0, 1, 2, 3, 4] rfl) hw
      exact L6 _ 0 0 0 hF hS _ _ ls (lv_sub hl [0, 1, 2, 3, 4] rfl) hw
    · skip
      have hF := hF.trans (if_neg c5)
      try have hS := Eq.mp (if_neg c5) hS
      refine lv_dconst0 hx hb dX7_averageLength_23 ?_
      exact hret _ _ _ _ _ _ dX7_averageLength_24 ⟨congrArg Prod.fst (hF.symm.trans hsp), congrArg Prod.snd (hF.symm.trans hsp)⟩ hw
  · skip
    have hF := hF.trans (if_neg c3)
    try have hS := Eq.mp (if_neg c3) hS
    refine lv_iconst (v := 0) hx hb dX7_averageLength_8 (by decide) ?_
    refine lv_goto (tgt := 13) hx hb dX7_averageLength_9 (by decide) ?_
    refine g_put (v := .int 0) (C := RX7) (T := TX7) (N := 16) (ci := 9) (w' := MW cy ad (sI C 0 0) ++ rest) X inX7 tyX7 tyX7_ok nmX7 hw 0 rfl rfl 0 (by decide) (List.mem_of_getElem? (i := 1) rfl) rfl rfl rfl rfl (Nat.le_of_ble_eq_true rfl) rfl dX7_averageLength_13 (fun H locs hw => ?_)
    obtain ⟨u23, hu23⟩ : ∃ z, z = sI C 0 0 := ⟨_, rfl⟩
    rw [← hu23] at hw
    have hF := hF.trans (bnd_eq hu23)
    try have hS := Eq.mp (bnd_eq hu23) hS
    refine lv_aload_n hx hb dX7_averageLength_16 rfl (lv_at hl 0 rfl) ?_
    refine g_get (v := .int (u23.2.1 0)) (C := RX7) (T := TX7) (N := 16) (ci := 9) X inX7 hw 0 rfl rfl 0 (by decide) (List.mem_of_getElem? (i := 1) rfl) rfl rfl dX7_averageLength_17 ?_
    refine lv_if_eq (tgt := 25) hx hb dX7_averageLength_20 (by decide) (fun c24 => ?_) (fun c24 => ?_)
    · skip
      have hF := hF.trans (if_pos c24)
      try have hS := Eq.mp (if_pos c24) hS
      refine lv_iconst (v := 0) hx hb dX7_averageLength_25 (by decide) ?_
      refine lv_istore_n (lv' := [(2, .int 0), (0, .ref (ad 0)), (1, .int q1)]) hx hb dX7_averageLength_26 rfl hl (by decide) rfl (fun ls hl => ?_)
      refine lv_iconst (v := 0) hx hb dX7_averageLength_27 (by decide) ?_
      refine lv_istore_n (lv' := [(3, .int 0), (2, .int 0), (0, .ref (ad 0)), (1, .int q1)]) hx hb dX7_averageLength_28 rfl hl (by decide) rfl (fun ls hl => ?_)
      refine lv_iconst (v := 0) hx hb dX7_averageLength_29 (by decide) ?_
      refine lv_istore (lv' := [(4, .int 0), (3, .int 0), (2, .int 0), (0, .ref (ad 0)), (1, .int q1)]) hx hb dX7_averageLength_30 hl (by decide) rfl (fun ls hl => ?_)
      have L25 : ∀ (n25 : Nat) (v25_4 : Int32) (v25_3 : Int32) (v25_2 : Int32), sp = lp (fun (z : Int32 × Int32 × Int32) => st_X7_averageLength_32 q1 u23 z.1 z.2.1 z.2.2) (0, C) n25 (v25_4, v25_3, v25_2) → lpS (fun (z : Int32 × Int32 × Int32) => st_X7_averageLength_32 q1 u23 z.1 z.2.1 z.2.2) (fun (z : Int32 × Int32 × Int32) => Sst_X7_averageLength_32 q1 u23 z.1 z.2.1 z.2.2) n25 (v25_4, v25_3, v25_2) → ∀ (H : Heap) (locs : List Loc) (ls : Array Slot), lv_has ls 5 [(4, .int v25_4), (3, .int v25_3), (2, .int v25_2), (0, .ref (ad 0)), (1, .int q1)] → gw D A s.heap (MW cy ad u23 ++ rest) H locs → W p l e rmX7_averageLength s m args below meth c H locs 0 0 Q (F0 m 32 ls []) := by
        intro n25
        induction n25 with
        | zero => intro v25_4 v25_3 v25_2 hF hL; exact False.elim hL
        | succ n25 ih25 =>
          intro v25_4 v25_3 v25_2 hF hL H locs ls hl hw
          have hT25 := st_X7_averageLength_32.eq_1 q1 u23 v25_4 v25_3 v25_2
          have hLn25 := hL.2
          have hS := Eq.mp (Sst_X7_averageLength_32.eq_1 q1 u23 v25_4 v25_3 v25_2) hL.1
          refine lv_iload hx hb dX7_averageLength_32 (lv_at hl 0 rfl) ?_
          refine lv_aload_n hx hb dX7_averageLength_34 rfl (lv_at hl 3 rfl) ?_
          refine g_get (v := .ref (ad 1)) (C := RX7) (T := TX7) (N := 16) (ci := 9) X inX7 hw 0 rfl rfl 1 (by decide) (List.mem_of_getElem? (i := 2) rfl) rfl rfl dX7_averageLength_35 ?_
          refine lv_sipush (v := 1401) hx hb dX7_averageLength_38 (by decide) ?_
          refine g_ialdk (k := 1401) rfl X hw 1 rfl (vk rfl) dX7_averageLength_41 ?_
          refine lv_icmp_ge (tgt := 92) hx hb dX7_averageLength_42 (by decide) (fun c26 => ?_) (fun c26 => ?_)
          · skip
            have hT25 := hT25.trans (if_pos c26)
            try have hS := Eq.mp (if_pos c26) hS
            refine lv_aload_n hx hb dX7_averageLength_92 rfl (lv_at hl 3 rfl) ?_
            refine lv_iload_n hx hb dX7_averageLength_93 rfl (lv_at hl 2 rfl) ?_
            refine lv_if_ne (tgt := 101) hx hb dX7_averageLength_94 (by decide) (fun c27 => ?_) (fun c27 => ?_)
            · skip
              have hT25 := hT25.trans (if_neg c27)
              try have hS := Eq.mp (if_neg c27) hS
              refine lv_iconst (v := 0) hx hb dX7_averageLength_101 (by decide) ?_
              refine g_put (v := .int 0) (C := RX7) (T := TX7) (N := 16) (ci := 9) (w' := MW cy ad (sI u23 0 0) ++ rest) X inX7 tyX7 tyX7_ok nmX7 hw 0 rfl rfl 0 (by decide) (List.mem_of_getElem? (i := 1) rfl) rfl rfl rfl rfl (Nat.le_of_ble_eq_true rfl) rfl dX7_averageLength_102 (fun H locs hw => ?_)
              obtain ⟨u28, hu28⟩ : ∃ z, z = sI u23 0 0 := ⟨_, rfl⟩
              rw [← hu28] at hw
              have hT25 := hT25.trans (bnd_eq hu28)
              try have hS := Eq.mp (bnd_eq hu28) hS
              refine lv_iload_n hx hb dX7_averageLength_105 rfl (lv_at hl 2 rfl) ?_
              refine lv_if_ne (tgt := 113) hx hb dX7_averageLength_106 (by decide) (fun c29 => ?_) (fun c29 => ?_)
              · skip
                have hT25 := hT25.trans (if_neg c29)
                try have hS := Eq.mp (if_neg c29) hS
                refine lv_iload_n hx hb dX7_averageLength_113 rfl (lv_at hl 1 rfl) ?_
                refine lv_i2d hx hb dX7_averageLength_114 ?_
                refine lv_iload_n hx hb dX7_averageLength_115 rfl (lv_at hl 2 rfl) ?_
                refine lv_i2d hx hb dX7_averageLength_116 ?_
                refine lv_ddiv hx hb dX7_averageLength_117 (ddiv_ok (by assumption)) ?_
                exact hret _ _ _ _ _ _ dX7_averageLength_118 ⟨congrArg Prod.fst ((hF.trans (lp_r hT25)).symm.trans hsp), congrArg Prod.snd ((hF.trans (lp_r hT25)).symm.trans hsp)⟩ hw
              · skip
                have hT25 := hT25.trans (if_pos c29)
                try have hS := Eq.mp (if_pos c29) hS
                refine lv_dconst0 hx hb dX7_averageLength_109 ?_
                refine lv_goto (tgt := 118) hx hb dX7_averageLength_110 (by decide) ?_
                exact hret _ _ _ _ _ _ dX7_averageLength_118 ⟨congrArg Prod.fst ((hF.trans (lp_r hT25)).symm.trans hsp), congrArg Prod.snd ((hF.trans (lp_r hT25)).symm.trans hsp)⟩ hw
            · skip
              have hT25 := hT25.trans (if_pos c27)
              try have hS := Eq.mp (if_pos c27) hS
              refine lv_iconst (v := 2) hx hb dX7_averageLength_97 (by decide) ?_
              refine lv_goto (tgt := 102) hx hb dX7_averageLength_98 (by decide) ?_
              refine g_put (v := .int 2) (C := RX7) (T := TX7) (N := 16) (ci := 9) (w' := MW cy ad (sI u23 0 2) ++ rest) X inX7 tyX7 tyX7_ok nmX7 hw 0 rfl rfl 0 (by decide) (List.mem_of_getElem? (i := 1) rfl) rfl rfl rfl rfl (Nat.le_of_ble_eq_true rfl) rfl dX7_averageLength_102 (fun H locs hw => ?_)
              obtain ⟨u30, hu30⟩ : ∃ z, z = sI u23 0 2 := ⟨_, rfl⟩
              rw [← hu30] at hw
              have hT25 := hT25.trans (bnd_eq hu30)
              try have hS := Eq.mp (bnd_eq hu30) hS
              refine lv_iload_n hx hb dX7_averageLength_105 rfl (lv_at hl 2 rfl) ?_
              refine lv_if_ne (tgt := 113) hx hb dX7_averageLength_106 (by decide) (fun c31 => ?_) (fun c31 => ?_)
              · skip
                have hT25 := hT25.trans (if_neg c31)
                try have hS := Eq.mp (if_neg c31) hS
                refine lv_iload_n hx hb dX7_averageLength_113 rfl (lv_at hl 1 rfl) ?_
                refine lv_i2d hx hb dX7_averageLength_114 ?_
                refine lv_iload_n hx hb dX7_averageLength_115 rfl (lv_at hl 2 rfl) ?_
                refine lv_i2d hx hb dX7_averageLength_116 ?_
                refine lv_ddiv hx hb dX7_averageLength_117 (ddiv_ok (by assumption)) ?_
                exact hret _ _ _ _ _ _ dX7_averageLength_118 ⟨congrArg Prod.fst ((hF.trans (lp_r hT25)).symm.trans hsp), congrArg Prod.snd ((hF.trans (lp_r hT25)).symm.trans hsp)⟩ hw
              · skip
                have hT25 := hT25.trans (if_pos c31)
                try have hS := Eq.mp (if_pos c31) hS
                refine lv_dconst0 hx hb dX7_averageLength_109 ?_
                refine lv_goto (tgt := 118) hx hb dX7_averageLength_110 (by decide) ?_
                exact hret _ _ _ _ _ _ dX7_averageLength_118 ⟨congrArg Prod.fst ((hF.trans (lp_r hT25)).symm.trans hsp), congrArg Prod.snd ((hF.trans (lp_r hT25)).symm.trans hsp)⟩ hw
          · skip
            have hT25 := hT25.trans (if_neg c26)
            try have hS := Eq.mp (if_neg c26) hS
            refine lv_aload_n hx hb dX7_averageLength_45 rfl (lv_at hl 3 rfl) ?_
            refine lv_iload hx hb dX7_averageLength_46 (lv_at hl 0 rfl) ?_
            have hSc : S_X7_isBurst u23 v25_4 := hS.1
            have hS := hS.2
            refine gcV_i (rest := []) X (c_X7_isBurst l D cy ad rest u23 v25_4 hSc) gy_X7_isBurst gX7_averageLength_X7_isBurst ⟨rfl, rfl, Nat.le_of_ble_eq_true rfl, Nat.le_of_ble_eq_true rfl⟩ 0 rfl rfl rfl hl rfl (Nat.le_of_ble_eq_true rfl) dX7_averageLength_48 ⟨Nat.zero_le _, Nat.zero_le _⟩ hw (fun r32 _ H locs hr32 hw => ?_)
            obtain ⟨hr32, zr32⟩ : r32 = F_X7_isBurst u23 v25_4 ∧ (r32 = 0 ∨ r32 = 1) := hr32
            have hT25 := hT25.trans (bnd_eq hr32)
            try have hS := Eq.mp (bnd_eq hr32) hS
            refine lv_if_eq (tgt := 86) hx hb dX7_averageLength_51 (by decide) (fun c34 => ?_) (fun c34 => ?_)
            · skip
              have hT25 := hT25.trans (if_pos c34)
              try have hS := Eq.mp (if_pos c34) hS
              refine lv_iinc (v := (v25_4 + 1)) (lv' := [(4, .int (v25_4 + 1)), (3, .int v25_3), (2, .int v25_2), (0, .ref (ad 0)), (1, .int q1)]) hx hb dX7_averageLength_86 hl (k := 0) rfl rfl (by decide) rfl (fun ls hl => ?_)
              refine lv_goto (tgt := 32) hx hb dX7_averageLength_89 (by decide) ?_
              exact ih25 (v25_4 + 1) v25_3 v25_2 (hF.trans (lp_l hT25)) (hLn25 _ hT25) _ _ ls (lv_sub hl [0, 1, 2, 3, 4] rfl) hw
            · skip
              have hT25 := hT25.trans (if_neg c34)
              try have hS := Eq.mp (if_neg c34) hS
              refine lv_aload_n hx hb dX7_averageLength_54 rfl (lv_at hl 3 rfl) ?_
              refine lv_iload hx hb dX7_averageLength_55 (lv_at hl 0 rfl) ?_
              refine lv_iconst (v := 1) hx hb dX7_averageLength_57 (by decide) ?_
              have hSc : S_X7_of u23 v25_4 1 := hS.1
              have hS := hS.2
              refine gcV_i (rest := []) X (c_X7_of l D cy ad rest u23 v25_4 1 hSc) gy_X7_of gX7_averageLength_X7_of ⟨rfl, rfl, Nat.le_of_ble_eq_true rfl, Nat.le_of_ble_eq_true rfl⟩ 0 rfl rfl rfl hl rfl (Nat.le_of_ble_eq_true rfl) dX7_averageLength_58 ⟨Nat.zero_le _, Nat.zero_le _⟩ hw (fun r35 _ H locs hr35 hw => ?_)
              have hr35 : r35 = F_X7_of u23 v25_4 1 := hr35
              have hT25 := hT25.trans (bnd_eq hr35)
              try have hS := Eq.mp (bnd_eq hr35) hS
              refine lv_iload_n hx hb dX7_averageLength_61 rfl (lv_at hl 4 rfl) ?_
              refine lv_icmp_ne (tgt := 86) hx hb dX7_averageLength_62 (by decide) (fun c37 => ?_) (fun c37 => ?_)
              · skip
                have hT25 := hT25.trans (if_neg c37)
                try have hS := Eq.mp (if_neg c37) hS
                refine lv_iinc (v := (v25_4 + 1)) (lv' := [(4, .int (v25_4 + 1)), (3, .int v25_3), (2, .int v25_2), (0, .ref (ad 0)), (1, .int q1)]) hx hb dX7_averageLength_86 hl (k := 0) rfl rfl (by decide) rfl (fun ls hl => ?_)
                refine lv_goto (tgt := 32) hx hb dX7_averageLength_89 (by decide) ?_
                exact ih25 (v25_4 + 1) v25_3 v25_2 (hF.trans (lp_l hT25)) (hLn25 _ hT25) _ _ ls (lv_sub hl [0, 1, 2, 3, 4] rfl) hw
              · skip
                have hT25 := hT25.trans (if_pos c37)
                try have hS := Eq.mp (if_pos c37) hS
                refine lv_iinc (v := (v25_2 + 1)) (lv' := [(2, .int (v25_2 + 1)), (4, .int v25_4), (3, .int v25_3), (0, .ref (ad 0)), (1, .int q1)]) hx hb dX7_averageLength_65 hl (k := 2) rfl rfl (by decide) rfl (fun ls hl => ?_)
                refine lv_iload_n hx hb dX7_averageLength_68 rfl (lv_at hl 2 rfl) ?_
                refine lv_aload_n hx hb dX7_averageLength_69 rfl (lv_at hl 3 rfl) ?_
                refine lv_iload hx hb dX7_averageLength_70 (lv_at hl 1 rfl) ?_
                refine lv_iconst (v := 3) hx hb dX7_averageLength_72 (by decide) ?_
                have hSc : S_X7_of u23 v25_4 3 := hS.1
                have hS := hS.2
                refine gcV_i (rest := [.int v25_3]) X (c_X7_of l D cy ad rest u23 v25_4 3 hSc) gy_X7_of gX7_averageLength_X7_of ⟨rfl, rfl, Nat.le_of_ble_eq_true rfl, Nat.le_of_ble_eq_true rfl⟩ 0 rfl rfl rfl hl rfl (Nat.le_of_ble_eq_true rfl) dX7_averageLength_73 ⟨Nat.zero_le _, Nat.zero_le _⟩ hw (fun r38 _ H locs hr38 hw => ?_)
                have hr38 : r38 = F_X7_of u23 v25_4 3 := hr38
                have hT25 := hT25.trans (bnd_eq hr38)
                try have hS := Eq.mp (bnd_eq hr38) hS
                refine lv_aload_n hx hb dX7_averageLength_76 rfl (lv_at hl 3 rfl) ?_
                refine lv_iload hx hb dX7_averageLength_77 (lv_at hl 1 rfl) ?_
                refine lv_iconst (v := 2) hx hb dX7_averageLength_79 (by decide) ?_
                have hSc : S_X7_of u23 v25_4 2 := hS.1
                have hS := hS.2
                refine gcV_i (rest := [.int r38, .int v25_3]) X (c_X7_of l D cy ad rest u23 v25_4 2 hSc) gy_X7_of gX7_averageLength_X7_of ⟨rfl, rfl, Nat.le_of_ble_eq_true rfl, Nat.le_of_ble_eq_true rfl⟩ 0 rfl rfl rfl hl rfl (Nat.le_of_ble_eq_true rfl) dX7_averageLength_80 ⟨Nat.zero_le _, Nat.zero_le _⟩ hw (fun r40 _ H locs hr40 hw => ?_)
                have hr40 : r40 = F_X7_of u23 v25_4 2 := hr40
                have hT25 := hT25.trans (bnd_eq hr40)
                try have hS := Eq.mp (bnd_eq hr40) hS
                refine lv_isub hx hb dX7_averageLength_83 ?_
                refine lv_iadd hx hb dX7_averageLength_84 ?_
                refine lv_istore_n (lv' := [(3, .int (v25_3 + (r38 - r40))), (2, .int (v25_2 + 1)), (4, .int v25_4), (0, .ref (ad 0)), (1, .int q1)]) hx hb dX7_averageLength_85 rfl hl (by decide) rfl (fun ls hl => ?_)
                refine lv_iinc (v := (v25_4 + 1)) (lv' := [(4, .int (v25_4 + 1)), (3, .int (v25_3 + (r38 - r40))), (2, .int (v25_2 + 1)), (0, .ref (ad 0)), (1, .int q1)]) hx hb dX7_averageLength_86 hl (k := 2) rfl rfl (by decide) rfl (fun ls hl => ?_)
                refine lv_goto (tgt := 32) hx hb dX7_averageLength_89 (by decide) ?_
                exact ih25 (v25_4 + 1) (v25_3 + (r38 - r40)) (v25_2 + 1) (hF.trans (lp_l hT25)) (hLn25 _ hT25) _ _ ls (lv_sub hl [0, 1, 2, 3, 4] rfl) hw
      exact L25 _ 0 0 0 hF hS _ _ ls (lv_sub hl [0, 1, 2, 3, 4] rfl) hw
    · skip
      have hF := hF.trans (if_neg c24)
      try have hS := Eq.mp (if_neg c24) hS
      refine lv_dconst0 hx hb dX7_averageLength_23 ?_
      exact hret _ _ _ _ _ _ dX7_averageLength_24 ⟨congrArg Prod.fst (hF.symm.trans hsp), congrArg Prod.snd (hF.symm.trans hsp)⟩ hw
theorem gy_X7_mergeCount : gY yX7_mergeCount RX7 cX7_mergeCount 1 (some .int) wsX7_mergeCount 0 := ⟨⟨_, rfl⟩, rfl, by decide +kernel, by decide +kernel, by decide +kernel⟩
def F_X7_mergeCount (C : CS) : Int32 × CS := (bnd ((F_X7_done C (C.1 0 1422)).2) (fun u2 => (bnd ((F_X7_done C (C.1 0 1422)).1) (fun r1 => (r1, u2)))))
abbrev rmX7_mergeCount : Room := { frames := 1, cells := 0, slots := 0, locals := 21 }
set_option maxHeartbeats 4000000 in
set_option maxRecDepth 100000 in
theorem c_X7_mergeCount (l : Launch) (D : va_G) (cy : Nat → ClassId) (ad : Nat → Nat) (rest : va_W) (C : CS) : GMi l yX7_mergeCount wsX7_mergeCount rmX7_mergeCount D cy [.ref (ad 0)] (MW cy ad C ++ rest) (fun (r : Int32) (u : CS) => r = (F_X7_mergeCount C).1 ∧ u = (F_X7_mergeCount C).2) (fun u => MW cy ad u ++ rest) := by
  refine GMi.intro cX7_mergeCount 1 RX7 (by decide) rfl rfl (Nat.le_of_ble_eq_true rfl) ?_
  intro p e s m args below meth c A Q ls X hret hl hw
  have hx := X.1
  have hb := X.2.1
  have hl : lv_has ls 1 [(0, .ref (ad 0))] := hl
  have inX7 : ∀ w ∈ wsX70, w ∈ wsX7_mergeCount := fun w h => List.mem_cons_of_mem _ (List.mem_append_left _ (List.mem_append_right _ h))
  obtain ⟨sp, hsp⟩ : ∃ sp, sp = F_X7_mergeCount C := ⟨_, rfl⟩
  have hF := hsp.trans (F_X7_mergeCount.eq_1 C)
  refine lv_aload_n hx hb dX7_mergeCount_0 rfl (lv_at hl 0 rfl) ?_
  refine lv_aload_n hx hb dX7_mergeCount_1 rfl (lv_at hl 0 rfl) ?_
  refine g_get (v := .ref (ad 1)) (C := RX7) (T := TX7) (N := 16) (ci := 9) X inX7 hw 0 rfl rfl 1 (by decide) (List.mem_of_getElem? (i := 1) rfl) rfl rfl dX7_mergeCount_2 ?_
  refine lv_sipush (v := 1422) hx hb dX7_mergeCount_5 (by decide) ?_
  refine g_ialdk (k := 1422) rfl X hw 1 rfl (vk rfl) dX7_mergeCount_8 ?_
  refine gcV_i (rest := []) X (c_X7_done l D cy ad rest C (C.1 0 1422)) gy_X7_done gX7_mergeCount_X7_done ⟨rfl, rfl, Nat.le_of_ble_eq_true rfl, Nat.le_of_ble_eq_true rfl⟩ 0 rfl rfl rfl hl rfl (Nat.le_of_ble_eq_true rfl) dX7_mergeCount_9 ⟨Nat.zero_le _, Nat.zero_le _⟩ hw (fun r1 u2 H locs hr1 hw => ?_)
  obtain ⟨hr1, hu2⟩ : r1 = (F_X7_done C (C.1 0 1422)).1 ∧ u2 = (F_X7_done C (C.1 0 1422)).2 := hr1
  have hF := hF.trans (bnd_eq hu2)
  try have hS := Eq.mp (bnd_eq hu2) hS
  have hF := hF.trans (bnd_eq hr1)
  try have hS := Eq.mp (bnd_eq hr1) hS
  exact hret _ _ _ _ _ _ dX7_mergeCount_12 ⟨congrArg Prod.fst (hF.symm.trans hsp), congrArg Prod.snd (hF.symm.trans hsp)⟩ hw
theorem gy_X7_begins : gY yX7_begins RX7 cX7_begins 7 (some .boolean) wsX7_begins 2 := ⟨⟨_, rfl⟩, rfl, by decide +kernel, by decide +kernel, by decide +kernel⟩
def st_X7_begins_23 (q1 : Int32) (q2 : Int32) (C : CS) (v2_4 : Int32) (v2_3 : Int32) : (Int32 × Int32) ⊕ Int32 := (if (C.1 0 400) ≤ v2_4 then .inr (v2_3) else (if ((C.1 0 ((4 * q1) + 1).toNatClampNeg) - (C.1 0 ((4 * v2_4) + 1).toNatClampNeg)) ≤ 0 then (if ((C.1 0 ((4 * q1) + 1).toNatClampNeg) - (C.1 0 ((4 * v2_4) + 1).toNatClampNeg)) = 0 then (if q1 ≤ v2_4 then (if v2_3 = 0 then .inl ((v2_4 + 1), 0) else (if (C.1 0 ((4 * v2_4) + 0).toNatClampNeg) = q2 then .inl ((v2_4 + 1), 1) else .inl ((v2_4 + 1), 1))) else (if v2_3 = 0 then .inl ((v2_4 + 1), 0) else (if (C.1 0 ((4 * v2_4) + 0).toNatClampNeg) = q2 then .inl ((v2_4 + 1), 0) else .inl ((v2_4 + 1), 1)))) else (if v2_3 = 0 then .inl ((v2_4 + 1), 0) else (if (C.1 0 ((4 * v2_4) + 0).toNatClampNeg) = q2 then .inl ((v2_4 + 1), 1) else .inl ((v2_4 + 1), 1)))) else (if ((C.1 0 ((4 * q1) + 1).toNatClampNeg) - (C.1 0 ((4 * v2_4) + 1).toNatClampNeg)) ≤ (C.1 0 (1402 + q2).toNatClampNeg) then (if v2_3 = 0 then .inl ((v2_4 + 1), 0) else (if (C.1 0 ((4 * v2_4) + 0).toNatClampNeg) = q2 then .inl ((v2_4 + 1), 0) else .inl ((v2_4 + 1), 1))) else (if ((C.1 0 ((4 * q1) + 1).toNatClampNeg) - (C.1 0 ((4 * v2_4) + 1).toNatClampNeg)) = 0 then (if q1 ≤ v2_4 then (if v2_3 = 0 then .inl ((v2_4 + 1), 0) else (if (C.1 0 ((4 * v2_4) + 0).toNatClampNeg) = q2 then .inl ((v2_4 + 1), 1) else .inl ((v2_4 + 1), 1))) else (if v2_3 = 0 then .inl ((v2_4 + 1), 0) else (if (C.1 0 ((4 * v2_4) + 0).toNatClampNeg) = q2 then .inl ((v2_4 + 1), 0) else .inl ((v2_4 + 1), 1)))) else (if v2_3 = 0 then .inl ((v2_4 + 1), 0) else (if (C.1 0 ((4 * v2_4) + 0).toNatClampNeg) = q2 then .inl ((v2_4 + 1), 1) else .inl ((v2_4 + 1), 1)))))))
def Sst_X7_begins_23 (q1 : Int32) (q2 : Int32) (C : CS) (v2_4 : Int32) (v2_3 : Int32) : Prop := (if (C.1 0 400) ≤ v2_4 then True else (vp_in ((4 * q1) + 1) 1787 ∧ (vp_in ((4 * v2_4) + 1) 1787 ∧ (if ((C.1 0 ((4 * q1) + 1).toNatClampNeg) - (C.1 0 ((4 * v2_4) + 1).toNatClampNeg)) ≤ 0 then (if ((C.1 0 ((4 * q1) + 1).toNatClampNeg) - (C.1 0 ((4 * v2_4) + 1).toNatClampNeg)) = 0 then (if q1 ≤ v2_4 then (if v2_3 = 0 then True else (vp_in ((4 * v2_4) + 0) 1787 ∧ True)) else (if v2_3 = 0 then True else (vp_in ((4 * v2_4) + 0) 1787 ∧ True))) else (if v2_3 = 0 then True else (vp_in ((4 * v2_4) + 0) 1787 ∧ True))) else (vp_in (1402 + q2) 1787 ∧ (if ((C.1 0 ((4 * q1) + 1).toNatClampNeg) - (C.1 0 ((4 * v2_4) + 1).toNatClampNeg)) ≤ (C.1 0 (1402 + q2).toNatClampNeg) then (if v2_3 = 0 then True else (vp_in ((4 * v2_4) + 0) 1787 ∧ True)) else (if ((C.1 0 ((4 * q1) + 1).toNatClampNeg) - (C.1 0 ((4 * v2_4) + 1).toNatClampNeg)) = 0 then (if q1 ≤ v2_4 then (if v2_3 = 0 then True else (vp_in ((4 * v2_4) + 0) 1787 ∧ True)) else (if v2_3 = 0 then True else (vp_in ((4 * v2_4) + 0) 1787 ∧ True))) else (if v2_3 = 0 then True else (vp_in ((4 * v2_4) + 0) 1787 ∧ True)))))))))
def F_X7_begins (C : CS) (q1 : Int32) (q2 : Int32) : Int32 := (if (C.1 0 ((4 * q1) + 0).toNatClampNeg) = q2 then lp (fun (z : Int32 × Int32) => st_X7_begins_23 q1 q2 C z.1 z.2) 0 (((C.1 0 400).toInt - (0 : Int32).toInt).toNat + 1) (0, 1) else lp (fun (z : Int32 × Int32) => st_X7_begins_23 q1 q2 C z.1 z.2) 0 (((C.1 0 400).toInt - (0 : Int32).toInt).toNat + 1) (0, 0))
def S_X7_begins (C : CS) (q1 : Int32) (q2 : Int32) : Prop := (vp_in ((4 * q1) + 0) 1787 ∧ (if (C.1 0 ((4 * q1) + 0).toNatClampNeg) = q2 then lpS (fun (z : Int32 × Int32) => st_X7_begins_23 q1 q2 C z.1 z.2) (fun (z : Int32 × Int32) => Sst_X7_begins_23 q1 q2 C z.1 z.2) (((C.1 0 400).toInt - (0 : Int32).toInt).toNat + 1) (0, 1) else lpS (fun (z : Int32 × Int32) => st_X7_begins_23 q1 q2 C z.1 z.2) (fun (z : Int32 × Int32) => Sst_X7_begins_23 q1 q2 C z.1 z.2) (((C.1 0 400).toInt - (0 : Int32).toInt).toNat + 1) (0, 0)))
abbrev rmX7_begins : Room := { frames := 0, cells := 0, slots := 0, locals := 0 }
set_option maxHeartbeats 4000000 in
set_option maxRecDepth 100000 in
theorem c_X7_begins (l : Launch) (D : va_G) (cy : Nat → ClassId) (ad : Nat → Nat) (rest : va_W) (C : CS) (q1 : Int32) (q2 : Int32) (hS : S_X7_begins C q1 q2) : GMi l yX7_begins wsX7_begins rmX7_begins D cy [.ref (ad 0), .int q1, .int q2] (MW cy ad C ++ rest) (fun (r : Int32) (_ : Unit) => r = F_X7_begins C q1 q2 ∧ (r = 0 ∨ r = 1)) (fun _ => MW cy ad C ++ rest) := by
  refine GMz.intro cX7_begins 7 RX7 (by decide) rfl rfl (Nat.le_of_ble_eq_true rfl) ?_
  intro p e s m args below meth c A Q ls X hret hl hw
  have hx := X.1
  have hb := X.2.1
  have hl : lv_has ls 7 [(0, .ref (ad 0)), (1, .int q1), (2, .int q2)] := hl
  have inX7 : ∀ w ∈ wsX70, w ∈ wsX7_begins := fun w h => List.mem_cons_of_mem _ (List.mem_append_left _ (List.mem_append_right _ h))
  obtain ⟨sp, hsp⟩ : ∃ sp, sp = F_X7_begins C q1 q2 := ⟨_, rfl⟩
  have hF := hsp.trans (F_X7_begins.eq_1 C q1 q2)
  have hS := Eq.mp (S_X7_begins.eq_1 C q1 q2) hS
  refine lv_aload_n hx hb dX7_begins_0 rfl (lv_at hl 0 rfl) ?_
  refine g_get (v := .ref (ad 1)) (C := RX7) (T := TX7) (N := 16) (ci := 9) X inX7 hw 0 rfl rfl 1 (by decide) (List.mem_of_getElem? (i := 1) rfl) rfl rfl dX7_begins_1 ?_
  refine lv_iconst (v := 4) hx hb dX7_begins_4 (by decide) ?_
  refine lv_iload_n hx hb dX7_begins_5 rfl (lv_at hl 1 rfl) ?_
  refine lv_imul hx hb dX7_begins_6 ?_
  refine lv_iconst (v := 0) hx hb dX7_begins_7 (by decide) ?_
  refine lv_iadd hx hb dX7_begins_8 ?_
  refine g_iald X hw 1 rfl hS.1 dX7_begins_9 ?_
  have hS := hS.2
  refine lv_iload_n hx hb dX7_begins_10 rfl (lv_at hl 2 rfl) ?_
  refine lv_icmp_ne (tgt := 18) hx hb dX7_begins_11 (by decide) (fun c1 => ?_) (fun c1 => ?_)
  · skip
    have hF := hF.trans (if_neg c1)
    try have hS := Eq.mp (if_neg c1) hS
    refine lv_iconst (v := 0) hx hb dX7_begins_18 (by decide) ?_
    refine lv_istore_n (lv' := [(3, .int 0), (0, .ref (ad 0)), (1, .int q1), (2, .int q2)]) hx hb dX7_begins_19 rfl hl (by decide) rfl (fun ls hl => ?_)
    refine lv_iconst (v := 0) hx hb dX7_begins_20 (by decide) ?_
    refine lv_istore (lv' := [(4, .int 0), (3, .int 0), (0, .ref (ad 0)), (1, .int q1), (2, .int q2)]) hx hb dX7_begins_21 hl (by decide) rfl (fun ls hl => ?_)
    have L2 : ∀ (n2 : Nat) (v2_4 : Int32) (v2_3 : Int32), sp = lp (fun (z : Int32 × Int32) => st_X7_begins_23 q1 q2 C z.1 z.2) 0 n2 (v2_4, v2_3) → lpS (fun (z : Int32 × Int32) => st_X7_begins_23 q1 q2 C z.1 z.2) (fun (z : Int32 × Int32) => Sst_X7_begins_23 q1 q2 C z.1 z.2) n2 (v2_4, v2_3) → (v2_3 = 0 ∨ v2_3 = 1) → ∀ (H : Heap) (locs : List Loc) (ls : Array Slot), lv_has ls 7 [(4, .int v2_4), (3, .int v2_3), (0, .ref (ad 0)), (1, .int q1), (2, .int q2)] → gw D A s.heap (MW cy ad C ++ rest) H locs → W p l e rmX7_begins s m args below meth c H locs 0 0 Q (F0 m 23 ls []) := by
      intro n2
      induction n2 with
      | zero => intro v2_4 v2_3 hF hL zv2_3; exact False.elim hL
      | succ n2 ih2 =>
        intro v2_4 v2_3 hF hL zv2_3 H locs ls hl hw
        have hT2 := st_X7_begins_23.eq_1 q1 q2 C v2_4 v2_3
        have hLn2 := hL.2
        have hS := Eq.mp (Sst_X7_begins_23.eq_1 q1 q2 C v2_4 v2_3) hL.1
        refine lv_iload hx hb dX7_begins_23 (lv_at hl 0 rfl) ?_
        refine lv_aload_n hx hb dX7_begins_25 rfl (lv_at hl 2 rfl) ?_
        refine g_get (v := .ref (ad 1)) (C := RX7) (T := TX7) (N := 16) (ci := 9) X inX7 hw 0 rfl rfl 1 (by decide) (List.mem_of_getElem? (i := 1) rfl) rfl rfl dX7_begins_26 ?_
        refine lv_sipush (v := 400) hx hb dX7_begins_29 (by decide) ?_
        refine g_ialdk (k := 400) rfl X hw 1 rfl (vk rfl) dX7_begins_32 ?_
        refine lv_icmp_ge (tgt := 134) hx hb dX7_begins_33 (by decide) (fun c3 => ?_) (fun c3 => ?_)
        · skip
          have hT2 := hT2.trans (if_pos c3)
          try have hS := Eq.mp (if_pos c3) hS
          refine lv_iload_n hx hb dX7_begins_134 rfl (lv_at hl 1 rfl) ?_
          exact hret _ _ () _ _ _ dX7_begins_135 zv2_3 ⟨(hF.trans (lp_r hT2)).symm.trans hsp, zv2_3⟩ hw
        · skip
          have hT2 := hT2.trans (if_neg c3)
          try have hS := Eq.mp (if_neg c3) hS
          refine lv_aload_n hx hb dX7_begins_36 rfl (lv_at hl 2 rfl) ?_
          refine g_get (v := .ref (ad 1)) (C := RX7) (T := TX7) (N := 16) (ci := 9) X inX7 hw 0 rfl rfl 1 (by decide) (List.mem_of_getElem? (i := 1) rfl) rfl rfl dX7_begins_37 ?_
          refine lv_iconst (v := 4) hx hb dX7_begins_40 (by decide) ?_
          refine lv_iload_n hx hb dX7_begins_41 rfl (lv_at hl 3 rfl) ?_
          refine lv_imul hx hb dX7_begins_42 ?_
          refine lv_iconst (v := 1) hx hb dX7_begins_43 (by decide) ?_
          refine lv_iadd hx hb dX7_begins_44 ?_
          refine g_iald X hw 1 rfl hS.1 dX7_begins_45 ?_
          have hS := hS.2
          refine lv_aload_n hx hb dX7_begins_46 rfl (lv_at hl 2 rfl) ?_
          refine g_get (v := .ref (ad 1)) (C := RX7) (T := TX7) (N := 16) (ci := 9) X inX7 hw 0 rfl rfl 1 (by decide) (List.mem_of_getElem? (i := 1) rfl) rfl rfl dX7_begins_47 ?_
          refine lv_iconst (v := 4) hx hb dX7_begins_50 (by decide) ?_
          refine lv_iload hx hb dX7_begins_51 (lv_at hl 0 rfl) ?_
          refine lv_imul hx hb dX7_begins_53 ?_
          refine lv_iconst (v := 1) hx hb dX7_begins_54 (by decide) ?_
          refine lv_iadd hx hb dX7_begins_55 ?_
          refine g_iald X hw 1 rfl hS.1 dX7_begins_56 ?_
          have hS := hS.2
          refine lv_isub hx hb dX7_begins_57 ?_
          refine lv_istore (lv' := [(5, .int ((C.1 0 ((4 * q1) + 1).toNatClampNeg) - (C.1 0 ((4 * v2_4) + 1).toNatClampNeg))), (4, .int v2_4), (3, .int v2_3), (0, .ref (ad 0)), (1, .int q1), (2, .int q2)]) hx hb dX7_begins_58 hl (by decide) rfl (fun ls hl => ?_)
          refine lv_iload hx hb dX7_begins_60 (lv_at hl 0 rfl) ?_
          refine lv_if_le (tgt := 80) hx hb dX7_begins_62 (by decide) (fun c4 => ?_) (fun c4 => ?_)
          · skip
            have hT2 := hT2.trans (if_pos c4)
            try have hS := Eq.mp (if_pos c4) hS
            refine lv_iload hx hb dX7_begins_80 (lv_at hl 0 rfl) ?_
            refine lv_if_ne (tgt := 95) hx hb dX7_begins_82 (by decide) (fun c5 => ?_) (fun c5 => ?_)
            · skip
              have hT2 := hT2.trans (if_neg c5)
              try have hS := Eq.mp (if_neg c5) hS
              refine lv_iconst (v := 0) hx hb dX7_begins_95 (by decide) ?_
              refine lv_istore (lv' := [(6, .int 0), (5, .int ((C.1 0 ((4 * q1) + 1).toNatClampNeg) - (C.1 0 ((4 * v2_4) + 1).toNatClampNeg))), (4, .int v2_4), (3, .int v2_3), (0, .ref (ad 0)), (1, .int q1), (2, .int q2)]) hx hb dX7_begins_96 hl (by decide) rfl (fun ls hl => ?_)
              refine lv_iload_n hx hb dX7_begins_98 rfl (lv_at hl 3 rfl) ?_
              refine lv_if_eq (tgt := 126) hx hb dX7_begins_99 (by decide) (fun c6 => ?_) (fun c6 => ?_)
              · skip
                have hT2 := hT2.trans (if_pos c6)
                try have hS := Eq.mp (if_pos c6) hS
                refine lv_iconst (v := 0) hx hb dX7_begins_126 (by decide) ?_
                refine lv_istore_n (lv' := [(3, .int 0), (6, .int 0), (5, .int ((C.1 0 ((4 * q1) + 1).toNatClampNeg) - (C.1 0 ((4 * v2_4) + 1).toNatClampNeg))), (4, .int v2_4), (0, .ref (ad 0)), (1, .int q1), (2, .int q2)]) hx hb dX7_begins_127 rfl hl (by decide) rfl (fun ls hl => ?_)
                refine lv_iinc (v := (v2_4 + 1)) (lv' := [(4, .int (v2_4 + 1)), (3, .int 0), (6, .int 0), (5, .int ((C.1 0 ((4 * q1) + 1).toNatClampNeg) - (C.1 0 ((4 * v2_4) + 1).toNatClampNeg))), (0, .ref (ad 0)), (1, .int q1), (2, .int q2)]) hx hb dX7_begins_128 hl (k := 3) rfl rfl (by decide) rfl (fun ls hl => ?_)
                refine lv_goto (tgt := 23) hx hb dX7_begins_131 (by decide) ?_
                exact ih2 (v2_4 + 1) 0 (hF.trans (lp_l hT2)) (hLn2 _ hT2) (Or.inl rfl) _ _ ls (lv_sub hl [0, 1, 4, 5, 6] rfl) hw
              · skip
                have hT2 := hT2.trans (if_neg c6)
                try have hS := Eq.mp (if_neg c6) hS
                refine lv_aload_n hx hb dX7_begins_102 rfl (lv_at hl 4 rfl) ?_
                refine g_get (v := .ref (ad 1)) (C := RX7) (T := TX7) (N := 16) (ci := 9) X inX7 hw 0 rfl rfl 1 (by decide) (List.mem_of_getElem? (i := 1) rfl) rfl rfl dX7_begins_103 ?_
                refine lv_iconst (v := 4) hx hb dX7_begins_106 (by decide) ?_
                refine lv_iload hx hb dX7_begins_107 (lv_at hl 2 rfl) ?_
                refine lv_imul hx hb dX7_begins_109 ?_
                refine lv_iconst (v := 0) hx hb dX7_begins_110 (by decide) ?_
                refine lv_iadd hx hb dX7_begins_111 ?_
                refine g_iald X hw 1 rfl hS.1 dX7_begins_112 ?_
                have hS := hS.2
                refine lv_iload_n hx hb dX7_begins_113 rfl (lv_at hl 6 rfl) ?_
                refine lv_icmp_ne (tgt := 122) hx hb dX7_begins_114 (by decide) (fun c7 => ?_) (fun c7 => ?_)
                · skip
                  have hT2 := hT2.trans (if_neg c7)
                  try have hS := Eq.mp (if_neg c7) hS
                  refine lv_iconst (v := 1) hx hb dX7_begins_122 (by decide) ?_
                  refine lv_goto (tgt := 127) hx hb dX7_begins_123 (by decide) ?_
                  refine lv_istore_n (lv' := [(3, .int 1), (6, .int 0), (5, .int ((C.1 0 ((4 * q1) + 1).toNatClampNeg) - (C.1 0 ((4 * v2_4) + 1).toNatClampNeg))), (4, .int v2_4), (0, .ref (ad 0)), (1, .int q1), (2, .int q2)]) hx hb dX7_begins_127 rfl hl (by decide) rfl (fun ls hl => ?_)
                  refine lv_iinc (v := (v2_4 + 1)) (lv' := [(4, .int (v2_4 + 1)), (3, .int 1), (6, .int 0), (5, .int ((C.1 0 ((4 * q1) + 1).toNatClampNeg) - (C.1 0 ((4 * v2_4) + 1).toNatClampNeg))), (0, .ref (ad 0)), (1, .int q1), (2, .int q2)]) hx hb dX7_begins_128 hl (k := 3) rfl rfl (by decide) rfl (fun ls hl => ?_)
                  refine lv_goto (tgt := 23) hx hb dX7_begins_131 (by decide) ?_
                  exact ih2 (v2_4 + 1) 1 (hF.trans (lp_l hT2)) (hLn2 _ hT2) (Or.inr rfl) _ _ ls (lv_sub hl [0, 1, 4, 5, 6] rfl) hw
                · skip
                  have hT2 := hT2.trans (if_pos c7)
                  try have hS := Eq.mp (if_pos c7) hS
                  refine lv_iload hx hb dX7_begins_117 (lv_at hl 0 rfl) ?_
                  refine lv_if_ne (tgt := 126) hx hb dX7_begins_119 (by decide) (fun c => absurd (by decide) c) (fun _ => ?_)
                  refine lv_iconst (v := 1) hx hb dX7_begins_122 (by decide) ?_
                  refine lv_goto (tgt := 127) hx hb dX7_begins_123 (by decide) ?_
                  refine lv_istore_n (lv' := [(3, .int 1), (6, .int 0), (5, .int ((C.1 0 ((4 * q1) + 1).toNatClampNeg) - (C.1 0 ((4 * v2_4) + 1).toNatClampNeg))), (4, .int v2_4), (0, .ref (ad 0)), (1, .int q1), (2, .int q2)]) hx hb dX7_begins_127 rfl hl (by decide) rfl (fun ls hl => ?_)
                  refine lv_iinc (v := (v2_4 + 1)) (lv' := [(4, .int (v2_4 + 1)), (3, .int 1), (6, .int 0), (5, .int ((C.1 0 ((4 * q1) + 1).toNatClampNeg) - (C.1 0 ((4 * v2_4) + 1).toNatClampNeg))), (0, .ref (ad 0)), (1, .int q1), (2, .int q2)]) hx hb dX7_begins_128 hl (k := 3) rfl rfl (by decide) rfl (fun ls hl => ?_)
                  refine lv_goto (tgt := 23) hx hb dX7_begins_131 (by decide) ?_
                  exact ih2 (v2_4 + 1) 1 (hF.trans (lp_l hT2)) (hLn2 _ hT2) (Or.inr rfl) _ _ ls (lv_sub hl [0, 1, 4, 5, 6] rfl) hw
            · skip
              have hT2 := hT2.trans (if_pos c5)
              try have hS := Eq.mp (if_pos c5) hS
              refine lv_iload hx hb dX7_begins_85 (lv_at hl 1 rfl) ?_
              refine lv_iload_n hx hb dX7_begins_87 rfl (lv_at hl 4 rfl) ?_
              refine lv_icmp_ge (tgt := 95) hx hb dX7_begins_88 (by decide) (fun c8 => ?_) (fun c8 => ?_)
              · skip
                have hT2 := hT2.trans (if_pos c8)
                try have hS := Eq.mp (if_pos c8) hS
                refine lv_iconst (v := 0) hx hb dX7_begins_95 (by decide) ?_
                refine lv_istore (lv' := [(6, .int 0), (5, .int ((C.1 0 ((4 * q1) + 1).toNatClampNeg) - (C.1 0 ((4 * v2_4) + 1).toNatClampNeg))), (4, .int v2_4), (3, .int v2_3), (0, .ref (ad 0)), (1, .int q1), (2, .int q2)]) hx hb dX7_begins_96 hl (by decide) rfl (fun ls hl => ?_)
                refine lv_iload_n hx hb dX7_begins_98 rfl (lv_at hl 3 rfl) ?_
                refine lv_if_eq (tgt := 126) hx hb dX7_begins_99 (by decide) (fun c9 => ?_) (fun c9 => ?_)
                · skip
                  have hT2 := hT2.trans (if_pos c9)
                  try have hS := Eq.mp (if_pos c9) hS
                  refine lv_iconst (v := 0) hx hb dX7_begins_126 (by decide) ?_
                  refine lv_istore_n (lv' := [(3, .int 0), (6, .int 0), (5, .int ((C.1 0 ((4 * q1) + 1).toNatClampNeg) - (C.1 0 ((4 * v2_4) + 1).toNatClampNeg))), (4, .int v2_4), (0, .ref (ad 0)), (1, .int q1), (2, .int q2)]) hx hb dX7_begins_127 rfl hl (by decide) rfl (fun ls hl => ?_)
                  refine lv_iinc (v := (v2_4 + 1)) (lv' := [(4, .int (v2_4 + 1)), (3, .int 0), (6, .int 0), (5, .int ((C.1 0 ((4 * q1) + 1).toNatClampNeg) - (C.1 0 ((4 * v2_4) + 1).toNatClampNeg))), (0, .ref (ad 0)), (1, .int q1), (2, .int q2)]) hx hb dX7_begins_128 hl (k := 3) rfl rfl (by decide) rfl (fun ls hl => ?_)
                  refine lv_goto (tgt := 23) hx hb dX7_begins_131 (by decide) ?_
                  exact ih2 (v2_4 + 1) 0 (hF.trans (lp_l hT2)) (hLn2 _ hT2) (Or.inl rfl) _ _ ls (lv_sub hl [0, 1, 4, 5, 6] rfl) hw
                · skip
                  have hT2 := hT2.trans (if_neg c9)
                  try have hS := Eq.mp (if_neg c9) hS
                  refine lv_aload_n hx hb dX7_begins_102 rfl (lv_at hl 4 rfl) ?_
                  refine g_get (v := .ref (ad 1)) (C := RX7) (T := TX7) (N := 16) (ci := 9) X inX7 hw 0 rfl rfl 1 (by decide) (List.mem_of_getElem? (i := 1) rfl) rfl rfl dX7_begins_103 ?_
                  refine lv_iconst (v := 4) hx hb dX7_begins_106 (by decide) ?_
                  refine lv_iload hx hb dX7_begins_107 (lv_at hl 2 rfl) ?_
                  refine lv_imul hx hb dX7_begins_109 ?_
                  refine lv_iconst (v := 0) hx hb dX7_begins_110 (by decide) ?_
                  refine lv_iadd hx hb dX7_begins_111 ?_
                  refine g_iald X hw 1 rfl hS.1 dX7_begins_112 ?_
                  have hS := hS.2
                  refine lv_iload_n hx hb dX7_begins_113 rfl (lv_at hl 6 rfl) ?_
                  refine lv_icmp_ne (tgt := 122) hx hb dX7_begins_114 (by decide) (fun c10 => ?_) (fun c10 => ?_)
                  · skip
                    have hT2 := hT2.trans (if_neg c10)
                    try have hS := Eq.mp (if_neg c10) hS
                    refine lv_iconst (v := 1) hx hb dX7_begins_122 (by decide) ?_
                    refine lv_goto (tgt := 127) hx hb dX7_begins_123 (by decide) ?_
                    refine lv_istore_n (lv' := [(3, .int 1), (6, .int 0), (5, .int ((C.1 0 ((4 * q1) + 1).toNatClampNeg) - (C.1 0 ((4 * v2_4) + 1).toNatClampNeg))), (4, .int v2_4), (0, .ref (ad 0)), (1, .int q1), (2, .int q2)]) hx hb dX7_begins_127 rfl hl (by decide) rfl (fun ls hl => ?_)
                    refine lv_iinc (v := (v2_4 + 1)) (lv' := [(4, .int (v2_4 + 1)), (3, .int 1), (6, .int 0), (5, .int ((C.1 0 ((4 * q1) + 1).toNatClampNeg) - (C.1 0 ((4 * v2_4) + 1).toNatClampNeg))), (0, .ref (ad 0)), (1, .int q1), (2, .int q2)]) hx hb dX7_begins_128 hl (k := 3) rfl rfl (by decide) rfl (fun ls hl => ?_)
                    refine lv_goto (tgt := 23) hx hb dX7_begins_131 (by decide) ?_
                    exact ih2 (v2_4 + 1) 1 (hF.trans (lp_l hT2)) (hLn2 _ hT2) (Or.inr rfl) _ _ ls (lv_sub hl [0, 1, 4, 5, 6] rfl) hw
                  · skip
                    have hT2 := hT2.trans (if_pos c10)
                    try have hS := Eq.mp (if_pos c10) hS
                    refine lv_iload hx hb dX7_begins_117 (lv_at hl 0 rfl) ?_
                    refine lv_if_ne (tgt := 126) hx hb dX7_begins_119 (by decide) (fun c => absurd (by decide) c) (fun _ => ?_)
                    refine lv_iconst (v := 1) hx hb dX7_begins_122 (by decide) ?_
                    refine lv_goto (tgt := 127) hx hb dX7_begins_123 (by decide) ?_
                    refine lv_istore_n (lv' := [(3, .int 1), (6, .int 0), (5, .int ((C.1 0 ((4 * q1) + 1).toNatClampNeg) - (C.1 0 ((4 * v2_4) + 1).toNatClampNeg))), (4, .int v2_4), (0, .ref (ad 0)), (1, .int q1), (2, .int q2)]) hx hb dX7_begins_127 rfl hl (by decide) rfl (fun ls hl => ?_)
                    refine lv_iinc (v := (v2_4 + 1)) (lv' := [(4, .int (v2_4 + 1)), (3, .int 1), (6, .int 0), (5, .int ((C.1 0 ((4 * q1) + 1).toNatClampNeg) - (C.1 0 ((4 * v2_4) + 1).toNatClampNeg))), (0, .ref (ad 0)), (1, .int q1), (2, .int q2)]) hx hb dX7_begins_128 hl (k := 3) rfl rfl (by decide) rfl (fun ls hl => ?_)
                    refine lv_goto (tgt := 23) hx hb dX7_begins_131 (by decide) ?_
                    exact ih2 (v2_4 + 1) 1 (hF.trans (lp_l hT2)) (hLn2 _ hT2) (Or.inr rfl) _ _ ls (lv_sub hl [0, 1, 4, 5, 6] rfl) hw
              · skip
                have hT2 := hT2.trans (if_neg c8)
                try have hS := Eq.mp (if_neg c8) hS
                refine lv_iconst (v := 1) hx hb dX7_begins_91 (by decide) ?_
                refine lv_goto (tgt := 96) hx hb dX7_begins_92 (by decide) ?_
                refine lv_istore (lv' := [(6, .int 1), (5, .int ((C.1 0 ((4 * q1) + 1).toNatClampNeg) - (C.1 0 ((4 * v2_4) + 1).toNatClampNeg))), (4, .int v2_4), (3, .int v2_3), (0, .ref (ad 0)), (1, .int q1), (2, .int q2)]) hx hb dX7_begins_96 hl (by decide) rfl (fun ls hl => ?_)
                refine lv_iload_n hx hb dX7_begins_98 rfl (lv_at hl 3 rfl) ?_
                refine lv_if_eq (tgt := 126) hx hb dX7_begins_99 (by decide) (fun c11 => ?_) (fun c11 => ?_)
                · skip
                  have hT2 := hT2.trans (if_pos c11)
                  try have hS := Eq.mp (if_pos c11) hS
                  refine lv_iconst (v := 0) hx hb dX7_begins_126 (by decide) ?_
                  refine lv_istore_n (lv' := [(3, .int 0), (6, .int 1), (5, .int ((C.1 0 ((4 * q1) + 1).toNatClampNeg) - (C.1 0 ((4 * v2_4) + 1).toNatClampNeg))), (4, .int v2_4), (0, .ref (ad 0)), (1, .int q1), (2, .int q2)]) hx hb dX7_begins_127 rfl hl (by decide) rfl (fun ls hl => ?_)
                  refine lv_iinc (v := (v2_4 + 1)) (lv' := [(4, .int (v2_4 + 1)), (3, .int 0), (6, .int 1), (5, .int ((C.1 0 ((4 * q1) + 1).toNatClampNeg) - (C.1 0 ((4 * v2_4) + 1).toNatClampNeg))), (0, .ref (ad 0)), (1, .int q1), (2, .int q2)]) hx hb dX7_begins_128 hl (k := 3) rfl rfl (by decide) rfl (fun ls hl => ?_)
                  refine lv_goto (tgt := 23) hx hb dX7_begins_131 (by decide) ?_
                  exact ih2 (v2_4 + 1) 0 (hF.trans (lp_l hT2)) (hLn2 _ hT2) (Or.inl rfl) _ _ ls (lv_sub hl [0, 1, 4, 5, 6] rfl) hw
                · skip
                  have hT2 := hT2.trans (if_neg c11)
                  try have hS := Eq.mp (if_neg c11) hS
                  refine lv_aload_n hx hb dX7_begins_102 rfl (lv_at hl 4 rfl) ?_
                  refine g_get (v := .ref (ad 1)) (C := RX7) (T := TX7) (N := 16) (ci := 9) X inX7 hw 0 rfl rfl 1 (by decide) (List.mem_of_getElem? (i := 1) rfl) rfl rfl dX7_begins_103 ?_
                  refine lv_iconst (v := 4) hx hb dX7_begins_106 (by decide) ?_
                  refine lv_iload hx hb dX7_begins_107 (lv_at hl 2 rfl) ?_
                  refine lv_imul hx hb dX7_begins_109 ?_
                  refine lv_iconst (v := 0) hx hb dX7_begins_110 (by decide) ?_
                  refine lv_iadd hx hb dX7_begins_111 ?_
                  refine g_iald X hw 1 rfl hS.1 dX7_begins_112 ?_
                  have hS := hS.2
                  refine lv_iload_n hx hb dX7_begins_113 rfl (lv_at hl 6 rfl) ?_
                  refine lv_icmp_ne (tgt := 122) hx hb dX7_begins_114 (by decide) (fun c12 => ?_) (fun c12 => ?_)
                  · skip
                    have hT2 := hT2.trans (if_neg c12)
                    try have hS := Eq.mp (if_neg c12) hS
                    refine lv_iconst (v := 1) hx hb dX7_begins_122 (by decide) ?_
                    refine lv_goto (tgt := 127) hx hb dX7_begins_123 (by decide) ?_
                    refine lv_istore_n (lv' := [(3, .int 1), (6, .int 1), (5, .int ((C.1 0 ((4 * q1) + 1).toNatClampNeg) - (C.1 0 ((4 * v2_4) + 1).toNatClampNeg))), (4, .int v2_4), (0, .ref (ad 0)), (1, .int q1), (2, .int q2)]) hx hb dX7_begins_127 rfl hl (by decide) rfl (fun ls hl => ?_)
                    refine lv_iinc (v := (v2_4 + 1)) (lv' := [(4, .int (v2_4 + 1)), (3, .int 1), (6, .int 1), (5, .int ((C.1 0 ((4 * q1) + 1).toNatClampNeg) - (C.1 0 ((4 * v2_4) + 1).toNatClampNeg))), (0, .ref (ad 0)), (1, .int q1), (2, .int q2)]) hx hb dX7_begins_128 hl (k := 3) rfl rfl (by decide) rfl (fun ls hl => ?_)
                    refine lv_goto (tgt := 23) hx hb dX7_begins_131 (by decide) ?_
                    exact ih2 (v2_4 + 1) 1 (hF.trans (lp_l hT2)) (hLn2 _ hT2) (Or.inr rfl) _ _ ls (lv_sub hl [0, 1, 4, 5, 6] rfl) hw
                  · skip
                    have hT2 := hT2.trans (if_pos c12)
                    try have hS := Eq.mp (if_pos c12) hS
                    refine lv_iload hx hb dX7_begins_117 (lv_at hl 0 rfl) ?_
                    refine lv_if_ne (tgt := 126) hx hb dX7_begins_119 (by decide) (fun _ => ?_) (fun c => absurd c (by decide))
                    refine lv_iconst (v := 0) hx hb dX7_begins_126 (by decide) ?_
                    refine lv_istore_n (lv' := [(3, .int 0), (6, .int 1), (5, .int ((C.1 0 ((4 * q1) + 1).toNatClampNeg) - (C.1 0 ((4 * v2_4) + 1).toNatClampNeg))), (4, .int v2_4), (0, .ref (ad 0)), (1, .int q1), (2, .int q2)]) hx hb dX7_begins_127 rfl hl (by decide) rfl (fun ls hl => ?_)
                    refine lv_iinc (v := (v2_4 + 1)) (lv' := [(4, .int (v2_4 + 1)), (3, .int 0), (6, .int 1), (5, .int ((C.1 0 ((4 * q1) + 1).toNatClampNeg) - (C.1 0 ((4 * v2_4) + 1).toNatClampNeg))), (0, .ref (ad 0)), (1, .int q1), (2, .int q2)]) hx hb dX7_begins_128 hl (k := 3) rfl rfl (by decide) rfl (fun ls hl => ?_)
                    refine lv_goto (tgt := 23) hx hb dX7_begins_131 (by decide) ?_
                    exact ih2 (v2_4 + 1) 0 (hF.trans (lp_l hT2)) (hLn2 _ hT2) (Or.inl rfl) _ _ ls (lv_sub hl [0, 1, 4, 5, 6] rfl) hw
          · skip
            have hT2 := hT2.trans (if_neg c4)
            try have hS := Eq.mp (if_neg c4) hS
            refine lv_iload hx hb dX7_begins_65 (lv_at hl 0 rfl) ?_
            refine lv_aload_n hx hb dX7_begins_67 rfl (lv_at hl 3 rfl) ?_
            refine g_get (v := .ref (ad 1)) (C := RX7) (T := TX7) (N := 16) (ci := 9) X inX7 hw 0 rfl rfl 1 (by decide) (List.mem_of_getElem? (i := 1) rfl) rfl rfl dX7_begins_68 ?_
            refine lv_sipush (v := 1402) hx hb dX7_begins_71 (by decide) ?_
            refine lv_iload_n hx hb dX7_begins_74 rfl (lv_at hl 5 rfl) ?_
            refine lv_iadd hx hb dX7_begins_75 ?_
            refine g_iald X hw 1 rfl hS.1 dX7_begins_76 ?_
            have hS := hS.2
            refine lv_icmp_le (tgt := 91) hx hb dX7_begins_77 (by decide) (fun c13 => ?_) (fun c13 => ?_)
            · skip
              have hT2 := hT2.trans (if_pos c13)
              try have hS := Eq.mp (if_pos c13) hS
              refine lv_iconst (v := 1) hx hb dX7_begins_91 (by decide) ?_
              refine lv_goto (tgt := 96) hx hb dX7_begins_92 (by decide) ?_
              refine lv_istore (lv' := [(6, .int 1), (5, .int ((C.1 0 ((4 * q1) + 1).toNatClampNeg) - (C.1 0 ((4 * v2_4) + 1).toNatClampNeg))), (4, .int v2_4), (3, .int v2_3), (0, .ref (ad 0)), (1, .int q1), (2, .int q2)]) hx hb dX7_begins_96 hl (by decide) rfl (fun ls hl => ?_)
              refine lv_iload_n hx hb dX7_begins_98 rfl (lv_at hl 3 rfl) ?_
              refine lv_if_eq (tgt := 126) hx hb dX7_begins_99 (by decide) (fun c14 => ?_) (fun c14 => ?_)
              · skip
                have hT2 := hT2.trans (if_pos c14)
                try have hS := Eq.mp (if_pos c14) hS
                refine lv_iconst (v := 0) hx hb dX7_begins_126 (by decide) ?_
                refine lv_istore_n (lv' := [(3, .int 0), (6, .int 1), (5, .int ((C.1 0 ((4 * q1) + 1).toNatClampNeg) - (C.1 0 ((4 * v2_4) + 1).toNatClampNeg))), (4, .int v2_4), (0, .ref (ad 0)), (1, .int q1), (2, .int q2)]) hx hb dX7_begins_127 rfl hl (by decide) rfl (fun ls hl => ?_)
                refine lv_iinc (v := (v2_4 + 1)) (lv' := [(4, .int (v2_4 + 1)), (3, .int 0), (6, .int 1), (5, .int ((C.1 0 ((4 * q1) + 1).toNatClampNeg) - (C.1 0 ((4 * v2_4) + 1).toNatClampNeg))), (0, .ref (ad 0)), (1, .int q1), (2, .int q2)]) hx hb dX7_begins_128 hl (k := 3) rfl rfl (by decide) rfl (fun ls hl => ?_)
                refine lv_goto (tgt := 23) hx hb dX7_begins_131 (by decide) ?_
                exact ih2 (v2_4 + 1) 0 (hF.trans (lp_l hT2)) (hLn2 _ hT2) (Or.inl rfl) _ _ ls (lv_sub hl [0, 1, 4, 5, 6] rfl) hw
              · skip
                have hT2 := hT2.trans (if_neg c14)
                try have hS := Eq.mp (if_neg c14) hS
                refine lv_aload_n hx hb dX7_begins_102 rfl (lv_at hl 4 rfl) ?_
                refine g_get (v := .ref (ad 1)) (C := RX7) (T := TX7) (N := 16) (ci := 9) X inX7 hw 0 rfl rfl 1 (by decide) (List.mem_of_getElem? (i := 1) rfl) rfl rfl dX7_begins_103 ?_
                refine lv_iconst (v := 4) hx hb dX7_begins_106 (by decide) ?_
                refine lv_iload hx hb dX7_begins_107 (lv_at hl 2 rfl) ?_
                refine lv_imul hx hb dX7_begins_109 ?_
                refine lv_iconst (v := 0) hx hb dX7_begins_110 (by decide) ?_
                refine lv_iadd hx hb dX7_begins_111 ?_
                refine g_iald X hw 1 rfl hS.1 dX7_begins_112 ?_
                have hS := hS.2
                refine lv_iload_n hx hb dX7_begins_113 rfl (lv_at hl 6 rfl) ?_
                refine lv_icmp_ne (tgt := 122) hx hb dX7_begins_114 (by decide) (fun c15 => ?_) (fun c15 => ?_)
                · skip
                  have hT2 := hT2.trans (if_neg c15)
                  try have hS := Eq.mp (if_neg c15) hS
                  refine lv_iconst (v := 1) hx hb dX7_begins_122 (by decide) ?_
                  refine lv_goto (tgt := 127) hx hb dX7_begins_123 (by decide) ?_
                  refine lv_istore_n (lv' := [(3, .int 1), (6, .int 1), (5, .int ((C.1 0 ((4 * q1) + 1).toNatClampNeg) - (C.1 0 ((4 * v2_4) + 1).toNatClampNeg))), (4, .int v2_4), (0, .ref (ad 0)), (1, .int q1), (2, .int q2)]) hx hb dX7_begins_127 rfl hl (by decide) rfl (fun ls hl => ?_)
                  refine lv_iinc (v := (v2_4 + 1)) (lv' := [(4, .int (v2_4 + 1)), (3, .int 1), (6, .int 1), (5, .int ((C.1 0 ((4 * q1) + 1).toNatClampNeg) - (C.1 0 ((4 * v2_4) + 1).toNatClampNeg))), (0, .ref (ad 0)), (1, .int q1), (2, .int q2)]) hx hb dX7_begins_128 hl (k := 3) rfl rfl (by decide) rfl (fun ls hl => ?_)
                  refine lv_goto (tgt := 23) hx hb dX7_begins_131 (by decide) ?_
                  exact ih2 (v2_4 + 1) 1 (hF.trans (lp_l hT2)) (hLn2 _ hT2) (Or.inr rfl) _ _ ls (lv_sub hl [0, 1, 4, 5, 6] rfl) hw
                · skip
                  have hT2 := hT2.trans (if_pos c15)
                  try have hS := Eq.mp (if_pos c15) hS
                  refine lv_iload hx hb dX7_begins_117 (lv_at hl 0 rfl) ?_
                  refine lv_if_ne (tgt := 126) hx hb dX7_begins_119 (by decide) (fun _ => ?_) (fun c => absurd c (by decide))
                  refine lv_iconst (v := 0) hx hb dX7_begins_126 (by decide) ?_
                  refine lv_istore_n (lv' := [(3, .int 0), (6, .int 1), (5, .int ((C.1 0 ((4 * q1) + 1).toNatClampNeg) - (C.1 0 ((4 * v2_4) + 1).toNatClampNeg))), (4, .int v2_4), (0, .ref (ad 0)), (1, .int q1), (2, .int q2)]) hx hb dX7_begins_127 rfl hl (by decide) rfl (fun ls hl => ?_)
                  refine lv_iinc (v := (v2_4 + 1)) (lv' := [(4, .int (v2_4 + 1)), (3, .int 0), (6, .int 1), (5, .int ((C.1 0 ((4 * q1) + 1).toNatClampNeg) - (C.1 0 ((4 * v2_4) + 1).toNatClampNeg))), (0, .ref (ad 0)), (1, .int q1), (2, .int q2)]) hx hb dX7_begins_128 hl (k := 3) rfl rfl (by decide) rfl (fun ls hl => ?_)
                  refine lv_goto (tgt := 23) hx hb dX7_begins_131 (by decide) ?_
                  exact ih2 (v2_4 + 1) 0 (hF.trans (lp_l hT2)) (hLn2 _ hT2) (Or.inl rfl) _ _ ls (lv_sub hl [0, 1, 4, 5, 6] rfl) hw
            · skip
              have hT2 := hT2.trans (if_neg c13)
              try have hS := Eq.mp (if_neg c13) hS
              refine lv_iload hx hb dX7_begins_80 (lv_at hl 0 rfl) ?_
              refine lv_if_ne (tgt := 95) hx hb dX7_begins_82 (by decide) (fun c16 => ?_) (fun c16 => ?_)
              · skip
                have hT2 := hT2.trans (if_neg c16)
                try have hS := Eq.mp (if_neg c16) hS
                refine lv_iconst (v := 0) hx hb dX7_begins_95 (by decide) ?_
                refine lv_istore (lv' := [(6, .int 0), (5, .int ((C.1 0 ((4 * q1) + 1).toNatClampNeg) - (C.1 0 ((4 * v2_4) + 1).toNatClampNeg))), (4, .int v2_4), (3, .int v2_3), (0, .ref (ad 0)), (1, .int q1), (2, .int q2)]) hx hb dX7_begins_96 hl (by decide) rfl (fun ls hl => ?_)
                refine lv_iload_n hx hb dX7_begins_98 rfl (lv_at hl 3 rfl) ?_
                refine lv_if_eq (tgt := 126) hx hb dX7_begins_99 (by decide) (fun c17 => ?_) (fun c17 => ?_)
                · skip
                  have hT2 := hT2.trans (if_pos c17)
                  try have hS := Eq.mp (if_pos c17) hS
                  refine lv_iconst (v := 0) hx hb dX7_begins_126 (by decide) ?_
                  refine lv_istore_n (lv' := [(3, .int 0), (6, .int 0), (5, .int ((C.1 0 ((4 * q1) + 1).toNatClampNeg) - (C.1 0 ((4 * v2_4) + 1).toNatClampNeg))), (4, .int v2_4), (0, .ref (ad 0)), (1, .int q1), (2, .int q2)]) hx hb dX7_begins_127 rfl hl (by decide) rfl (fun ls hl => ?_)
                  refine lv_iinc (v := (v2_4 + 1)) (lv' := [(4, .int (v2_4 + 1)), (3, .int 0), (6, .int 0), (5, .int ((C.1 0 ((4 * q1) + 1).toNatClampNeg) - (C.1 0 ((4 * v2_4) + 1).toNatClampNeg))), (0, .ref (ad 0)), (1, .int q1), (2, .int q2)]) hx hb dX7_begins_128 hl (k := 3) rfl rfl (by decide) rfl (fun ls hl => ?_)
                  refine lv_goto (tgt := 23) hx hb dX7_begins_131 (by decide) ?_
                  exact ih2 (v2_4 + 1) 0 (hF.trans (lp_l hT2)) (hLn2 _ hT2) (Or.inl rfl) _ _ ls (lv_sub hl [0, 1, 4, 5, 6] rfl) hw
                · skip
                  have hT2 := hT2.trans (if_neg c17)
                  try have hS := Eq.mp (if_neg c17) hS
                  refine lv_aload_n hx hb dX7_begins_102 rfl (lv_at hl 4 rfl) ?_
                  refine g_get (v := .ref (ad 1)) (C := RX7) (T := TX7) (N := 16) (ci := 9) X inX7 hw 0 rfl rfl 1 (by decide) (List.mem_of_getElem? (i := 1) rfl) rfl rfl dX7_begins_103 ?_
                  refine lv_iconst (v := 4) hx hb dX7_begins_106 (by decide) ?_
                  refine lv_iload hx hb dX7_begins_107 (lv_at hl 2 rfl) ?_
                  refine lv_imul hx hb dX7_begins_109 ?_
                  refine lv_iconst (v := 0) hx hb dX7_begins_110 (by decide) ?_
                  refine lv_iadd hx hb dX7_begins_111 ?_
                  refine g_iald X hw 1 rfl hS.1 dX7_begins_112 ?_
                  have hS := hS.2
                  refine lv_iload_n hx hb dX7_begins_113 rfl (lv_at hl 6 rfl) ?_
                  refine lv_icmp_ne (tgt := 122) hx hb dX7_begins_114 (by decide) (fun c18 => ?_) (fun c18 => ?_)
                  · skip
                    have hT2 := hT2.trans (if_neg c18)
                    try have hS := Eq.mp (if_neg c18) hS
                    refine lv_iconst (v := 1) hx hb dX7_begins_122 (by decide) ?_
                    refine lv_goto (tgt := 127) hx hb dX7_begins_123 (by decide) ?_
                    refine lv_istore_n (lv' := [(3, .int 1), (6, .int 0), (5, .int ((C.1 0 ((4 * q1) + 1).toNatClampNeg) - (C.1 0 ((4 * v2_4) + 1).toNatClampNeg))), (4, .int v2_4), (0, .ref (ad 0)), (1, .int q1), (2, .int q2)]) hx hb dX7_begins_127 rfl hl (by decide) rfl (fun ls hl => ?_)
                    refine lv_iinc (v := (v2_4 + 1)) (lv' := [(4, .int (v2_4 + 1)), (3, .int 1), (6, .int 0), (5, .int ((C.1 0 ((4 * q1) + 1).toNatClampNeg) - (C.1 0 ((4 * v2_4) + 1).toNatClampNeg))), (0, .ref (ad 0)), (1, .int q1), (2, .int q2)]) hx hb dX7_begins_128 hl (k := 3) rfl rfl (by decide) rfl (fun ls hl => ?_)
                    refine lv_goto (tgt := 23) hx hb dX7_begins_131 (by decide) ?_
                    exact ih2 (v2_4 + 1) 1 (hF.trans (lp_l hT2)) (hLn2 _ hT2) (Or.inr rfl) _ _ ls (lv_sub hl [0, 1, 4, 5, 6] rfl) hw
                  · skip
                    have hT2 := hT2.trans (if_pos c18)
                    try have hS := Eq.mp (if_pos c18) hS
                    refine lv_iload hx hb dX7_begins_117 (lv_at hl 0 rfl) ?_
                    refine lv_if_ne (tgt := 126) hx hb dX7_begins_119 (by decide) (fun c => absurd (by decide) c) (fun _ => ?_)
                    refine lv_iconst (v := 1) hx hb dX7_begins_122 (by decide) ?_
                    refine lv_goto (tgt := 127) hx hb dX7_begins_123 (by decide) ?_
                    refine lv_istore_n (lv' := [(3, .int 1), (6, .int 0), (5, .int ((C.1 0 ((4 * q1) + 1).toNatClampNeg) - (C.1 0 ((4 * v2_4) + 1).toNatClampNeg))), (4, .int v2_4), (0, .ref (ad 0)), (1, .int q1), (2, .int q2)]) hx hb dX7_begins_127 rfl hl (by decide) rfl (fun ls hl => ?_)
                    refine lv_iinc (v := (v2_4 + 1)) (lv' := [(4, .int (v2_4 + 1)), (3, .int 1), (6, .int 0), (5, .int ((C.1 0 ((4 * q1) + 1).toNatClampNeg) - (C.1 0 ((4 * v2_4) + 1).toNatClampNeg))), (0, .ref (ad 0)), (1, .int q1), (2, .int q2)]) hx hb dX7_begins_128 hl (k := 3) rfl rfl (by decide) rfl (fun ls hl => ?_)
                    refine lv_goto (tgt := 23) hx hb dX7_begins_131 (by decide) ?_
                    exact ih2 (v2_4 + 1) 1 (hF.trans (lp_l hT2)) (hLn2 _ hT2) (Or.inr rfl) _ _ ls (lv_sub hl [0, 1, 4, 5, 6] rfl) hw
              · skip
                have hT2 := hT2.trans (if_pos c16)
                try have hS := Eq.mp (if_pos c16) hS
                refine lv_iload hx hb dX7_begins_85 (lv_at hl 1 rfl) ?_
                refine lv_iload_n hx hb dX7_begins_87 rfl (lv_at hl 4 rfl) ?_
                refine lv_icmp_ge (tgt := 95) hx hb dX7_begins_88 (by decide) (fun c19 => ?_) (fun c19 => ?_)
                · skip
                  have hT2 := hT2.trans (if_pos c19)
                  try have hS := Eq.mp (if_pos c19) hS
                  refine lv_iconst (v := 0) hx hb dX7_begins_95 (by decide) ?_
                  refine lv_istore (lv' := [(6, .int 0), (5, .int ((C.1 0 ((4 * q1) + 1).toNatClampNeg) - (C.1 0 ((4 * v2_4) + 1).toNatClampNeg))), (4, .int v2_4), (3, .int v2_3), (0, .ref (ad 0)), (1, .int q1), (2, .int q2)]) hx hb dX7_begins_96 hl (by decide) rfl (fun ls hl => ?_)
                  refine lv_iload_n hx hb dX7_begins_98 rfl (lv_at hl 3 rfl) ?_
                  refine lv_if_eq (tgt := 126) hx hb dX7_begins_99 (by decide) (fun c20 => ?_) (fun c20 => ?_)
                  · skip
                    have hT2 := hT2.trans (if_pos c20)
                    try have hS := Eq.mp (if_pos c20) hS
                    refine lv_iconst (v := 0) hx hb dX7_begins_126 (by decide) ?_
                    refine lv_istore_n (lv' := [(3, .int 0), (6, .int 0), (5, .int ((C.1 0 ((4 * q1) + 1).toNatClampNeg) - (C.1 0 ((4 * v2_4) + 1).toNatClampNeg))), (4, .int v2_4), (0, .ref (ad 0)), (1, .int q1), (2, .int q2)]) hx hb dX7_begins_127 rfl hl (by decide) rfl (fun ls hl => ?_)
                    refine lv_iinc (v := (v2_4 + 1)) (lv' := [(4, .int (v2_4 + 1)), (3, .int 0), (6, .int 0), (5, .int ((C.1 0 ((4 * q1) + 1).toNatClampNeg) - (C.1 0 ((4 * v2_4) + 1).toNatClampNeg))), (0, .ref (ad 0)), (1, .int q1), (2, .int q2)]) hx hb dX7_begins_128 hl (k := 3) rfl rfl (by decide) rfl (fun ls hl => ?_)
                    refine lv_goto (tgt := 23) hx hb dX7_begins_131 (by decide) ?_
                    exact ih2 (v2_4 + 1) 0 (hF.trans (lp_l hT2)) (hLn2 _ hT2) (Or.inl rfl) _ _ ls (lv_sub hl [0, 1, 4, 5, 6] rfl) hw
                  · skip
                    have hT2 := hT2.trans (if_neg c20)
                    try have hS := Eq.mp (if_neg c20) hS
                    refine lv_aload_n hx hb dX7_begins_102 rfl (lv_at hl 4 rfl) ?_
                    refine g_get (v := .ref (ad 1)) (C := RX7) (T := TX7) (N := 16) (ci := 9) X inX7 hw 0 rfl rfl 1 (by decide) (List.mem_of_getElem? (i := 1) rfl) rfl rfl dX7_begins_103 ?_
                    refine lv_iconst (v := 4) hx hb dX7_begins_106 (by decide) ?_
                    refine lv_iload hx hb dX7_begins_107 (lv_at hl 2 rfl) ?_
                    refine lv_imul hx hb dX7_begins_109 ?_
                    refine lv_iconst (v := 0) hx hb dX7_begins_110 (by decide) ?_
                    refine lv_iadd hx hb dX7_begins_111 ?_
                    refine g_iald X hw 1 rfl hS.1 dX7_begins_112 ?_
                    have hS := hS.2
                    refine lv_iload_n hx hb dX7_begins_113 rfl (lv_at hl 6 rfl) ?_
                    refine lv_icmp_ne (tgt := 122) hx hb dX7_begins_114 (by decide) (fun c21 => ?_) (fun c21 => ?_)
                    · skip
                      have hT2 := hT2.trans (if_neg c21)
                      try have hS := Eq.mp (if_neg c21) hS
                      refine lv_iconst (v := 1) hx hb dX7_begins_122 (by decide) ?_
                      refine lv_goto (tgt := 127) hx hb dX7_begins_123 (by decide) ?_
                      refine lv_istore_n (lv' := [(3, .int 1), (6, .int 0), (5, .int ((C.1 0 ((4 * q1) + 1).toNatClampNeg) - (C.1 0 ((4 * v2_4) + 1).toNatClampNeg))), (4, .int v2_4), (0, .ref (ad 0)), (1, .int q1), (2, .int q2)]) hx hb dX7_begins_127 rfl hl (by decide) rfl (fun ls hl => ?_)
                      refine lv_iinc (v := (v2_4 + 1)) (lv' := [(4, .int (v2_4 + 1)), (3, .int 1), (6, .int 0), (5, .int ((C.1 0 ((4 * q1) + 1).toNatClampNeg) - (C.1 0 ((4 * v2_4) + 1).toNatClampNeg))), (0, .ref (ad 0)), (1, .int q1), (2, .int q2)]) hx hb dX7_begins_128 hl (k := 3) rfl rfl (by decide) rfl (fun ls hl => ?_)
                      refine lv_goto (tgt := 23) hx hb dX7_begins_131 (by decide) ?_
                      exact ih2 (v2_4 + 1) 1 (hF.trans (lp_l hT2)) (hLn2 _ hT2) (Or.inr rfl) _ _ ls (lv_sub hl [0, 1, 4, 5, 6] rfl) hw
                    · skip
                      have hT2 := hT2.trans (if_pos c21)
                      try have hS := Eq.mp (if_pos c21) hS
                      refine lv_iload hx hb dX7_begins_117 (lv_at hl 0 rfl) ?_
                      refine lv_if_ne (tgt := 126) hx hb dX7_begins_119 (by decide) (fun c => absurd (by decide) c) (fun _ => ?_)
                      refine lv_iconst (v := 1) hx hb dX7_begins_122 (by decide) ?_
                      refine lv_goto (tgt := 127) hx hb dX7_begins_123 (by decide) ?_
                      refine lv_istore_n (lv' := [(3, .int 1), (6, .int 0), (5, .int ((C.1 0 ((4 * q1) + 1).toNatClampNeg) - (C.1 0 ((4 * v2_4) + 1).toNatClampNeg))), (4, .int v2_4), (0, .ref (ad 0)), (1, .int q1), (2, .int q2)]) hx hb dX7_begins_127 rfl hl (by decide) rfl (fun ls hl => ?_)
                      refine lv_iinc (v := (v2_4 + 1)) (lv' := [(4, .int (v2_4 + 1)), (3, .int 1), (6, .int 0), (5, .int ((C.1 0 ((4 * q1) + 1).toNatClampNeg) - (C.1 0 ((4 * v2_4) + 1).toNatClampNeg))), (0, .ref (ad 0)), (1, .int q1), (2, .int q2)]) hx hb dX7_begins_128 hl (k := 3) rfl rfl (by decide) rfl (fun ls hl => ?_)
                      refine lv_goto (tgt := 23) hx hb dX7_begins_131 (by decide) ?_
                      exact ih2 (v2_4 + 1) 1 (hF.trans (lp_l hT2)) (hLn2 _ hT2) (Or.inr rfl) _ _ ls (lv_sub hl [0, 1, 4, 5, 6] rfl) hw
                · skip
                  have hT2 := hT2.trans (if_neg c19)
                  try have hS := Eq.mp (if_neg c19) hS
                  refine lv_iconst (v := 1) hx hb dX7_begins_91 (by decide) ?_
                  refine lv_goto (tgt := 96) hx hb dX7_begins_92 (by decide) ?_
                  refine lv_istore (lv' := [(6, .int 1), (5, .int ((C.1 0 ((4 * q1) + 1).toNatClampNeg) - (C.1 0 ((4 * v2_4) + 1).toNatClampNeg))), (4, .int v2_4), (3, .int v2_3), (0, .ref (ad 0)), (1, .int q1), (2, .int q2)]) hx hb dX7_begins_96 hl (by decide) rfl (fun ls hl => ?_)
                  refine lv_iload_n hx hb dX7_begins_98 rfl (lv_at hl 3 rfl) ?_
                  refine lv_if_eq (tgt := 126) hx hb dX7_begins_99 (by decide) (fun c22 => ?_) (fun c22 => ?_)
                  · skip
                    have hT2 := hT2.trans (if_pos c22)
                    try have hS := Eq.mp (if_pos c22) hS
                    refine lv_iconst (v := 0) hx hb dX7_begins_126 (by decide) ?_
                    refine lv_istore_n (lv' := [(3, .int 0), (6, .int 1), (5, .int ((C.1 0 ((4 * q1) + 1).toNatClampNeg) - (C.1 0 ((4 * v2_4) + 1).toNatClampNeg))), (4, .int v2_4), (0, .ref (ad 0)), (1, .int q1), (2, .int q2)]) hx hb dX7_begins_127 rfl hl (by decide) rfl (fun ls hl => ?_)
                    refine lv_iinc (v := (v2_4 + 1)) (lv' := [(4, .int (v2_4 + 1)), (3, .int 0), (6, .int 1), (5, .int ((C.1 0 ((4 * q1) + 1).toNatClampNeg) - (C.1 0 ((4 * v2_4) + 1).toNatClampNeg))), (0, .ref (ad 0)), (1, .int q1), (2, .int q2)]) hx hb dX7_begins_128 hl (k := 3) rfl rfl (by decide) rfl (fun ls hl => ?_)
                    refine lv_goto (tgt := 23) hx hb dX7_begins_131 (by decide) ?_
                    exact ih2 (v2_4 + 1) 0 (hF.trans (lp_l hT2)) (hLn2 _ hT2) (Or.inl rfl) _ _ ls (lv_sub hl [0, 1, 4, 5, 6] rfl) hw
                  · skip
                    have hT2 := hT2.trans (if_neg c22)
                    try have hS := Eq.mp (if_neg c22) hS
                    refine lv_aload_n hx hb dX7_begins_102 rfl (lv_at hl 4 rfl) ?_
                    refine g_get (v := .ref (ad 1)) (C := RX7) (T := TX7) (N := 16) (ci := 9) X inX7 hw 0 rfl rfl 1 (by decide) (List.mem_of_getElem? (i := 1) rfl) rfl rfl dX7_begins_103 ?_
                    refine lv_iconst (v := 4) hx hb dX7_begins_106 (by decide) ?_
                    refine lv_iload hx hb dX7_begins_107 (lv_at hl 2 rfl) ?_
                    refine lv_imul hx hb dX7_begins_109 ?_
                    refine lv_iconst (v := 0) hx hb dX7_begins_110 (by decide) ?_
                    refine lv_iadd hx hb dX7_begins_111 ?_
                    refine g_iald X hw 1 rfl hS.1 dX7_begins_112 ?_
                    have hS := hS.2
                    refine lv_iload_n hx hb dX7_begins_113 rfl (lv_at hl 6 rfl) ?_
                    refine lv_icmp_ne (tgt := 122) hx hb dX7_begins_114 (by decide) (fun c23 => ?_) (fun c23 => ?_)
                    · skip
                      have hT2 := hT2.trans (if_neg c23)
                      try have hS := Eq.mp (if_neg c23) hS
                      refine lv_iconst (v := 1) hx hb dX7_begins_122 (by decide) ?_
                      refine lv_goto (tgt := 127) hx hb dX7_begins_123 (by decide) ?_
                      refine lv_istore_n (lv' := [(3, .int 1), (6, .int 1), (5, .int ((C.1 0 ((4 * q1) + 1).toNatClampNeg) - (C.1 0 ((4 * v2_4) + 1).toNatClampNeg))), (4, .int v2_4), (0, .ref (ad 0)), (1, .int q1), (2, .int q2)]) hx hb dX7_begins_127 rfl hl (by decide) rfl (fun ls hl => ?_)
                      refine lv_iinc (v := (v2_4 + 1)) (lv' := [(4, .int (v2_4 + 1)), (3, .int 1), (6, .int 1), (5, .int ((C.1 0 ((4 * q1) + 1).toNatClampNeg) - (C.1 0 ((4 * v2_4) + 1).toNatClampNeg))), (0, .ref (ad 0)), (1, .int q1), (2, .int q2)]) hx hb dX7_begins_128 hl (k := 3) rfl rfl (by decide) rfl (fun ls hl => ?_)
                      refine lv_goto (tgt := 23) hx hb dX7_begins_131 (by decide) ?_
                      exact ih2 (v2_4 + 1) 1 (hF.trans (lp_l hT2)) (hLn2 _ hT2) (Or.inr rfl) _ _ ls (lv_sub hl [0, 1, 4, 5, 6] rfl) hw
                    · skip
                      have hT2 := hT2.trans (if_pos c23)
                      try have hS := Eq.mp (if_pos c23) hS
                      refine lv_iload hx hb dX7_begins_117 (lv_at hl 0 rfl) ?_
                      refine lv_if_ne (tgt := 126) hx hb dX7_begins_119 (by decide) (fun _ => ?_) (fun c => absurd c (by decide))
                      refine lv_iconst (v := 0) hx hb dX7_begins_126 (by decide) ?_
                      refine lv_istore_n (lv' := [(3, .int 0), (6, .int 1), (5, .int ((C.1 0 ((4 * q1) + 1).toNatClampNeg) - (C.1 0 ((4 * v2_4) + 1).toNatClampNeg))), (4, .int v2_4), (0, .ref (ad 0)), (1, .int q1), (2, .int q2)]) hx hb dX7_begins_127 rfl hl (by decide) rfl (fun ls hl => ?_)
                      refine lv_iinc (v := (v2_4 + 1)) (lv' := [(4, .int (v2_4 + 1)), (3, .int 0), (6, .int 1), (5, .int ((C.1 0 ((4 * q1) + 1).toNatClampNeg) - (C.1 0 ((4 * v2_4) + 1).toNatClampNeg))), (0, .ref (ad 0)), (1, .int q1), (2, .int q2)]) hx hb dX7_begins_128 hl (k := 3) rfl rfl (by decide) rfl (fun ls hl => ?_)
                      refine lv_goto (tgt := 23) hx hb dX7_begins_131 (by decide) ?_
                      exact ih2 (v2_4 + 1) 0 (hF.trans (lp_l hT2)) (hLn2 _ hT2) (Or.inl rfl) _ _ ls (lv_sub hl [0, 1, 4, 5, 6] rfl) hw
    exact L2 _ 0 0 hF hS (Or.inl rfl) _ _ ls (lv_sub hl [0, 1, 2, 3, 4] rfl) hw
  · skip
    have hF := hF.trans (if_pos c1)
    try have hS := Eq.mp (if_pos c1) hS
    refine lv_iconst (v := 1) hx hb dX7_begins_14 (by decide) ?_
    refine lv_goto (tgt := 19) hx hb dX7_begins_15 (by decide) ?_
    refine lv_istore_n (lv' := [(3, .int 1), (0, .ref (ad 0)), (1, .int q1), (2, .int q2)]) hx hb dX7_begins_19 rfl hl (by decide) rfl (fun ls hl => ?_)
    refine lv_iconst (v := 0) hx hb dX7_begins_20 (by decide) ?_
    refine lv_istore (lv' := [(4, .int 0), (3, .int 1), (0, .ref (ad 0)), (1, .int q1), (2, .int q2)]) hx hb dX7_begins_21 hl (by decide) rfl (fun ls hl => ?_)
    have L24 : ∀ (n24 : Nat) (v24_4 : Int32) (v24_3 : Int32), sp = lp (fun (z : Int32 × Int32) => st_X7_begins_23 q1 q2 C z.1 z.2) 0 n24 (v24_4, v24_3) → lpS (fun (z : Int32 × Int32) => st_X7_begins_23 q1 q2 C z.1 z.2) (fun (z : Int32 × Int32) => Sst_X7_begins_23 q1 q2 C z.1 z.2) n24 (v24_4, v24_3) → (v24_3 = 0 ∨ v24_3 = 1) → ∀ (H : Heap) (locs : List Loc) (ls : Array Slot), lv_has ls 7 [(4, .int v24_4), (3, .int v24_3), (0, .ref (ad 0)), (1, .int q1), (2, .int q2)] → gw D A s.heap (MW cy ad C ++ rest) H locs → W p l e rmX7_begins s m args below meth c H locs 0 0 Q (F0 m 23 ls []) := by
      intro n24
      induction n24 with
      | zero => intro v24_4 v24_3 hF hL zv24_3; exact False.elim hL
      | succ n24 ih24 =>
        intro v24_4 v24_3 hF hL zv24_3 H locs ls hl hw
        have hT24 := st_X7_begins_23.eq_1 q1 q2 C v24_4 v24_3
        have hLn24 := hL.2
        have hS := Eq.mp (Sst_X7_begins_23.eq_1 q1 q2 C v24_4 v24_3) hL.1
        refine lv_iload hx hb dX7_begins_23 (lv_at hl 0 rfl) ?_
        refine lv_aload_n hx hb dX7_begins_25 rfl (lv_at hl 2 rfl) ?_
        refine g_get (v := .ref (ad 1)) (C := RX7) (T := TX7) (N := 16) (ci := 9) X inX7 hw 0 rfl rfl 1 (by decide) (List.mem_of_getElem? (i := 1) rfl) rfl rfl dX7_begins_26 ?_
        refine lv_sipush (v := 400) hx hb dX7_begins_29 (by decide) ?_
        refine g_ialdk (k := 400) rfl X hw 1 rfl (vk rfl) dX7_begins_32 ?_
        refine lv_icmp_ge (tgt := 134) hx hb dX7_begins_33 (by decide) (fun c25 => ?_) (fun c25 => ?_)
        · skip
          have hT24 := hT24.trans (if_pos c25)
          try have hS := Eq.mp (if_pos c25) hS
          refine lv_iload_n hx hb dX7_begins_134 rfl (lv_at hl 1 rfl) ?_
          exact hret _ _ () _ _ _ dX7_begins_135 zv24_3 ⟨(hF.trans (lp_r hT24)).symm.trans hsp, zv24_3⟩ hw
        · skip
          have hT24 := hT24.trans (if_neg c25)
          try have hS := Eq.mp (if_neg c25) hS
          refine lv_aload_n hx hb dX7_begins_36 rfl (lv_at hl 2 rfl) ?_
          refine g_get (v := .ref (ad 1)) (C := RX7) (T := TX7) (N := 16) (ci := 9) X inX7 hw 0 rfl rfl 1 (by decide) (List.mem_of_getElem? (i := 1) rfl) rfl rfl dX7_begins_37 ?_
          refine lv_iconst (v := 4) hx hb dX7_begins_40 (by decide) ?_
          refine lv_iload_n hx hb dX7_begins_41 rfl (lv_at hl 3 rfl) ?_
          refine lv_imul hx hb dX7_begins_42 ?_
          refine lv_iconst (v := 1) hx hb dX7_begins_43 (by decide) ?_
          refine lv_iadd hx hb dX7_begins_44 ?_
          refine g_iald X hw 1 rfl hS.1 dX7_begins_45 ?_
          have hS := hS.2
          refine lv_aload_n hx hb dX7_begins_46 rfl (lv_at hl 2 rfl) ?_
          refine g_get (v := .ref (ad 1)) (C := RX7) (T := TX7) (N := 16) (ci := 9) X inX7 hw 0 rfl rfl 1 (by decide) (List.mem_of_getElem? (i := 1) rfl) rfl rfl dX7_begins_47 ?_
          refine lv_iconst (v := 4) hx hb dX7_begins_50 (by decide) ?_
          refine lv_iload hx hb dX7_begins_51 (lv_at hl 0 rfl) ?_
          refine lv_imul hx hb dX7_begins_53 ?_
          refine lv_iconst (v := 1) hx hb dX7_begins_54 (by decide) ?_
          refine lv_iadd hx hb dX7_begins_55 ?_
          refine g_iald X hw 1 rfl hS.1 dX7_begins_56 ?_
          have hS := hS.2
          refine lv_isub hx hb dX7_begins_57 ?_
          refine lv_istore (lv' := [(5, .int ((C.1 0 ((4 * q1) + 1).toNatClampNeg) - (C.1 0 ((4 * v24_4) + 1).toNatClampNeg))), (4, .int v24_4), (3, .int v24_3), (0, .ref (ad 0)), (1, .int q1), (2, .int q2)]) hx hb dX7_begins_58 hl (by decide) rfl (fun ls hl => ?_)
          refine lv_iload hx hb dX7_begins_60 (lv_at hl 0 rfl) ?_
          refine lv_if_le (tgt := 80) hx hb dX7_begins_62 (by decide) (fun c26 => ?_) (fun c26 => ?_)
          · skip
            have hT24 := hT24.trans (if_pos c26)
            try have hS := Eq.mp (if_pos c26) hS
            refine lv_iload hx hb dX7_begins_80 (lv_at hl 0 rfl) ?_
            refine lv_if_ne (tgt := 95) hx hb dX7_begins_82 (by decide) (fun c27 => ?_) (fun c27 => ?_)
            · skip
              have hT24 := hT24.trans (if_neg c27)
              try have hS := Eq.mp (if_neg c27) hS
              refine lv_iconst (v := 0) hx hb dX7_begins_95 (by decide) ?_
              refine lv_istore (lv' := [(6, .int 0), (5, .int ((C.1 0 ((4 * q1) + 1).toNatClampNeg) - (C.1 0 ((4 * v24_4) + 1).toNatClampNeg))), (4, .int v24_4), (3, .int v24_3), (0, .ref (ad 0)), (1, .int q1), (2, .int q2)]) hx hb dX7_begins_96 hl (by decide) rfl (fun ls hl => ?_)
              refine lv_iload_n hx hb dX7_begins_98 rfl (lv_at hl 3 rfl) ?_
              refine lv_if_eq (tgt := 126) hx hb dX7_begins_99 (by decide) (fun c28 => ?_) (fun c28 => ?_)
              · skip
                have hT24 := hT24.trans (if_pos c28)
                try have hS := Eq.mp (if_pos c28) hS
                refine lv_iconst (v := 0) hx hb dX7_begins_126 (by decide) ?_
                refine lv_istore_n (lv' := [(3, .int 0), (6, .int 0), (5, .int ((C.1 0 ((4 * q1) + 1).toNatClampNeg) - (C.1 0 ((4 * v24_4) + 1).toNatClampNeg))), (4, .int v24_4), (0, .ref (ad 0)), (1, .int q1), (2, .int q2)]) hx hb dX7_begins_127 rfl hl (by decide) rfl (fun ls hl => ?_)
                refine lv_iinc (v := (v24_4 + 1)) (lv' := [(4, .int (v24_4 + 1)), (3, .int 0), (6, .int 0), (5, .int ((C.1 0 ((4 * q1) + 1).toNatClampNeg) - (C.1 0 ((4 * v24_4) + 1).toNatClampNeg))), (0, .ref (ad 0)), (1, .int q1), (2, .int q2)]) hx hb dX7_begins_128 hl (k := 3) rfl rfl (by decide) rfl (fun ls hl => ?_)
                refine lv_goto (tgt := 23) hx hb dX7_begins_131 (by decide) ?_
                exact ih24 (v24_4 + 1) 0 (hF.trans (lp_l hT24)) (hLn24 _ hT24) (Or.inl rfl) _ _ ls (lv_sub hl [0, 1, 4, 5, 6] rfl) hw
              · skip
                have hT24 := hT24.trans (if_neg c28)
                try have hS := Eq.mp (if_neg c28) hS
                refine lv_aload_n hx hb dX7_begins_102 rfl (lv_at hl 4 rfl) ?_
                refine g_get (v := .ref (ad 1)) (C := RX7) (T := TX7) (N := 16) (ci := 9) X inX7 hw 0 rfl rfl 1 (by decide) (List.mem_of_getElem? (i := 1) rfl) rfl rfl dX7_begins_103 ?_
                refine lv_iconst (v := 4) hx hb dX7_begins_106 (by decide) ?_
                refine lv_iload hx hb dX7_begins_107 (lv_at hl 2 rfl) ?_
                refine lv_imul hx hb dX7_begins_109 ?_
                refine lv_iconst (v := 0) hx hb dX7_begins_110 (by decide) ?_
                refine lv_iadd hx hb dX7_begins_111 ?_
                refine g_iald X hw 1 rfl hS.1 dX7_begins_112 ?_
                have hS := hS.2
                refine lv_iload_n hx hb dX7_begins_113 rfl (lv_at hl 6 rfl) ?_
                refine lv_icmp_ne (tgt := 122) hx hb dX7_begins_114 (by decide) (fun c29 => ?_) (fun c29 => ?_)
                · skip
                  have hT24 := hT24.trans (if_neg c29)
                  try have hS := Eq.mp (if_neg c29) hS
                  refine lv_iconst (v := 1) hx hb dX7_begins_122 (by decide) ?_
                  refine lv_goto (tgt := 127) hx hb dX7_begins_123 (by decide) ?_
                  refine lv_istore_n (lv' := [(3, .int 1), (6, .int 0), (5, .int ((C.1 0 ((4 * q1) + 1).toNatClampNeg) - (C.1 0 ((4 * v24_4) + 1).toNatClampNeg))), (4, .int v24_4), (0, .ref (ad 0)), (1, .int q1), (2, .int q2)]) hx hb dX7_begins_127 rfl hl (by decide) rfl (fun ls hl => ?_)
                  refine lv_iinc (v := (v24_4 + 1)) (lv' := [(4, .int (v24_4 + 1)), (3, .int 1), (6, .int 0), (5, .int ((C.1 0 ((4 * q1) + 1).toNatClampNeg) - (C.1 0 ((4 * v24_4) + 1).toNatClampNeg))), (0, .ref (ad 0)), (1, .int q1), (2, .int q2)]) hx hb dX7_begins_128 hl (k := 3) rfl rfl (by decide) rfl (fun ls hl => ?_)
                  refine lv_goto (tgt := 23) hx hb dX7_begins_131 (by decide) ?_
                  exact ih24 (v24_4 + 1) 1 (hF.trans (lp_l hT24)) (hLn24 _ hT24) (Or.inr rfl) _ _ ls (lv_sub hl [0, 1, 4, 5, 6] rfl) hw
                · skip
                  have hT24 := hT24.trans (if_pos c29)
                  try have hS := Eq.mp (if_pos c29) hS
                  refine lv_iload hx hb dX7_begins_117 (lv_at hl 0 rfl) ?_
                  refine lv_if_ne (tgt := 126) hx hb dX7_begins_119 (by decide) (fun c => absurd (by decide) c) (fun _ => ?_)
                  refine lv_iconst (v := 1) hx hb dX7_begins_122 (by decide) ?_
                  refine lv_goto (tgt := 127) hx hb dX7_begins_123 (by decide) ?_
                  refine lv_istore_n (lv' := [(3, .int 1), (6, .int 0), (5, .int ((C.1 0 ((4 * q1) + 1).toNatClampNeg) - (C.1 0 ((4 * v24_4) + 1).toNatClampNeg))), (4, .int v24_4), (0, .ref (ad 0)), (1, .int q1), (2, .int q2)]) hx hb dX7_begins_127 rfl hl (by decide) rfl (fun ls hl => ?_)
                  refine lv_iinc (v := (v24_4 + 1)) (lv' := [(4, .int (v24_4 + 1)), (3, .int 1), (6, .int 0), (5, .int ((C.1 0 ((4 * q1) + 1).toNatClampNeg) - (C.1 0 ((4 * v24_4) + 1).toNatClampNeg))), (0, .ref (ad 0)), (1, .int q1), (2, .int q2)]) hx hb dX7_begins_128 hl (k := 3) rfl rfl (by decide) rfl (fun ls hl => ?_)
                  refine lv_goto (tgt := 23) hx hb dX7_begins_131 (by decide) ?_
                  exact ih24 (v24_4 + 1) 1 (hF.trans (lp_l hT24)) (hLn24 _ hT24) (Or.inr rfl) _ _ ls (lv_sub hl [0, 1, 4, 5, 6] rfl) hw
            · skip
              have hT24 := hT24.trans (if_pos c27)
              try have hS := Eq.mp (if_pos c27) hS
              refine lv_iload hx hb dX7_begins_85 (lv_at hl 1 rfl) ?_
              refine lv_iload_n hx hb dX7_begins_87 rfl (lv_at hl 4 rfl) ?_
              refine lv_icmp_ge (tgt := 95) hx hb dX7_begins_88 (by decide) (fun c30 => ?_) (fun c30 => ?_)
              · skip
                have hT24 := hT24.trans (if_pos c30)
                try have hS := Eq.mp (if_pos c30) hS
                refine lv_iconst (v := 0) hx hb dX7_begins_95 (by decide) ?_
                refine lv_istore (lv' := [(6, .int 0), (5, .int ((C.1 0 ((4 * q1) + 1).toNatClampNeg) - (C.1 0 ((4 * v24_4) + 1).toNatClampNeg))), (4, .int v24_4), (3, .int v24_3), (0, .ref (ad 0)), (1, .int q1), (2, .int q2)]) hx hb dX7_begins_96 hl (by decide) rfl (fun ls hl => ?_)
                refine lv_iload_n hx hb dX7_begins_98 rfl (lv_at hl 3 rfl) ?_
                refine lv_if_eq (tgt := 126) hx hb dX7_begins_99 (by decide) (fun c31 => ?_) (fun c31 => ?_)
                · skip
                  have hT24 := hT24.trans (if_pos c31)
                  try have hS := Eq.mp (if_pos c31) hS
                  refine lv_iconst (v := 0) hx hb dX7_begins_126 (by decide) ?_
                  refine lv_istore_n (lv' := [(3, .int 0), (6, .int 0), (5, .int ((C.1 0 ((4 * q1) + 1).toNatClampNeg) - (C.1 0 ((4 * v24_4) + 1).toNatClampNeg))), (4, .int v24_4), (0, .ref (ad 0)), (1, .int q1), (2, .int q2)]) hx hb dX7_begins_127 rfl hl (by decide) rfl (fun ls hl => ?_)
                  refine lv_iinc (v := (v24_4 + 1)) (lv' := [(4, .int (v24_4 + 1)), (3, .int 0), (6, .int 0), (5, .int ((C.1 0 ((4 * q1) + 1).toNatClampNeg) - (C.1 0 ((4 * v24_4) + 1).toNatClampNeg))), (0, .ref (ad 0)), (1, .int q1), (2, .int q2)]) hx hb dX7_begins_128 hl (k := 3) rfl rfl (by decide) rfl (fun ls hl => ?_)
                  refine lv_goto (tgt := 23) hx hb dX7_begins_131 (by decide) ?_
                  exact ih24 (v24_4 + 1) 0 (hF.trans (lp_l hT24)) (hLn24 _ hT24) (Or.inl rfl) _ _ ls (lv_sub hl [0, 1, 4, 5, 6] rfl) hw
                · skip
                  have hT24 := hT24.trans (if_neg c31)
                  try have hS := Eq.mp (if_neg c31) hS
                  refine lv_aload_n hx hb dX7_begins_102 rfl (lv_at hl 4 rfl) ?_
                  refine g_get (v := .ref (ad 1)) (C := RX7) (T := TX7) (N := 16) (ci := 9) X inX7 hw 0 rfl rfl 1 (by decide) (List.mem_of_getElem? (i := 1) rfl) rfl rfl dX7_begins_103 ?_
                  refine lv_iconst (v := 4) hx hb dX7_begins_106 (by decide) ?_
                  refine lv_iload hx hb dX7_begins_107 (lv_at hl 2 rfl) ?_
                  refine lv_imul hx hb dX7_begins_109 ?_
                  refine lv_iconst (v := 0) hx hb dX7_begins_110 (by decide) ?_
                  refine lv_iadd hx hb dX7_begins_111 ?_
                  refine g_iald X hw 1 rfl hS.1 dX7_begins_112 ?_
                  have hS := hS.2
                  refine lv_iload_n hx hb dX7_begins_113 rfl (lv_at hl 6 rfl) ?_
                  refine lv_icmp_ne (tgt := 122) hx hb dX7_begins_114 (by decide) (fun c32 => ?_) (fun c32 => ?_)
                  · skip
                    have hT24 := hT24.trans (if_neg c32)
                    try have hS := Eq.mp (if_neg c32) hS
                    refine lv_iconst (v := 1) hx hb dX7_begins_122 (by decide) ?_
                    refine lv_goto (tgt := 127) hx hb dX7_begins_123 (by decide) ?_
                    refine lv_istore_n (lv' := [(3, .int 1), (6, .int 0), (5, .int ((C.1 0 ((4 * q1) + 1).toNatClampNeg) - (C.1 0 ((4 * v24_4) + 1).toNatClampNeg))), (4, .int v24_4), (0, .ref (ad 0)), (1, .int q1), (2, .int q2)]) hx hb dX7_begins_127 rfl hl (by decide) rfl (fun ls hl => ?_)
                    refine lv_iinc (v := (v24_4 + 1)) (lv' := [(4, .int (v24_4 + 1)), (3, .int 1), (6, .int 0), (5, .int ((C.1 0 ((4 * q1) + 1).toNatClampNeg) - (C.1 0 ((4 * v24_4) + 1).toNatClampNeg))), (0, .ref (ad 0)), (1, .int q1), (2, .int q2)]) hx hb dX7_begins_128 hl (k := 3) rfl rfl (by decide) rfl (fun ls hl => ?_)
                    refine lv_goto (tgt := 23) hx hb dX7_begins_131 (by decide) ?_
                    exact ih24 (v24_4 + 1) 1 (hF.trans (lp_l hT24)) (hLn24 _ hT24) (Or.inr rfl) _ _ ls (lv_sub hl [0, 1, 4, 5, 6] rfl) hw
                  · skip
                    have hT24 := hT24.trans (if_pos c32)
                    try have hS := Eq.mp (if_pos c32) hS
                    refine lv_iload hx hb dX7_begins_117 (lv_at hl 0 rfl) ?_
                    refine lv_if_ne (tgt := 126) hx hb dX7_begins_119 (by decide) (fun c => absurd (by decide) c) (fun _ => ?_)
                    refine lv_iconst (v := 1) hx hb dX7_begins_122 (by decide) ?_
                    refine lv_goto (tgt := 127) hx hb dX7_begins_123 (by decide) ?_
                    refine lv_istore_n (lv' := [(3, .int 1), (6, .int 0), (5, .int ((C.1 0 ((4 * q1) + 1).toNatClampNeg) - (C.1 0 ((4 * v24_4) + 1).toNatClampNeg))), (4, .int v24_4), (0, .ref (ad 0)), (1, .int q1), (2, .int q2)]) hx hb dX7_begins_127 rfl hl (by decide) rfl (fun ls hl => ?_)
                    refine lv_iinc (v := (v24_4 + 1)) (lv' := [(4, .int (v24_4 + 1)), (3, .int 1), (6, .int 0), (5, .int ((C.1 0 ((4 * q1) + 1).toNatClampNeg) - (C.1 0 ((4 * v24_4) + 1).toNatClampNeg))), (0, .ref (ad 0)), (1, .int q1), (2, .int q2)]) hx hb dX7_begins_128 hl (k := 3) rfl rfl (by decide) rfl (fun ls hl => ?_)
                    refine lv_goto (tgt := 23) hx hb dX7_begins_131 (by decide) ?_
                    exact ih24 (v24_4 + 1) 1 (hF.trans (lp_l hT24)) (hLn24 _ hT24) (Or.inr rfl) _ _ ls (lv_sub hl [0, 1, 4, 5, 6] rfl) hw
              · skip
                have hT24 := hT24.trans (if_neg c30)
                try have hS := Eq.mp (if_neg c30) hS
                refine lv_iconst (v := 1) hx hb dX7_begins_91 (by decide) ?_
                refine lv_goto (tgt := 96) hx hb dX7_begins_92 (by decide) ?_
                refine lv_istore (lv' := [(6, .int 1), (5, .int ((C.1 0 ((4 * q1) + 1).toNatClampNeg) - (C.1 0 ((4 * v24_4) + 1).toNatClampNeg))), (4, .int v24_4), (3, .int v24_3), (0, .ref (ad 0)), (1, .int q1), (2, .int q2)]) hx hb dX7_begins_96 hl (by decide) rfl (fun ls hl => ?_)
                refine lv_iload_n hx hb dX7_begins_98 rfl (lv_at hl 3 rfl) ?_
                refine lv_if_eq (tgt := 126) hx hb dX7_begins_99 (by decide) (fun c33 => ?_) (fun c33 => ?_)
                · skip
                  have hT24 := hT24.trans (if_pos c33)
                  try have hS := Eq.mp (if_pos c33) hS
                  refine lv_iconst (v := 0) hx hb dX7_begins_126 (by decide) ?_
                  refine lv_istore_n (lv' := [(3, .int 0), (6, .int 1), (5, .int ((C.1 0 ((4 * q1) + 1).toNatClampNeg) - (C.1 0 ((4 * v24_4) + 1).toNatClampNeg))), (4, .int v24_4), (0, .ref (ad 0)), (1, .int q1), (2, .int q2)]) hx hb dX7_begins_127 rfl hl (by decide) rfl (fun ls hl => ?_)
                  refine lv_iinc (v := (v24_4 + 1)) (lv' := [(4, .int (v24_4 + 1)), (3, .int 0), (6, .int 1), (5, .int ((C.1 0 ((4 * q1) + 1).toNatClampNeg) - (C.1 0 ((4 * v24_4) + 1).toNatClampNeg))), (0, .ref (ad 0)), (1, .int q1), (2, .int q2)]) hx hb dX7_begins_128 hl (k := 3) rfl rfl (by decide) rfl (fun ls hl => ?_)
                  refine lv_goto (tgt := 23) hx hb dX7_begins_131 (by decide) ?_
                  exact ih24 (v24_4 + 1) 0 (hF.trans (lp_l hT24)) (hLn24 _ hT24) (Or.inl rfl) _ _ ls (lv_sub hl [0, 1, 4, 5, 6] rfl) hw
                · skip
                  have hT24 := hT24.trans (if_neg c33)
                  try have hS := Eq.mp (if_neg c33) hS
                  refine lv_aload_n hx hb dX7_begins_102 rfl (lv_at hl 4 rfl) ?_
                  refine g_get (v := .ref (ad 1)) (C := RX7) (T := TX7) (N := 16) (ci := 9) X inX7 hw 0 rfl rfl 1 (by decide) (List.mem_of_getElem? (i := 1) rfl) rfl rfl dX7_begins_103 ?_
                  refine lv_iconst (v := 4) hx hb dX7_begins_106 (by decide) ?_
                  refine lv_iload hx hb dX7_begins_107 (lv_at hl 2 rfl) ?_
                  refine lv_imul hx hb dX7_begins_109 ?_
                  refine lv_iconst (v := 0) hx hb dX7_begins_110 (by decide) ?_
                  refine lv_iadd hx hb dX7_begins_111 ?_
                  refine g_iald X hw 1 rfl hS.1 dX7_begins_112 ?_
                  have hS := hS.2
                  refine lv_iload_n hx hb dX7_begins_113 rfl (lv_at hl 6 rfl) ?_
                  refine lv_icmp_ne (tgt := 122) hx hb dX7_begins_114 (by decide) (fun c34 => ?_) (fun c34 => ?_)
                  · skip
                    have hT24 := hT24.trans (if_neg c34)
                    try have hS := Eq.mp (if_neg c34) hS
                    refine lv_iconst (v := 1) hx hb dX7_begins_122 (by decide) ?_
                    refine lv_goto (tgt := 127) hx hb dX7_begins_123 (by decide) ?_
                    refine lv_istore_n (lv' := [(3, .int 1), (6, .int 1), (5, .int ((C.1 0 ((4 * q1) + 1).toNatClampNeg) - (C.1 0 ((4 * v24_4) + 1).toNatClampNeg))), (4, .int v24_4), (0, .ref (ad 0)), (1, .int q1), (2, .int q2)]) hx hb dX7_begins_127 rfl hl (by decide) rfl (fun ls hl => ?_)
                    refine lv_iinc (v := (v24_4 + 1)) (lv' := [(4, .int (v24_4 + 1)), (3, .int 1), (6, .int 1), (5, .int ((C.1 0 ((4 * q1) + 1).toNatClampNeg) - (C.1 0 ((4 * v24_4) + 1).toNatClampNeg))), (0, .ref (ad 0)), (1, .int q1), (2, .int q2)]) hx hb dX7_begins_128 hl (k := 3) rfl rfl (by decide) rfl (fun ls hl => ?_)
                    refine lv_goto (tgt := 23) hx hb dX7_begins_131 (by decide) ?_
                    exact ih24 (v24_4 + 1) 1 (hF.trans (lp_l hT24)) (hLn24 _ hT24) (Or.inr rfl) _ _ ls (lv_sub hl [0, 1, 4, 5, 6] rfl) hw
                  · skip
                    have hT24 := hT24.trans (if_pos c34)
                    try have hS := Eq.mp (if_pos c34) hS
                    refine lv_iload hx hb dX7_begins_117 (lv_at hl 0 rfl) ?_
                    refine lv_if_ne (tgt := 126) hx hb dX7_begins_119 (by decide) (fun _ => ?_) (fun c => absurd c (by decide))
                    refine lv_iconst (v := 0) hx hb dX7_begins_126 (by decide) ?_
                    refine lv_istore_n (lv' := [(3, .int 0), (6, .int 1), (5, .int ((C.1 0 ((4 * q1) + 1).toNatClampNeg) - (C.1 0 ((4 * v24_4) + 1).toNatClampNeg))), (4, .int v24_4), (0, .ref (ad 0)), (1, .int q1), (2, .int q2)]) hx hb dX7_begins_127 rfl hl (by decide) rfl (fun ls hl => ?_)
                    refine lv_iinc (v := (v24_4 + 1)) (lv' := [(4, .int (v24_4 + 1)), (3, .int 0), (6, .int 1), (5, .int ((C.1 0 ((4 * q1) + 1).toNatClampNeg) - (C.1 0 ((4 * v24_4) + 1).toNatClampNeg))), (0, .ref (ad 0)), (1, .int q1), (2, .int q2)]) hx hb dX7_begins_128 hl (k := 3) rfl rfl (by decide) rfl (fun ls hl => ?_)
                    refine lv_goto (tgt := 23) hx hb dX7_begins_131 (by decide) ?_
                    exact ih24 (v24_4 + 1) 0 (hF.trans (lp_l hT24)) (hLn24 _ hT24) (Or.inl rfl) _ _ ls (lv_sub hl [0, 1, 4, 5, 6] rfl) hw
          · skip
            have hT24 := hT24.trans (if_neg c26)
            try have hS := Eq.mp (if_neg c26) hS
            refine lv_iload hx hb dX7_begins_65 (lv_at hl 0 rfl) ?_
            refine lv_aload_n hx hb dX7_begins_67 rfl (lv_at hl 3 rfl) ?_
            refine g_get (v := .ref (ad 1)) (C := RX7) (T := TX7) (N := 16) (ci := 9) X inX7 hw 0 rfl rfl 1 (by decide) (List.mem_of_getElem? (i := 1) rfl) rfl rfl dX7_begins_68 ?_
            refine lv_sipush (v := 1402) hx hb dX7_begins_71 (by decide) ?_
            refine lv_iload_n hx hb dX7_begins_74 rfl (lv_at hl 5 rfl) ?_
            refine lv_iadd hx hb dX7_begins_75 ?_
            refine g_iald X hw 1 rfl hS.1 dX7_begins_76 ?_
            have hS := hS.2
            refine lv_icmp_le (tgt := 91) hx hb dX7_begins_77 (by decide) (fun c35 => ?_) (fun c35 => ?_)
            · skip
              have hT24 := hT24.trans (if_pos c35)
              try have hS := Eq.mp (if_pos c35) hS
              refine lv_iconst (v := 1) hx hb dX7_begins_91 (by decide) ?_
              refine lv_goto (tgt := 96) hx hb dX7_begins_92 (by decide) ?_
              refine lv_istore (lv' := [(6, .int 1), (5, .int ((C.1 0 ((4 * q1) + 1).toNatClampNeg) - (C.1 0 ((4 * v24_4) + 1).toNatClampNeg))), (4, .int v24_4), (3, .int v24_3), (0, .ref (ad 0)), (1, .int q1), (2, .int q2)]) hx hb dX7_begins_96 hl (by decide) rfl (fun ls hl => ?_)
              refine lv_iload_n hx hb dX7_begins_98 rfl (lv_at hl 3 rfl) ?_
              refine lv_if_eq (tgt := 126) hx hb dX7_begins_99 (by decide) (fun c36 => ?_) (fun c36 => ?_)
              · skip
                have hT24 := hT24.trans (if_pos c36)
                try have hS := Eq.mp (if_pos c36) hS
                refine lv_iconst (v := 0) hx hb dX7_begins_126 (by decide) ?_
                refine lv_istore_n (lv' := [(3, .int 0), (6, .int 1), (5, .int ((C.1 0 ((4 * q1) + 1).toNatClampNeg) - (C.1 0 ((4 * v24_4) + 1).toNatClampNeg))), (4, .int v24_4), (0, .ref (ad 0)), (1, .int q1), (2, .int q2)]) hx hb dX7_begins_127 rfl hl (by decide) rfl (fun ls hl => ?_)
                refine lv_iinc (v := (v24_4 + 1)) (lv' := [(4, .int (v24_4 + 1)), (3, .int 0), (6, .int 1), (5, .int ((C.1 0 ((4 * q1) + 1).toNatClampNeg) - (C.1 0 ((4 * v24_4) + 1).toNatClampNeg))), (0, .ref (ad 0)), (1, .int q1), (2, .int q2)]) hx hb dX7_begins_128 hl (k := 3) rfl rfl (by decide) rfl (fun ls hl => ?_)
                refine lv_goto (tgt := 23) hx hb dX7_begins_131 (by decide) ?_
                exact ih24 (v24_4 + 1) 0 (hF.trans (lp_l hT24)) (hLn24 _ hT24) (Or.inl rfl) _ _ ls (lv_sub hl [0, 1, 4, 5, 6] rfl) hw
              · skip
                have hT24 := hT24.trans (if_neg c36)
                try have hS := Eq.mp (if_neg c36) hS
                refine lv_aload_n hx hb dX7_begins_102 rfl (lv_at hl 4 rfl) ?_
                refine g_get (v := .ref (ad 1)) (C := RX7) (T := TX7) (N := 16) (ci := 9) X inX7 hw 0 rfl rfl 1 (by decide) (List.mem_of_getElem? (i := 1) rfl) rfl rfl dX7_begins_103 ?_
                refine lv_iconst (v := 4) hx hb dX7_begins_106 (by decide) ?_
                refine lv_iload hx hb dX7_begins_107 (lv_at hl 2 rfl) ?_
                refine lv_imul hx hb dX7_begins_109 ?_
                refine lv_iconst (v := 0) hx hb dX7_begins_110 (by decide) ?_
                refine lv_iadd hx hb dX7_begins_111 ?_
                refine g_iald X hw 1 rfl hS.1 dX7_begins_112 ?_
                have hS := hS.2
                refine lv_iload_n hx hb dX7_begins_113 rfl (lv_at hl 6 rfl) ?_
                refine lv_icmp_ne (tgt := 122) hx hb dX7_begins_114 (by decide) (fun c37 => ?_) (fun c37 => ?_)
                · skip
                  have hT24 := hT24.trans (if_neg c37)
                  try have hS := Eq.mp (if_neg c37) hS
                  refine lv_iconst (v := 1) hx hb dX7_begins_122 (by decide) ?_
                  refine lv_goto (tgt := 127) hx hb dX7_begins_123 (by decide) ?_
                  refine lv_istore_n (lv' := [(3, .int 1), (6, .int 1), (5, .int ((C.1 0 ((4 * q1) + 1).toNatClampNeg) - (C.1 0 ((4 * v24_4) + 1).toNatClampNeg))), (4, .int v24_4), (0, .ref (ad 0)), (1, .int q1), (2, .int q2)]) hx hb dX7_begins_127 rfl hl (by decide) rfl (fun ls hl => ?_)
                  refine lv_iinc (v := (v24_4 + 1)) (lv' := [(4, .int (v24_4 + 1)), (3, .int 1), (6, .int 1), (5, .int ((C.1 0 ((4 * q1) + 1).toNatClampNeg) - (C.1 0 ((4 * v24_4) + 1).toNatClampNeg))), (0, .ref (ad 0)), (1, .int q1), (2, .int q2)]) hx hb dX7_begins_128 hl (k := 3) rfl rfl (by decide) rfl (fun ls hl => ?_)
                  refine lv_goto (tgt := 23) hx hb dX7_begins_131 (by decide) ?_
                  exact ih24 (v24_4 + 1) 1 (hF.trans (lp_l hT24)) (hLn24 _ hT24) (Or.inr rfl) _ _ ls (lv_sub hl [0, 1, 4, 5, 6] rfl) hw
                · skip
                  have hT24 := hT24.trans (if_pos c37)
                  try have hS := Eq.mp (if_pos c37) hS
                  refine lv_iload hx hb dX7_begins_117 (lv_at hl 0 rfl) ?_
                  refine lv_if_ne (tgt := 126) hx hb dX7_begins_119 (by decide) (fun _ => ?_) (fun c => absurd c (by decide))
                  refine lv_iconst (v := 0) hx hb dX7_begins_126 (by decide) ?_
                  refine lv_istore_n (lv' := [(3, .int 0), (6, .int 1), (5, .int ((C.1 0 ((4 * q1) + 1).toNatClampNeg) - (C.1 0 ((4 * v24_4) + 1).toNatClampNeg))), (4, .int v24_4), (0, .ref (ad 0)), (1, .int q1), (2, .int q2)]) hx hb dX7_begins_127 rfl hl (by decide) rfl (fun ls hl => ?_)
                  refine lv_iinc (v := (v24_4 + 1)) (lv' := [(4, .int (v24_4 + 1)), (3, .int 0), (6, .int 1), (5, .int ((C.1 0 ((4 * q1) + 1).toNatClampNeg) - (C.1 0 ((4 * v24_4) + 1).toNatClampNeg))), (0, .ref (ad 0)), (1, .int q1), (2, .int q2)]) hx hb dX7_begins_128 hl (k := 3) rfl rfl (by decide) rfl (fun ls hl => ?_)
                  refine lv_goto (tgt := 23) hx hb dX7_begins_131 (by decide) ?_
                  exact ih24 (v24_4 + 1) 0 (hF.trans (lp_l hT24)) (hLn24 _ hT24) (Or.inl rfl) _ _ ls (lv_sub hl [0, 1, 4, 5, 6] rfl) hw
            · skip
              have hT24 := hT24.trans (if_neg c35)
              try have hS := Eq.mp (if_neg c35) hS
              refine lv_iload hx hb dX7_begins_80 (lv_at hl 0 rfl) ?_
              refine lv_if_ne (tgt := 95) hx hb dX7_begins_82 (by decide) (fun c38 => ?_) (fun c38 => ?_)
              · skip
                have hT24 := hT24.trans (if_neg c38)
                try have hS := Eq.mp (if_neg c38) hS
                refine lv_iconst (v := 0) hx hb dX7_begins_95 (by decide) ?_
                refine lv_istore (lv' := [(6, .int 0), (5, .int ((C.1 0 ((4 * q1) + 1).toNatClampNeg) - (C.1 0 ((4 * v24_4) + 1).toNatClampNeg))), (4, .int v24_4), (3, .int v24_3), (0, .ref (ad 0)), (1, .int q1), (2, .int q2)]) hx hb dX7_begins_96 hl (by decide) rfl (fun ls hl => ?_)
                refine lv_iload_n hx hb dX7_begins_98 rfl (lv_at hl 3 rfl) ?_
                refine lv_if_eq (tgt := 126) hx hb dX7_begins_99 (by decide) (fun c39 => ?_) (fun c39 => ?_)
                · skip
                  have hT24 := hT24.trans (if_pos c39)
                  try have hS := Eq.mp (if_pos c39) hS
                  refine lv_iconst (v := 0) hx hb dX7_begins_126 (by decide) ?_
                  refine lv_istore_n (lv' := [(3, .int 0), (6, .int 0), (5, .int ((C.1 0 ((4 * q1) + 1).toNatClampNeg) - (C.1 0 ((4 * v24_4) + 1).toNatClampNeg))), (4, .int v24_4), (0, .ref (ad 0)), (1, .int q1), (2, .int q2)]) hx hb dX7_begins_127 rfl hl (by decide) rfl (fun ls hl => ?_)
                  refine lv_iinc (v := (v24_4 + 1)) (lv' := [(4, .int (v24_4 + 1)), (3, .int 0), (6, .int 0), (5, .int ((C.1 0 ((4 * q1) + 1).toNatClampNeg) - (C.1 0 ((4 * v24_4) + 1).toNatClampNeg))), (0, .ref (ad 0)), (1, .int q1), (2, .int q2)]) hx hb dX7_begins_128 hl (k := 3) rfl rfl (by decide) rfl (fun ls hl => ?_)
                  refine lv_goto (tgt := 23) hx hb dX7_begins_131 (by decide) ?_
                  exact ih24 (v24_4 + 1) 0 (hF.trans (lp_l hT24)) (hLn24 _ hT24) (Or.inl rfl) _ _ ls (lv_sub hl [0, 1, 4, 5, 6] rfl) hw
                · skip
                  have hT24 := hT24.trans (if_neg c39)
                  try have hS := Eq.mp (if_neg c39) hS
                  refine lv_aload_n hx hb dX7_begins_102 rfl (lv_at hl 4 rfl) ?_
                  refine g_get (v := .ref (ad 1)) (C := RX7) (T := TX7) (N := 16) (ci := 9) X inX7 hw 0 rfl rfl 1 (by decide) (List.mem_of_getElem? (i := 1) rfl) rfl rfl dX7_begins_103 ?_
                  refine lv_iconst (v := 4) hx hb dX7_begins_106 (by decide) ?_
                  refine lv_iload hx hb dX7_begins_107 (lv_at hl 2 rfl) ?_
                  refine lv_imul hx hb dX7_begins_109 ?_
                  refine lv_iconst (v := 0) hx hb dX7_begins_110 (by decide) ?_
                  refine lv_iadd hx hb dX7_begins_111 ?_
                  refine g_iald X hw 1 rfl hS.1 dX7_begins_112 ?_
                  have hS := hS.2
                  refine lv_iload_n hx hb dX7_begins_113 rfl (lv_at hl 6 rfl) ?_
                  refine lv_icmp_ne (tgt := 122) hx hb dX7_begins_114 (by decide) (fun c40 => ?_) (fun c40 => ?_)
                  · skip
                    have hT24 := hT24.trans (if_neg c40)
                    try have hS := Eq.mp (if_neg c40) hS
                    refine lv_iconst (v := 1) hx hb dX7_begins_122 (by decide) ?_
                    refine lv_goto (tgt := 127) hx hb dX7_begins_123 (by decide) ?_
                    refine lv_istore_n (lv' := [(3, .int 1), (6, .int 0), (5, .int ((C.1 0 ((4 * q1) + 1).toNatClampNeg) - (C.1 0 ((4 * v24_4) + 1).toNatClampNeg))), (4, .int v24_4), (0, .ref (ad 0)), (1, .int q1), (2, .int q2)]) hx hb dX7_begins_127 rfl hl (by decide) rfl (fun ls hl => ?_)
                    refine lv_iinc (v := (v24_4 + 1)) (lv' := [(4, .int (v24_4 + 1)), (3, .int 1), (6, .int 0), (5, .int ((C.1 0 ((4 * q1) + 1).toNatClampNeg) - (C.1 0 ((4 * v24_4) + 1).toNatClampNeg))), (0, .ref (ad 0)), (1, .int q1), (2, .int q2)]) hx hb dX7_begins_128 hl (k := 3) rfl rfl (by decide) rfl (fun ls hl => ?_)
                    refine lv_goto (tgt := 23) hx hb dX7_begins_131 (by decide) ?_
                    exact ih24 (v24_4 + 1) 1 (hF.trans (lp_l hT24)) (hLn24 _ hT24) (Or.inr rfl) _ _ ls (lv_sub hl [0, 1, 4, 5, 6] rfl) hw
                  · skip
                    have hT24 := hT24.trans (if_pos c40)
                    try have hS := Eq.mp (if_pos c40) hS
                    refine lv_iload hx hb dX7_begins_117 (lv_at hl 0 rfl) ?_
                    refine lv_if_ne (tgt := 126) hx hb dX7_begins_119 (by decide) (fun c => absurd (by decide) c) (fun _ => ?_)
                    refine lv_iconst (v := 1) hx hb dX7_begins_122 (by decide) ?_
                    refine lv_goto (tgt := 127) hx hb dX7_begins_123 (by decide) ?_
                    refine lv_istore_n (lv' := [(3, .int 1), (6, .int 0), (5, .int ((C.1 0 ((4 * q1) + 1).toNatClampNeg) - (C.1 0 ((4 * v24_4) + 1).toNatClampNeg))), (4, .int v24_4), (0, .ref (ad 0)), (1, .int q1), (2, .int q2)]) hx hb dX7_begins_127 rfl hl (by decide) rfl (fun ls hl => ?_)
                    refine lv_iinc (v := (v24_4 + 1)) (lv' := [(4, .int (v24_4 + 1)), (3, .int 1), (6, .int 0), (5, .int ((C.1 0 ((4 * q1) + 1).toNatClampNeg) - (C.1 0 ((4 * v24_4) + 1).toNatClampNeg))), (0, .ref (ad 0)), (1, .int q1), (2, .int q2)]) hx hb dX7_begins_128 hl (k := 3) rfl rfl (by decide) rfl (fun ls hl => ?_)
                    refine lv_goto (tgt := 23) hx hb dX7_begins_131 (by decide) ?_
                    exact ih24 (v24_4 + 1) 1 (hF.trans (lp_l hT24)) (hLn24 _ hT24) (Or.inr rfl) _ _ ls (lv_sub hl [0, 1, 4, 5, 6] rfl) hw
              · skip
                have hT24 := hT24.trans (if_pos c38)
                try have hS := Eq.mp (if_pos c38) hS
                refine lv_iload hx hb dX7_begins_85 (lv_at hl 1 rfl) ?_
                refine lv_iload_n hx hb dX7_begins_87 rfl (lv_at hl 4 rfl) ?_
                refine lv_icmp_ge (tgt := 95) hx hb dX7_begins_88 (by decide) (fun c41 => ?_) (fun c41 => ?_)
                · skip
                  have hT24 := hT24.trans (if_pos c41)
                  try have hS := Eq.mp (if_pos c41) hS
                  refine lv_iconst (v := 0) hx hb dX7_begins_95 (by decide) ?_
                  refine lv_istore (lv' := [(6, .int 0), (5, .int ((C.1 0 ((4 * q1) + 1).toNatClampNeg) - (C.1 0 ((4 * v24_4) + 1).toNatClampNeg))), (4, .int v24_4), (3, .int v24_3), (0, .ref (ad 0)), (1, .int q1), (2, .int q2)]) hx hb dX7_begins_96 hl (by decide) rfl (fun ls hl => ?_)
                  refine lv_iload_n hx hb dX7_begins_98 rfl (lv_at hl 3 rfl) ?_
                  refine lv_if_eq (tgt := 126) hx hb dX7_begins_99 (by decide) (fun c42 => ?_) (fun c42 => ?_)
                  · skip
                    have hT24 := hT24.trans (if_pos c42)
                    try have hS := Eq.mp (if_pos c42) hS
                    refine lv_iconst (v := 0) hx hb dX7_begins_126 (by decide) ?_
                    refine lv_istore_n (lv' := [(3, .int 0), (6, .int 0), (5, .int ((C.1 0 ((4 * q1) + 1).toNatClampNeg) - (C.1 0 ((4 * v24_4) + 1).toNatClampNeg))), (4, .int v24_4), (0, .ref (ad 0)), (1, .int q1), (2, .int q2)]) hx hb dX7_begins_127 rfl hl (by decide) rfl (fun ls hl => ?_)
                    refine lv_iinc (v := (v24_4 + 1)) (lv' := [(4, .int (v24_4 + 1)), (3, .int 0), (6, .int 0), (5, .int ((C.1 0 ((4 * q1) + 1).toNatClampNeg) - (C.1 0 ((4 * v24_4) + 1).toNatClampNeg))), (0, .ref (ad 0)), (1, .int q1), (2, .int q2)]) hx hb dX7_begins_128 hl (k := 3) rfl rfl (by decide) rfl (fun ls hl => ?_)
                    refine lv_goto (tgt := 23) hx hb dX7_begins_131 (by decide) ?_
                    exact ih24 (v24_4 + 1) 0 (hF.trans (lp_l hT24)) (hLn24 _ hT24) (Or.inl rfl) _ _ ls (lv_sub hl [0, 1, 4, 5, 6] rfl) hw
                  · skip
                    have hT24 := hT24.trans (if_neg c42)
                    try have hS := Eq.mp (if_neg c42) hS
                    refine lv_aload_n hx hb dX7_begins_102 rfl (lv_at hl 4 rfl) ?_
                    refine g_get (v := .ref (ad 1)) (C := RX7) (T := TX7) (N := 16) (ci := 9) X inX7 hw 0 rfl rfl 1 (by decide) (List.mem_of_getElem? (i := 1) rfl) rfl rfl dX7_begins_103 ?_
                    refine lv_iconst (v := 4) hx hb dX7_begins_106 (by decide) ?_
                    refine lv_iload hx hb dX7_begins_107 (lv_at hl 2 rfl) ?_
                    refine lv_imul hx hb dX7_begins_109 ?_
                    refine lv_iconst (v := 0) hx hb dX7_begins_110 (by decide) ?_
                    refine lv_iadd hx hb dX7_begins_111 ?_
                    refine g_iald X hw 1 rfl hS.1 dX7_begins_112 ?_
                    have hS := hS.2
                    refine lv_iload_n hx hb dX7_begins_113 rfl (lv_at hl 6 rfl) ?_
                    refine lv_icmp_ne (tgt := 122) hx hb dX7_begins_114 (by decide) (fun c43 => ?_) (fun c43 => ?_)
                    · skip
                      have hT24 := hT24.trans (if_neg c43)
                      try have hS := Eq.mp (if_neg c43) hS
                      refine lv_iconst (v := 1) hx hb dX7_begins_122 (by decide) ?_
                      refine lv_goto (tgt := 127) hx hb dX7_begins_123 (by decide) ?_
                      refine lv_istore_n (lv' := [(3, .int 1), (6, .int 0), (5, .int ((C.1 0 ((4 * q1) + 1).toNatClampNeg) - (C.1 0 ((4 * v24_4) + 1).toNatClampNeg))), (4, .int v24_4), (0, .ref (ad 0)), (1, .int q1), (2, .int q2)]) hx hb dX7_begins_127 rfl hl (by decide) rfl (fun ls hl => ?_)
                      refine lv_iinc (v := (v24_4 + 1)) (lv' := [(4, .int (v24_4 + 1)), (3, .int 1), (6, .int 0), (5, .int ((C.1 0 ((4 * q1) + 1).toNatClampNeg) - (C.1 0 ((4 * v24_4) + 1).toNatClampNeg))), (0, .ref (ad 0)), (1, .int q1), (2, .int q2)]) hx hb dX7_begins_128 hl (k := 3) rfl rfl (by decide) rfl (fun ls hl => ?_)
                      refine lv_goto (tgt := 23) hx hb dX7_begins_131 (by decide) ?_
                      exact ih24 (v24_4 + 1) 1 (hF.trans (lp_l hT24)) (hLn24 _ hT24) (Or.inr rfl) _ _ ls (lv_sub hl [0, 1, 4, 5, 6] rfl) hw
                    · skip
                      have hT24 := hT24.trans (if_pos c43)
                      try have hS := Eq.mp (if_pos c43) hS
                      refine lv_iload hx hb dX7_begins_117 (lv_at hl 0 rfl) ?_
                      refine lv_if_ne (tgt := 126) hx hb dX7_begins_119 (by decide) (fun c => absurd (by decide) c) (fun _ => ?_)
                      refine lv_iconst (v := 1) hx hb dX7_begins_122 (by decide) ?_
                      refine lv_goto (tgt := 127) hx hb dX7_begins_123 (by decide) ?_
                      refine lv_istore_n (lv' := [(3, .int 1), (6, .int 0), (5, .int ((C.1 0 ((4 * q1) + 1).toNatClampNeg) - (C.1 0 ((4 * v24_4) + 1).toNatClampNeg))), (4, .int v24_4), (0, .ref (ad 0)), (1, .int q1), (2, .int q2)]) hx hb dX7_begins_127 rfl hl (by decide) rfl (fun ls hl => ?_)
                      refine lv_iinc (v := (v24_4 + 1)) (lv' := [(4, .int (v24_4 + 1)), (3, .int 1), (6, .int 0), (5, .int ((C.1 0 ((4 * q1) + 1).toNatClampNeg) - (C.1 0 ((4 * v24_4) + 1).toNatClampNeg))), (0, .ref (ad 0)), (1, .int q1), (2, .int q2)]) hx hb dX7_begins_128 hl (k := 3) rfl rfl (by decide) rfl (fun ls hl => ?_)
                      refine lv_goto (tgt := 23) hx hb dX7_begins_131 (by decide) ?_
                      exact ih24 (v24_4 + 1) 1 (hF.trans (lp_l hT24)) (hLn24 _ hT24) (Or.inr rfl) _ _ ls (lv_sub hl [0, 1, 4, 5, 6] rfl) hw
                · skip
                  have hT24 := hT24.trans (if_neg c41)
                  try have hS := Eq.mp (if_neg c41) hS
                  refine lv_iconst (v := 1) hx hb dX7_begins_91 (by decide) ?_
                  refine lv_goto (tgt := 96) hx hb dX7_begins_92 (by decide) ?_
                  refine lv_istore (lv' := [(6, .int 1), (5, .int ((C.1 0 ((4 * q1) + 1).toNatClampNeg) - (C.1 0 ((4 * v24_4) + 1).toNatClampNeg))), (4, .int v24_4), (3, .int v24_3), (0, .ref (ad 0)), (1, .int q1), (2, .int q2)]) hx hb dX7_begins_96 hl (by decide) rfl (fun ls hl => ?_)
                  refine lv_iload_n hx hb dX7_begins_98 rfl (lv_at hl 3 rfl) ?_
                  refine lv_if_eq (tgt := 126) hx hb dX7_begins_99 (by decide) (fun c44 => ?_) (fun c44 => ?_)
                  · skip
                    have hT24 := hT24.trans (if_pos c44)
                    try have hS := Eq.mp (if_pos c44) hS
                    refine lv_iconst (v := 0) hx hb dX7_begins_126 (by decide) ?_
                    refine lv_istore_n (lv' := [(3, .int 0), (6, .int 1), (5, .int ((C.1 0 ((4 * q1) + 1).toNatClampNeg) - (C.1 0 ((4 * v24_4) + 1).toNatClampNeg))), (4, .int v24_4), (0, .ref (ad 0)), (1, .int q1), (2, .int q2)]) hx hb dX7_begins_127 rfl hl (by decide) rfl (fun ls hl => ?_)
                    refine lv_iinc (v := (v24_4 + 1)) (lv' := [(4, .int (v24_4 + 1)), (3, .int 0), (6, .int 1), (5, .int ((C.1 0 ((4 * q1) + 1).toNatClampNeg) - (C.1 0 ((4 * v24_4) + 1).toNatClampNeg))), (0, .ref (ad 0)), (1, .int q1), (2, .int q2)]) hx hb dX7_begins_128 hl (k := 3) rfl rfl (by decide) rfl (fun ls hl => ?_)
                    refine lv_goto (tgt := 23) hx hb dX7_begins_131 (by decide) ?_
                    exact ih24 (v24_4 + 1) 0 (hF.trans (lp_l hT24)) (hLn24 _ hT24) (Or.inl rfl) _ _ ls (lv_sub hl [0, 1, 4, 5, 6] rfl) hw
                  · skip
                    have hT24 := hT24.trans (if_neg c44)
                    try have hS := Eq.mp (if_neg c44) hS
                    refine lv_aload_n hx hb dX7_begins_102 rfl (lv_at hl 4 rfl) ?_
                    refine g_get (v := .ref (ad 1)) (C := RX7) (T := TX7) (N := 16) (ci := 9) X inX7 hw 0 rfl rfl 1 (by decide) (List.mem_of_getElem? (i := 1) rfl) rfl rfl dX7_begins_103 ?_
                    refine lv_iconst (v := 4) hx hb dX7_begins_106 (by decide) ?_
                    refine lv_iload hx hb dX7_begins_107 (lv_at hl 2 rfl) ?_
                    refine lv_imul hx hb dX7_begins_109 ?_
                    refine lv_iconst (v := 0) hx hb dX7_begins_110 (by decide) ?_
                    refine lv_iadd hx hb dX7_begins_111 ?_
                    refine g_iald X hw 1 rfl hS.1 dX7_begins_112 ?_
                    have hS := hS.2
                    refine lv_iload_n hx hb dX7_begins_113 rfl (lv_at hl 6 rfl) ?_
                    refine lv_icmp_ne (tgt := 122) hx hb dX7_begins_114 (by decide) (fun c45 => ?_) (fun c45 => ?_)
                    · skip
                      have hT24 := hT24.trans (if_neg c45)
                      try have hS := Eq.mp (if_neg c45) hS
                      refine lv_iconst (v := 1) hx hb dX7_begins_122 (by decide) ?_
                      refine lv_goto (tgt := 127) hx hb dX7_begins_123 (by decide) ?_
                      refine lv_istore_n (lv' := [(3, .int 1), (6, .int 1), (5, .int ((C.1 0 ((4 * q1) + 1).toNatClampNeg) - (C.1 0 ((4 * v24_4) + 1).toNatClampNeg))), (4, .int v24_4), (0, .ref (ad 0)), (1, .int q1), (2, .int q2)]) hx hb dX7_begins_127 rfl hl (by decide) rfl (fun ls hl => ?_)
                      refine lv_iinc (v := (v24_4 + 1)) (lv' := [(4, .int (v24_4 + 1)), (3, .int 1), (6, .int 1), (5, .int ((C.1 0 ((4 * q1) + 1).toNatClampNeg) - (C.1 0 ((4 * v24_4) + 1).toNatClampNeg))), (0, .ref (ad 0)), (1, .int q1), (2, .int q2)]) hx hb dX7_begins_128 hl (k := 3) rfl rfl (by decide) rfl (fun ls hl => ?_)
                      refine lv_goto (tgt := 23) hx hb dX7_begins_131 (by decide) ?_
                      exact ih24 (v24_4 + 1) 1 (hF.trans (lp_l hT24)) (hLn24 _ hT24) (Or.inr rfl) _ _ ls (lv_sub hl [0, 1, 4, 5, 6] rfl) hw
                    · skip
                      have hT24 := hT24.trans (if_pos c45)
                      try have hS := Eq.mp (if_pos c45) hS
                      refine lv_iload hx hb dX7_begins_117 (lv_at hl 0 rfl) ?_
                      refine lv_if_ne (tgt := 126) hx hb dX7_begins_119 (by decide) (fun _ => ?_) (fun c => absurd c (by decide))
                      refine lv_iconst (v := 0) hx hb dX7_begins_126 (by decide) ?_
                      refine lv_istore_n (lv' := [(3, .int 0), (6, .int 1), (5, .int ((C.1 0 ((4 * q1) + 1).toNatClampNeg) - (C.1 0 ((4 * v24_4) + 1).toNatClampNeg))), (4, .int v24_4), (0, .ref (ad 0)), (1, .int q1), (2, .int q2)]) hx hb dX7_begins_127 rfl hl (by decide) rfl (fun ls hl => ?_)
                      refine lv_iinc (v := (v24_4 + 1)) (lv' := [(4, .int (v24_4 + 1)), (3, .int 0), (6, .int 1), (5, .int ((C.1 0 ((4 * q1) + 1).toNatClampNeg) - (C.1 0 ((4 * v24_4) + 1).toNatClampNeg))), (0, .ref (ad 0)), (1, .int q1), (2, .int q2)]) hx hb dX7_begins_128 hl (k := 3) rfl rfl (by decide) rfl (fun ls hl => ?_)
                      refine lv_goto (tgt := 23) hx hb dX7_begins_131 (by decide) ?_
                      exact ih24 (v24_4 + 1) 0 (hF.trans (lp_l hT24)) (hLn24 _ hT24) (Or.inl rfl) _ _ ls (lv_sub hl [0, 1, 4, 5, 6] rfl) hw
    exact L24 _ 0 1 hF hS (Or.inr rfl) _ _ ls (lv_sub hl [0, 1, 2, 3, 4] rfl) hw
theorem gy_X7_regrouped : gY yX7_regrouped RX7 cX7_regrouped 4 (some .int) wsX7_regrouped 1 := ⟨⟨_, rfl⟩, rfl, by decide +kernel, by decide +kernel, by decide +kernel⟩
def st_X7_regrouped_17 (q1 : Int32) (C : CS) (v4_3 : Int32) (v4_2 : Int32) : (Int32 × Int32) ⊕ (Int32 × CS) := (if (C.1 0 400) ≤ v4_3 then (bnd ((F_X7_done C v4_2).2) (fun u7 => (bnd ((F_X7_done C v4_2).1) (fun r6 => .inr ((r6, u7)))))) else (bnd (F_X7_begins C v4_3 q1) (fun r8 => (if r8 = 0 then .inl ((v4_3 + 1), (v4_2 + 0)) else .inl ((v4_3 + 1), (v4_2 + 1))))))
def Sst_X7_regrouped_17 (q1 : Int32) (C : CS) (v4_3 : Int32) (v4_2 : Int32) : Prop := (if (C.1 0 400) ≤ v4_3 then True else (S_X7_begins C v4_3 q1 ∧ True))
def F_X7_regrouped (C : CS) (q1 : Int32) : Int32 × CS := (bnd (F_X7_isKey q1) (fun r1 => (if r1 = 0 then (bnd ((F_X7_fails C 1).2) (fun u12 => (bnd ((F_X7_fails C 1).1) (fun r11 => (r11, u12))))) else lp (fun (z : Int32 × Int32) => st_X7_regrouped_17 q1 C z.1 z.2) (0, C) (((C.1 0 400).toInt - (0 : Int32).toInt).toNat + 1) (0, 0))))
def S_X7_regrouped (C : CS) (q1 : Int32) : Prop := (bnd (F_X7_isKey q1) (fun r1 => (if r1 = 0 then True else lpS (fun (z : Int32 × Int32) => st_X7_regrouped_17 q1 C z.1 z.2) (fun (z : Int32 × Int32) => Sst_X7_regrouped_17 q1 C z.1 z.2) (((C.1 0 400).toInt - (0 : Int32).toInt).toNat + 1) (0, 0))))
abbrev rmX7_regrouped : Room := { frames := 2, cells := 0, slots := 0, locals := 42 }
set_option maxHeartbeats 4000000 in
set_option maxRecDepth 100000 in
theorem c_X7_regrouped (l : Launch) (D : va_G) (cy : Nat → ClassId) (ad : Nat → Nat) (rest : va_W) (C : CS) (q1 : Int32) (hS : S_X7_regrouped C q1) : GMi l yX7_regrouped wsX7_regrouped rmX7_regrouped D cy [.ref (ad 0), .int q1] (MW cy ad C ++ rest) (fun (r : Int32) (u : CS) => r = (F_X7_regrouped C q1).1 ∧ u = (F_X7_regrouped C q1).2) (fun u => MW cy ad u ++ rest) := by
  refine GMi.intro cX7_regrouped 4 RX7 (by decide) rfl rfl (Nat.le_of_ble_eq_true rfl) ?_
  intro p e s m args below meth c A Q ls X hret hl hw
  have hx := X.1
  have hb := X.2.1
  have hl : lv_has ls 4 [(0, .ref (ad 0)), (1, .int q1)] := hl
  have inX7 : ∀ w ∈ wsX70, w ∈ wsX7_regrouped := fun w h => List.mem_cons_of_mem _ (List.mem_append_left _ (List.mem_append_right _ h))
  obtain ⟨sp, hsp⟩ : ∃ sp, sp = F_X7_regrouped C q1 := ⟨_, rfl⟩
  have hF := hsp.trans (F_X7_regrouped.eq_1 C q1)
  have hS := Eq.mp (S_X7_regrouped.eq_1 C q1) hS
  refine lv_iload_n hx hb dX7_regrouped_0 rfl (lv_at hl 1 rfl) ?_
  refine gcS_i (rest := []) X (c_X7_isKey l D cy (MW cy ad C ++ rest) q1) gy_X7_isKey gX7_regrouped_X7_isKey ⟨rfl, rfl, Nat.le_of_ble_eq_true rfl, Nat.le_of_ble_eq_true rfl⟩ rfl hl rfl (Nat.le_of_ble_eq_true rfl) dX7_regrouped_1 ⟨Nat.zero_le _, Nat.zero_le _⟩ hw (fun r1 _ H locs hr1 hw => ?_)
  obtain ⟨hr1, zr1⟩ : r1 = F_X7_isKey q1 ∧ (r1 = 0 ∨ r1 = 1) := hr1
  have hF := hF.trans (bnd_eq hr1)
  try have hS := Eq.mp (bnd_eq hr1) hS
  refine lv_if_ne (tgt := 13) hx hb dX7_regrouped_4 (by decide) (fun c3 => ?_) (fun c3 => ?_)
  · skip
    have hF := hF.trans (if_neg c3)
    try have hS := Eq.mp (if_neg c3) hS
    refine lv_iconst (v := 0) hx hb dX7_regrouped_13 (by decide) ?_
    refine lv_istore_n (lv' := [(2, .int 0), (0, .ref (ad 0)), (1, .int q1)]) hx hb dX7_regrouped_14 rfl hl (by decide) rfl (fun ls hl => ?_)
    refine lv_iconst (v := 0) hx hb dX7_regrouped_15 (by decide) ?_
    refine lv_istore_n (lv' := [(3, .int 0), (2, .int 0), (0, .ref (ad 0)), (1, .int q1)]) hx hb dX7_regrouped_16 rfl hl (by decide) rfl (fun ls hl => ?_)
    have L4 : ∀ (n4 : Nat) (v4_3 : Int32) (v4_2 : Int32), sp = lp (fun (z : Int32 × Int32) => st_X7_regrouped_17 q1 C z.1 z.2) (0, C) n4 (v4_3, v4_2) → lpS (fun (z : Int32 × Int32) => st_X7_regrouped_17 q1 C z.1 z.2) (fun (z : Int32 × Int32) => Sst_X7_regrouped_17 q1 C z.1 z.2) n4 (v4_3, v4_2) → ∀ (H : Heap) (locs : List Loc) (ls : Array Slot), lv_has ls 4 [(3, .int v4_3), (2, .int v4_2), (0, .ref (ad 0)), (1, .int q1)] → gw D A s.heap (MW cy ad C ++ rest) H locs → W p l e rmX7_regrouped s m args below meth c H locs 0 0 Q (F0 m 17 ls []) := by
      intro n4
      induction n4 with
      | zero => intro v4_3 v4_2 hF hL; exact False.elim hL
      | succ n4 ih4 =>
        intro v4_3 v4_2 hF hL H locs ls hl hw
        have hT4 := st_X7_regrouped_17.eq_1 q1 C v4_3 v4_2
        have hLn4 := hL.2
        have hS := Eq.mp (Sst_X7_regrouped_17.eq_1 q1 C v4_3 v4_2) hL.1
        refine lv_iload_n hx hb dX7_regrouped_17 rfl (lv_at hl 0 rfl) ?_
        refine lv_aload_n hx hb dX7_regrouped_18 rfl (lv_at hl 2 rfl) ?_
        refine g_get (v := .ref (ad 1)) (C := RX7) (T := TX7) (N := 16) (ci := 9) X inX7 hw 0 rfl rfl 1 (by decide) (List.mem_of_getElem? (i := 1) rfl) rfl rfl dX7_regrouped_19 ?_
        refine lv_sipush (v := 400) hx hb dX7_regrouped_22 (by decide) ?_
        refine g_ialdk (k := 400) rfl X hw 1 rfl (vk rfl) dX7_regrouped_25 ?_
        refine lv_icmp_ge (tgt := 52) hx hb dX7_regrouped_26 (by decide) (fun c5 => ?_) (fun c5 => ?_)
        · skip
          have hT4 := hT4.trans (if_pos c5)
          try have hS := Eq.mp (if_pos c5) hS
          refine lv_aload_n hx hb dX7_regrouped_52 rfl (lv_at hl 2 rfl) ?_
          refine lv_iload_n hx hb dX7_regrouped_53 rfl (lv_at hl 1 rfl) ?_
          refine gcV_i (rest := []) X (c_X7_done l D cy ad rest C v4_2) gy_X7_done gX7_regrouped_X7_done ⟨rfl, rfl, Nat.le_of_ble_eq_true rfl, Nat.le_of_ble_eq_true rfl⟩ 0 rfl rfl rfl hl rfl (Nat.le_of_ble_eq_true rfl) dX7_regrouped_54 ⟨Nat.zero_le _, Nat.zero_le _⟩ hw (fun r6 u7 H locs hr6 hw => ?_)
          obtain ⟨hr6, hu7⟩ : r6 = (F_X7_done C v4_2).1 ∧ u7 = (F_X7_done C v4_2).2 := hr6
          have hT4 := hT4.trans (bnd_eq hu7)
          try have hS := Eq.mp (bnd_eq hu7) hS
          have hT4 := hT4.trans (bnd_eq hr6)
          try have hS := Eq.mp (bnd_eq hr6) hS
          exact hret _ _ _ _ _ _ dX7_regrouped_57 ⟨congrArg Prod.fst ((hF.trans (lp_r hT4)).symm.trans hsp), congrArg Prod.snd ((hF.trans (lp_r hT4)).symm.trans hsp)⟩ hw
        · skip
          have hT4 := hT4.trans (if_neg c5)
          try have hS := Eq.mp (if_neg c5) hS
          refine lv_iload_n hx hb dX7_regrouped_29 rfl (lv_at hl 1 rfl) ?_
          refine lv_aload_n hx hb dX7_regrouped_30 rfl (lv_at hl 2 rfl) ?_
          refine lv_iload_n hx hb dX7_regrouped_31 rfl (lv_at hl 0 rfl) ?_
          refine lv_iload_n hx hb dX7_regrouped_32 rfl (lv_at hl 3 rfl) ?_
          have hSc : S_X7_begins C v4_3 q1 := hS.1
          have hS := hS.2
          refine gcV_i (rest := [.int v4_2]) X (c_X7_begins l D cy ad rest C v4_3 q1 hSc) gy_X7_begins gX7_regrouped_X7_begins ⟨rfl, rfl, Nat.le_of_ble_eq_true rfl, Nat.le_of_ble_eq_true rfl⟩ 0 rfl rfl rfl hl rfl (Nat.le_of_ble_eq_true rfl) dX7_regrouped_33 ⟨Nat.zero_le _, Nat.zero_le _⟩ hw (fun r8 _ H locs hr8 hw => ?_)
          obtain ⟨hr8, zr8⟩ : r8 = F_X7_begins C v4_3 q1 ∧ (r8 = 0 ∨ r8 = 1) := hr8
          have hT4 := hT4.trans (bnd_eq hr8)
          try have hS := Eq.mp (bnd_eq hr8) hS
          refine lv_if_eq (tgt := 43) hx hb dX7_regrouped_36 (by decide) (fun c10 => ?_) (fun c10 => ?_)
          · skip
            have hT4 := hT4.trans (if_pos c10)
            try have hS := Eq.mp (if_pos c10) hS
            refine lv_iconst (v := 0) hx hb dX7_regrouped_43 (by decide) ?_
            refine lv_iadd hx hb dX7_regrouped_44 ?_
            refine lv_istore_n (lv' := [(2, .int (v4_2 + 0)), (3, .int v4_3), (0, .ref (ad 0)), (1, .int q1)]) hx hb dX7_regrouped_45 rfl hl (by decide) rfl (fun ls hl => ?_)
            refine lv_iinc (v := (v4_3 + 1)) (lv' := [(3, .int (v4_3 + 1)), (2, .int (v4_2 + 0)), (0, .ref (ad 0)), (1, .int q1)]) hx hb dX7_regrouped_46 hl (k := 1) rfl rfl (by decide) rfl (fun ls hl => ?_)
            refine lv_goto (tgt := 17) hx hb dX7_regrouped_49 (by decide) ?_
            exact ih4 (v4_3 + 1) (v4_2 + 0) (hF.trans (lp_l hT4)) (hLn4 _ hT4) _ _ ls (lv_sub hl [0, 1, 2, 3] rfl) hw
          · skip
            have hT4 := hT4.trans (if_neg c10)
            try have hS := Eq.mp (if_neg c10) hS
            refine lv_iconst (v := 1) hx hb dX7_regrouped_39 (by decide) ?_
            refine lv_goto (tgt := 44) hx hb dX7_regrouped_40 (by decide) ?_
            refine lv_iadd hx hb dX7_regrouped_44 ?_
            refine lv_istore_n (lv' := [(2, .int (v4_2 + 1)), (3, .int v4_3), (0, .ref (ad 0)), (1, .int q1)]) hx hb dX7_regrouped_45 rfl hl (by decide) rfl (fun ls hl => ?_)
            refine lv_iinc (v := (v4_3 + 1)) (lv' := [(3, .int (v4_3 + 1)), (2, .int (v4_2 + 1)), (0, .ref (ad 0)), (1, .int q1)]) hx hb dX7_regrouped_46 hl (k := 1) rfl rfl (by decide) rfl (fun ls hl => ?_)
            refine lv_goto (tgt := 17) hx hb dX7_regrouped_49 (by decide) ?_
            exact ih4 (v4_3 + 1) (v4_2 + 1) (hF.trans (lp_l hT4)) (hLn4 _ hT4) _ _ ls (lv_sub hl [0, 1, 2, 3] rfl) hw
    exact L4 _ 0 0 hF hS _ _ ls (lv_sub hl [0, 1, 2, 3] rfl) hw
  · skip
    have hF := hF.trans (if_pos c3)
    try have hS := Eq.mp (if_pos c3) hS
    refine lv_aload_n hx hb dX7_regrouped_7 rfl (lv_at hl 0 rfl) ?_
    refine lv_iconst (v := 1) hx hb dX7_regrouped_8 (by decide) ?_
    refine gcV_i (rest := []) X (c_X7_fails l D cy ad rest C 1) gy_X7_fails gX7_regrouped_X7_fails ⟨rfl, rfl, Nat.le_of_ble_eq_true rfl, Nat.le_of_ble_eq_true rfl⟩ 0 rfl rfl rfl hl rfl (Nat.le_of_ble_eq_true rfl) dX7_regrouped_9 ⟨Nat.zero_le _, Nat.zero_le _⟩ hw (fun r11 u12 H locs hr11 hw => ?_)
    obtain ⟨hr11, hu12⟩ : r11 = (F_X7_fails C 1).1 ∧ u12 = (F_X7_fails C 1).2 := hr11
    have hF := hF.trans (bnd_eq hu12)
    try have hS := Eq.mp (bnd_eq hu12) hS
    have hF := hF.trans (bnd_eq hr11)
    try have hS := Eq.mp (bnd_eq hr11) hS
    exact hret _ _ _ _ _ _ dX7_regrouped_12 ⟨congrArg Prod.fst (hF.symm.trans hsp), congrArg Prod.snd (hF.symm.trans hsp)⟩ hw
theorem gy_X7_fire : gY yX7_fire RX7 cX7_fire 2 (some .int) wsX7_fire 1 := ⟨⟨_, rfl⟩, rfl, by decide +kernel, by decide +kernel, by decide +kernel⟩
def F_X7_fire (C : CS) (q1 : Int32) : Int32 × CS := (bnd (F_X7_isBurst C q1) (fun r1 => (if r1 = 0 then (bnd ((F_X7_fails C 1).2) (fun u14 => (bnd ((F_X7_fails C 1).1) (fun r13 => (r13, u14))))) else (bnd (F_X7_isOpen C q1) (fun r4 => (if r4 = 0 then (bnd ((F_X7_fails C 2).2) (fun u8 => (bnd ((F_X7_fails C 2).1) (fun r7 => (r7, u8))))) else (bnd ((F_X7_fires C 0 q1).2) (fun u10 => (bnd ((F_X7_fires C 0 q1).1) (fun r9 => (bnd ((F_X7_done u10 r9).2) (fun u12 => (bnd ((F_X7_done u10 r9).1) (fun r11 => (r11, u12)))))))))))))))
def S_X7_fire (C : CS) (q1 : Int32) : Prop := (S_X7_isBurst C q1 ∧ (bnd (F_X7_isBurst C q1) (fun r1 => (if r1 = 0 then True else (S_X7_isOpen C q1 ∧ (bnd (F_X7_isOpen C q1) (fun r4 => (if r4 = 0 then True else (S_X7_fires C 0 q1 ∧ True)))))))))
abbrev rmX7_fire : Room := { frames := 4, cells := 0, slots := 0, locals := 93 }
set_option maxHeartbeats 4000000 in
set_option maxRecDepth 100000 in
theorem c_X7_fire (l : Launch) (D : va_G) (cy : Nat → ClassId) (ad : Nat → Nat) (rest : va_W) (C : CS) (q1 : Int32) (hS : S_X7_fire C q1) : GMi l yX7_fire wsX7_fire rmX7_fire D cy [.ref (ad 0), .int q1] (MW cy ad C ++ rest) (fun (r : Int32) (u : CS) => r = (F_X7_fire C q1).1 ∧ u = (F_X7_fire C q1).2) (fun u => MW cy ad u ++ rest) := by
  refine GMi.intro cX7_fire 2 RX7 (by decide) rfl rfl (Nat.le_of_ble_eq_true rfl) ?_
  intro p e s m args below meth c A Q ls X hret hl hw
  have hx := X.1
  have hb := X.2.1
  have hl : lv_has ls 2 [(0, .ref (ad 0)), (1, .int q1)] := hl
  obtain ⟨sp, hsp⟩ : ∃ sp, sp = F_X7_fire C q1 := ⟨_, rfl⟩
  have hF := hsp.trans (F_X7_fire.eq_1 C q1)
  have hS := Eq.mp (S_X7_fire.eq_1 C q1) hS
  refine lv_aload_n hx hb dX7_fire_0 rfl (lv_at hl 0 rfl) ?_
  refine lv_iload_n hx hb dX7_fire_1 rfl (lv_at hl 1 rfl) ?_
  have hSc : S_X7_isBurst C q1 := hS.1
  have hS := hS.2
  refine gcV_i (rest := []) X (c_X7_isBurst l D cy ad rest C q1 hSc) gy_X7_isBurst gX7_fire_X7_isBurst ⟨rfl, rfl, Nat.le_of_ble_eq_true rfl, Nat.le_of_ble_eq_true rfl⟩ 0 rfl rfl rfl hl rfl (Nat.le_of_ble_eq_true rfl) dX7_fire_2 ⟨Nat.zero_le _, Nat.zero_le _⟩ hw (fun r1 _ H locs hr1 hw => ?_)
  obtain ⟨hr1, zr1⟩ : r1 = F_X7_isBurst C q1 ∧ (r1 = 0 ∨ r1 = 1) := hr1
  have hF := hF.trans (bnd_eq hr1)
  try have hS := Eq.mp (bnd_eq hr1) hS
  refine lv_if_ne (tgt := 14) hx hb dX7_fire_5 (by decide) (fun c3 => ?_) (fun c3 => ?_)
  · skip
    have hF := hF.trans (if_neg c3)
    try have hS := Eq.mp (if_neg c3) hS
    refine lv_aload_n hx hb dX7_fire_14 rfl (lv_at hl 0 rfl) ?_
    refine lv_iload_n hx hb dX7_fire_15 rfl (lv_at hl 1 rfl) ?_
    have hSc : S_X7_isOpen C q1 := hS.1
    have hS := hS.2
    refine gcV_i (rest := []) X (c_X7_isOpen l D cy ad rest C q1 hSc) gy_X7_isOpen gX7_fire_X7_isOpen ⟨rfl, rfl, Nat.le_of_ble_eq_true rfl, Nat.le_of_ble_eq_true rfl⟩ 0 rfl rfl rfl hl rfl (Nat.le_of_ble_eq_true rfl) dX7_fire_16 ⟨Nat.zero_le _, Nat.zero_le _⟩ hw (fun r4 _ H locs hr4 hw => ?_)
    obtain ⟨hr4, zr4⟩ : r4 = F_X7_isOpen C q1 ∧ (r4 = 0 ∨ r4 = 1) := hr4
    have hF := hF.trans (bnd_eq hr4)
    try have hS := Eq.mp (bnd_eq hr4) hS
    refine lv_if_eq (tgt := 35) hx hb dX7_fire_19 (by decide) (fun c6 => ?_) (fun c6 => ?_)
    · skip
      have hF := hF.trans (if_pos c6)
      try have hS := Eq.mp (if_pos c6) hS
      refine lv_aload_n hx hb dX7_fire_35 rfl (lv_at hl 0 rfl) ?_
      refine lv_iconst (v := 2) hx hb dX7_fire_36 (by decide) ?_
      refine gcV_i (rest := []) X (c_X7_fails l D cy ad rest C 2) gy_X7_fails gX7_fire_X7_fails ⟨rfl, rfl, Nat.le_of_ble_eq_true rfl, Nat.le_of_ble_eq_true rfl⟩ 0 rfl rfl rfl hl rfl (Nat.le_of_ble_eq_true rfl) dX7_fire_37 ⟨Nat.zero_le _, Nat.zero_le _⟩ hw (fun r7 u8 H locs hr7 hw => ?_)
      obtain ⟨hr7, hu8⟩ : r7 = (F_X7_fails C 2).1 ∧ u8 = (F_X7_fails C 2).2 := hr7
      have hF := hF.trans (bnd_eq hu8)
      try have hS := Eq.mp (bnd_eq hu8) hS
      have hF := hF.trans (bnd_eq hr7)
      try have hS := Eq.mp (bnd_eq hr7) hS
      exact hret _ _ _ _ _ _ dX7_fire_40 ⟨congrArg Prod.fst (hF.symm.trans hsp), congrArg Prod.snd (hF.symm.trans hsp)⟩ hw
    · skip
      have hF := hF.trans (if_neg c6)
      try have hS := Eq.mp (if_neg c6) hS
      refine lv_aload_n hx hb dX7_fire_22 rfl (lv_at hl 0 rfl) ?_
      refine lv_aload_n hx hb dX7_fire_23 rfl (lv_at hl 0 rfl) ?_
      refine lv_iconst (v := 0) hx hb dX7_fire_24 (by decide) ?_
      refine lv_iload_n hx hb dX7_fire_25 rfl (lv_at hl 1 rfl) ?_
      have hSc : S_X7_fires C 0 q1 := hS.1
      have hS := hS.2
      refine gcV_i (rest := [.ref (ad 0)]) X (c_X7_fires l D cy ad rest C 0 q1 hSc) gy_X7_fires gX7_fire_X7_fires ⟨rfl, rfl, Nat.le_of_ble_eq_true rfl, Nat.le_of_ble_eq_true rfl⟩ 0 rfl rfl rfl hl rfl (Nat.le_of_ble_eq_true rfl) dX7_fire_26 ⟨Nat.zero_le _, Nat.zero_le _⟩ hw (fun r9 u10 H locs hr9 hw => ?_)
      obtain ⟨hr9, hu10⟩ : r9 = (F_X7_fires C 0 q1).1 ∧ u10 = (F_X7_fires C 0 q1).2 := hr9
      have hF := hF.trans (bnd_eq hu10)
      try have hS := Eq.mp (bnd_eq hu10) hS
      have hF := hF.trans (bnd_eq hr9)
      try have hS := Eq.mp (bnd_eq hr9) hS
      refine gcV_i (rest := []) X (c_X7_done l D cy ad rest u10 r9) gy_X7_done gX7_fire_X7_done ⟨rfl, rfl, Nat.le_of_ble_eq_true rfl, Nat.le_of_ble_eq_true rfl⟩ 0 rfl rfl rfl hl rfl (Nat.le_of_ble_eq_true rfl) dX7_fire_29 ⟨Nat.zero_le _, Nat.zero_le _⟩ hw (fun r11 u12 H locs hr11 hw => ?_)
      obtain ⟨hr11, hu12⟩ : r11 = (F_X7_done u10 r9).1 ∧ u12 = (F_X7_done u10 r9).2 := hr11
      have hF := hF.trans (bnd_eq hu12)
      try have hS := Eq.mp (bnd_eq hu12) hS
      have hF := hF.trans (bnd_eq hr11)
      try have hS := Eq.mp (bnd_eq hr11) hS
      refine lv_goto (tgt := 40) hx hb dX7_fire_32 (by decide) ?_
      exact hret _ _ _ _ _ _ dX7_fire_40 ⟨congrArg Prod.fst (hF.symm.trans hsp), congrArg Prod.snd (hF.symm.trans hsp)⟩ hw
  · skip
    have hF := hF.trans (if_pos c3)
    try have hS := Eq.mp (if_pos c3) hS
    refine lv_aload_n hx hb dX7_fire_8 rfl (lv_at hl 0 rfl) ?_
    refine lv_iconst (v := 1) hx hb dX7_fire_9 (by decide) ?_
    refine gcV_i (rest := []) X (c_X7_fails l D cy ad rest C 1) gy_X7_fails gX7_fire_X7_fails ⟨rfl, rfl, Nat.le_of_ble_eq_true rfl, Nat.le_of_ble_eq_true rfl⟩ 0 rfl rfl rfl hl rfl (Nat.le_of_ble_eq_true rfl) dX7_fire_10 ⟨Nat.zero_le _, Nat.zero_le _⟩ hw (fun r13 u14 H locs hr13 hw => ?_)
    obtain ⟨hr13, hu14⟩ : r13 = (F_X7_fails C 1).1 ∧ u14 = (F_X7_fails C 1).2 := hr13
    have hF := hF.trans (bnd_eq hu14)
    try have hS := Eq.mp (bnd_eq hu14) hS
    have hF := hF.trans (bnd_eq hr13)
    try have hS := Eq.mp (bnd_eq hr13) hS
    exact hret _ _ _ _ _ _ dX7_fire_13 ⟨congrArg Prod.fst (hF.symm.trans hsp), congrArg Prod.snd (hF.symm.trans hsp)⟩ hw
theorem gy_X7_firingCount : gY yX7_firingCount RX7 cX7_firingCount 1 (some .int) wsX7_firingCount 0 := ⟨⟨_, rfl⟩, rfl, by decide +kernel, by decide +kernel, by decide +kernel⟩
def F_X7_firingCount (C : CS) : Int32 × CS := (bnd ((F_X7_done C (C.1 0 1426)).2) (fun u2 => (bnd ((F_X7_done C (C.1 0 1426)).1) (fun r1 => (r1, u2)))))
abbrev rmX7_firingCount : Room := { frames := 1, cells := 0, slots := 0, locals := 21 }
set_option maxHeartbeats 4000000 in
set_option maxRecDepth 100000 in
theorem c_X7_firingCount (l : Launch) (D : va_G) (cy : Nat → ClassId) (ad : Nat → Nat) (rest : va_W) (C : CS) : GMi l yX7_firingCount wsX7_firingCount rmX7_firingCount D cy [.ref (ad 0)] (MW cy ad C ++ rest) (fun (r : Int32) (u : CS) => r = (F_X7_firingCount C).1 ∧ u = (F_X7_firingCount C).2) (fun u => MW cy ad u ++ rest) := by
  refine GMi.intro cX7_firingCount 1 RX7 (by decide) rfl rfl (Nat.le_of_ble_eq_true rfl) ?_
  intro p e s m args below meth c A Q ls X hret hl hw
  have hx := X.1
  have hb := X.2.1
  have hl : lv_has ls 1 [(0, .ref (ad 0))] := hl
  have inX7 : ∀ w ∈ wsX70, w ∈ wsX7_firingCount := fun w h => List.mem_cons_of_mem _ (List.mem_append_left _ (List.mem_append_right _ h))
  obtain ⟨sp, hsp⟩ : ∃ sp, sp = F_X7_firingCount C := ⟨_, rfl⟩
  have hF := hsp.trans (F_X7_firingCount.eq_1 C)
  refine lv_aload_n hx hb dX7_firingCount_0 rfl (lv_at hl 0 rfl) ?_
  refine lv_aload_n hx hb dX7_firingCount_1 rfl (lv_at hl 0 rfl) ?_
  refine g_get (v := .ref (ad 1)) (C := RX7) (T := TX7) (N := 16) (ci := 9) X inX7 hw 0 rfl rfl 1 (by decide) (List.mem_of_getElem? (i := 1) rfl) rfl rfl dX7_firingCount_2 ?_
  refine lv_sipush (v := 1426) hx hb dX7_firingCount_5 (by decide) ?_
  refine g_ialdk (k := 1426) rfl X hw 1 rfl (vk rfl) dX7_firingCount_8 ?_
  refine gcV_i (rest := []) X (c_X7_done l D cy ad rest C (C.1 0 1426)) gy_X7_done gX7_firingCount_X7_done ⟨rfl, rfl, Nat.le_of_ble_eq_true rfl, Nat.le_of_ble_eq_true rfl⟩ 0 rfl rfl rfl hl rfl (Nat.le_of_ble_eq_true rfl) dX7_firingCount_9 ⟨Nat.zero_le _, Nat.zero_le _⟩ hw (fun r1 u2 H locs hr1 hw => ?_)
  obtain ⟨hr1, hu2⟩ : r1 = (F_X7_done C (C.1 0 1426)).1 ∧ u2 = (F_X7_done C (C.1 0 1426)).2 := hr1
  have hF := hF.trans (bnd_eq hu2)
  try have hS := Eq.mp (bnd_eq hu2) hS
  have hF := hF.trans (bnd_eq hr1)
  try have hS := Eq.mp (bnd_eq hr1) hS
  exact hret _ _ _ _ _ _ dX7_firingCount_12 ⟨congrArg Prod.fst (hF.symm.trans hsp), congrArg Prod.snd (hF.symm.trans hsp)⟩ hw
theorem gy_X7_firing : gY yX7_firing RX7 cX7_firing 3 (some .int) wsX7_firing 2 := ⟨⟨_, rfl⟩, rfl, by decide +kernel, by decide +kernel, by decide +kernel⟩
def F_X7_firing (C : CS) (q1 : Int32) (q2 : Int32) : Int32 × CS := (bnd (F_X7_in q1 0 ((C.1 0 1426) - 1)) (fun r1 => (if r1 = 0 then (bnd ((F_X7_fails C 1).2) (fun u12 => (bnd ((F_X7_fails C 1).1) (fun r11 => (r11, u12))))) else (bnd (F_X7_in q2 0 5) (fun r4 => (if r4 = 0 then (bnd ((F_X7_fails C 2).2) (fun u8 => (bnd ((F_X7_fails C 2).1) (fun r7 => (r7, u8))))) else (bnd ((F_X7_done C (C.1 0 ((1427 + (6 * q1)) + q2).toNatClampNeg)).2) (fun u10 => (bnd ((F_X7_done C (C.1 0 ((1427 + (6 * q1)) + q2).toNatClampNeg)).1) (fun r9 => (r9, u10)))))))))))
def S_X7_firing (C : CS) (q1 : Int32) (q2 : Int32) : Prop := (bnd (F_X7_in q1 0 ((C.1 0 1426) - 1)) (fun r1 => (if r1 = 0 then True else (bnd (F_X7_in q2 0 5) (fun r4 => (if r4 = 0 then True else (vp_in ((1427 + (6 * q1)) + q2) 1787 ∧ True)))))))
abbrev rmX7_firing : Room := { frames := 1, cells := 0, slots := 0, locals := 22 }
set_option maxHeartbeats 4000000 in
set_option maxRecDepth 100000 in
theorem c_X7_firing (l : Launch) (D : va_G) (cy : Nat → ClassId) (ad : Nat → Nat) (rest : va_W) (C : CS) (q1 : Int32) (q2 : Int32) (hS : S_X7_firing C q1 q2) : GMi l yX7_firing wsX7_firing rmX7_firing D cy [.ref (ad 0), .int q1, .int q2] (MW cy ad C ++ rest) (fun (r : Int32) (u : CS) => r = (F_X7_firing C q1 q2).1 ∧ u = (F_X7_firing C q1 q2).2) (fun u => MW cy ad u ++ rest) := by
  refine GMi.intro cX7_firing 3 RX7 (by decide) rfl rfl (Nat.le_of_ble_eq_true rfl) ?_
  intro p e s m args below meth c A Q ls X hret hl hw
  have hx := X.1
  have hb := X.2.1
  have hl : lv_has ls 3 [(0, .ref (ad 0)), (1, .int q1), (2, .int q2)] := hl
  have inX7 : ∀ w ∈ wsX70, w ∈ wsX7_firing := fun w h => List.mem_cons_of_mem _ (List.mem_append_left _ (List.mem_append_right _ h))
  obtain ⟨sp, hsp⟩ : ∃ sp, sp = F_X7_firing C q1 q2 := ⟨_, rfl⟩
  have hF := hsp.trans (F_X7_firing.eq_1 C q1 q2)
  have hS := Eq.mp (S_X7_firing.eq_1 C q1 q2) hS
  refine lv_iload_n hx hb dX7_firing_0 rfl (lv_at hl 1 rfl) ?_
  refine lv_iconst (v := 0) hx hb dX7_firing_1 (by decide) ?_
  refine lv_aload_n hx hb dX7_firing_2 rfl (lv_at hl 0 rfl) ?_
  refine g_get (v := .ref (ad 1)) (C := RX7) (T := TX7) (N := 16) (ci := 9) X inX7 hw 0 rfl rfl 1 (by decide) (List.mem_of_getElem? (i := 1) rfl) rfl rfl dX7_firing_3 ?_
  refine lv_sipush (v := 1426) hx hb dX7_firing_6 (by decide) ?_
  refine g_ialdk (k := 1426) rfl X hw 1 rfl (vk rfl) dX7_firing_9 ?_
  refine lv_iconst (v := 1) hx hb dX7_firing_10 (by decide) ?_
  refine lv_isub hx hb dX7_firing_11 ?_
  refine gcS_i (rest := []) X (c_X7_in l D cy (MW cy ad C ++ rest) q1 0 ((C.1 0 1426) - 1)) gy_X7_in gX7_firing_X7_in ⟨rfl, rfl, Nat.le_of_ble_eq_true rfl, Nat.le_of_ble_eq_true rfl⟩ rfl hl rfl (Nat.le_of_ble_eq_true rfl) dX7_firing_12 ⟨Nat.zero_le _, Nat.zero_le _⟩ hw (fun r1 _ H locs hr1 hw => ?_)
  obtain ⟨hr1, zr1⟩ : r1 = F_X7_in q1 0 ((C.1 0 1426) - 1) ∧ (r1 = 0 ∨ r1 = 1) := hr1
  have hF := hF.trans (bnd_eq hr1)
  try have hS := Eq.mp (bnd_eq hr1) hS
  refine lv_if_ne (tgt := 24) hx hb dX7_firing_15 (by decide) (fun c3 => ?_) (fun c3 => ?_)
  · skip
    have hF := hF.trans (if_neg c3)
    try have hS := Eq.mp (if_neg c3) hS
    refine lv_iload_n hx hb dX7_firing_24 rfl (lv_at hl 2 rfl) ?_
    refine lv_iconst (v := 0) hx hb dX7_firing_25 (by decide) ?_
    refine lv_iconst (v := 5) hx hb dX7_firing_26 (by decide) ?_
    refine gcS_i (rest := []) X (c_X7_in l D cy (MW cy ad C ++ rest) q2 0 5) gy_X7_in gX7_firing_X7_in ⟨rfl, rfl, Nat.le_of_ble_eq_true rfl, Nat.le_of_ble_eq_true rfl⟩ rfl hl rfl (Nat.le_of_ble_eq_true rfl) dX7_firing_27 ⟨Nat.zero_le _, Nat.zero_le _⟩ hw (fun r4 _ H locs hr4 hw => ?_)
    obtain ⟨hr4, zr4⟩ : r4 = F_X7_in q2 0 5 ∧ (r4 = 0 ∨ r4 = 1) := hr4
    have hF := hF.trans (bnd_eq hr4)
    try have hS := Eq.mp (bnd_eq hr4) hS
    refine lv_if_eq (tgt := 55) hx hb dX7_firing_30 (by decide) (fun c6 => ?_) (fun c6 => ?_)
    · skip
      have hF := hF.trans (if_pos c6)
      try have hS := Eq.mp (if_pos c6) hS
      refine lv_aload_n hx hb dX7_firing_55 rfl (lv_at hl 0 rfl) ?_
      refine lv_iconst (v := 2) hx hb dX7_firing_56 (by decide) ?_
      refine gcV_i (rest := []) X (c_X7_fails l D cy ad rest C 2) gy_X7_fails gX7_firing_X7_fails ⟨rfl, rfl, Nat.le_of_ble_eq_true rfl, Nat.le_of_ble_eq_true rfl⟩ 0 rfl rfl rfl hl rfl (Nat.le_of_ble_eq_true rfl) dX7_firing_57 ⟨Nat.zero_le _, Nat.zero_le _⟩ hw (fun r7 u8 H locs hr7 hw => ?_)
      obtain ⟨hr7, hu8⟩ : r7 = (F_X7_fails C 2).1 ∧ u8 = (F_X7_fails C 2).2 := hr7
      have hF := hF.trans (bnd_eq hu8)
      try have hS := Eq.mp (bnd_eq hu8) hS
      have hF := hF.trans (bnd_eq hr7)
      try have hS := Eq.mp (bnd_eq hr7) hS
      exact hret _ _ _ _ _ _ dX7_firing_60 ⟨congrArg Prod.fst (hF.symm.trans hsp), congrArg Prod.snd (hF.symm.trans hsp)⟩ hw
    · skip
      have hF := hF.trans (if_neg c6)
      try have hS := Eq.mp (if_neg c6) hS
      refine lv_aload_n hx hb dX7_firing_33 rfl (lv_at hl 0 rfl) ?_
      refine lv_aload_n hx hb dX7_firing_34 rfl (lv_at hl 0 rfl) ?_
      refine g_get (v := .ref (ad 1)) (C := RX7) (T := TX7) (N := 16) (ci := 9) X inX7 hw 0 rfl rfl 1 (by decide) (List.mem_of_getElem? (i := 1) rfl) rfl rfl dX7_firing_35 ?_
      refine lv_sipush (v := 1427) hx hb dX7_firing_38 (by decide) ?_
      refine lv_bipush (v := 6) hx hb dX7_firing_41 (by decide) ?_
      refine lv_iload_n hx hb dX7_firing_43 rfl (lv_at hl 1 rfl) ?_
      refine lv_imul hx hb dX7_firing_44 ?_
      refine lv_iadd hx hb dX7_firing_45 ?_
      refine lv_iload_n hx hb dX7_firing_46 rfl (lv_at hl 2 rfl) ?_
      refine lv_iadd hx hb dX7_firing_47 ?_
      refine g_iald X hw 1 rfl hS.1 dX7_firing_48 ?_
      have hS := hS.2
      refine gcV_i (rest := []) X (c_X7_done l D cy ad rest C (C.1 0 ((1427 + (6 * q1)) + q2).toNatClampNeg)) gy_X7_done gX7_firing_X7_done ⟨rfl, rfl, Nat.le_of_ble_eq_true rfl, Nat.le_of_ble_eq_true rfl⟩ 0 rfl rfl rfl hl rfl (Nat.le_of_ble_eq_true rfl) dX7_firing_49 ⟨Nat.zero_le _, Nat.zero_le _⟩ hw (fun r9 u10 H locs hr9 hw => ?_)
      obtain ⟨hr9, hu10⟩ : r9 = (F_X7_done C (C.1 0 ((1427 + (6 * q1)) + q2).toNatClampNeg)).1 ∧ u10 = (F_X7_done C (C.1 0 ((1427 + (6 * q1)) + q2).toNatClampNeg)).2 := hr9
      have hF := hF.trans (bnd_eq hu10)
      try have hS := Eq.mp (bnd_eq hu10) hS
      have hF := hF.trans (bnd_eq hr9)
      try have hS := Eq.mp (bnd_eq hr9) hS
      refine lv_goto (tgt := 60) hx hb dX7_firing_52 (by decide) ?_
      exact hret _ _ _ _ _ _ dX7_firing_60 ⟨congrArg Prod.fst (hF.symm.trans hsp), congrArg Prod.snd (hF.symm.trans hsp)⟩ hw
  · skip
    have hF := hF.trans (if_pos c3)
    try have hS := Eq.mp (if_pos c3) hS
    refine lv_aload_n hx hb dX7_firing_18 rfl (lv_at hl 0 rfl) ?_
    refine lv_iconst (v := 1) hx hb dX7_firing_19 (by decide) ?_
    refine gcV_i (rest := []) X (c_X7_fails l D cy ad rest C 1) gy_X7_fails gX7_firing_X7_fails ⟨rfl, rfl, Nat.le_of_ble_eq_true rfl, Nat.le_of_ble_eq_true rfl⟩ 0 rfl rfl rfl hl rfl (Nat.le_of_ble_eq_true rfl) dX7_firing_20 ⟨Nat.zero_le _, Nat.zero_le _⟩ hw (fun r11 u12 H locs hr11 hw => ?_)
    obtain ⟨hr11, hu12⟩ : r11 = (F_X7_fails C 1).1 ∧ u12 = (F_X7_fails C 1).2 := hr11
    have hF := hF.trans (bnd_eq hu12)
    try have hS := Eq.mp (bnd_eq hu12) hS
    have hF := hF.trans (bnd_eq hr11)
    try have hS := Eq.mp (bnd_eq hr11) hS
    exact hret _ _ _ _ _ _ dX7_firing_23 ⟨congrArg Prod.fst (hF.symm.trans hsp), congrArg Prod.snd (hF.symm.trans hsp)⟩ hw
theorem gy_X7_firings : gY yX7_firings RX7 cX7_firings 2 (some .int) wsX7_firings 1 := ⟨⟨_, rfl⟩, rfl, by decide +kernel, by decide +kernel, by decide +kernel⟩
def F_X7_firings (C : CS) (q1 : Int32) : Int32 × CS := (bnd (F_X7_in q1 0 2) (fun r1 => (if r1 = 0 then (bnd ((F_X7_fails C 1).2) (fun u5 => (bnd ((F_X7_fails C 1).1) (fun r4 => (r4, u5))))) else (bnd ((F_X7_done C (C.1 0 (1423 + q1).toNatClampNeg)).2) (fun u7 => (bnd ((F_X7_done C (C.1 0 (1423 + q1).toNatClampNeg)).1) (fun r6 => (r6, u7))))))))
def S_X7_firings (C : CS) (q1 : Int32) : Prop := (bnd (F_X7_in q1 0 2) (fun r1 => (if r1 = 0 then True else (vp_in (1423 + q1) 1787 ∧ True))))
abbrev rmX7_firings : Room := { frames := 1, cells := 0, slots := 0, locals := 22 }
set_option maxHeartbeats 4000000 in
set_option maxRecDepth 100000 in
theorem c_X7_firings (l : Launch) (D : va_G) (cy : Nat → ClassId) (ad : Nat → Nat) (rest : va_W) (C : CS) (q1 : Int32) (hS : S_X7_firings C q1) : GMi l yX7_firings wsX7_firings rmX7_firings D cy [.ref (ad 0), .int q1] (MW cy ad C ++ rest) (fun (r : Int32) (u : CS) => r = (F_X7_firings C q1).1 ∧ u = (F_X7_firings C q1).2) (fun u => MW cy ad u ++ rest) := by
  refine GMi.intro cX7_firings 2 RX7 (by decide) rfl rfl (Nat.le_of_ble_eq_true rfl) ?_
  intro p e s m args below meth c A Q ls X hret hl hw
  have hx := X.1
  have hb := X.2.1
  have hl : lv_has ls 2 [(0, .ref (ad 0)), (1, .int q1)] := hl
  have inX7 : ∀ w ∈ wsX70, w ∈ wsX7_firings := fun w h => List.mem_cons_of_mem _ (List.mem_append_left _ (List.mem_append_right _ h))
  obtain ⟨sp, hsp⟩ : ∃ sp, sp = F_X7_firings C q1 := ⟨_, rfl⟩
  have hF := hsp.trans (F_X7_firings.eq_1 C q1)
  have hS := Eq.mp (S_X7_firings.eq_1 C q1) hS
  refine lv_iload_n hx hb dX7_firings_0 rfl (lv_at hl 1 rfl) ?_
  refine lv_iconst (v := 0) hx hb dX7_firings_1 (by decide) ?_
  refine lv_iconst (v := 2) hx hb dX7_firings_2 (by decide) ?_
  refine gcS_i (rest := []) X (c_X7_in l D cy (MW cy ad C ++ rest) q1 0 2) gy_X7_in gX7_firings_X7_in ⟨rfl, rfl, Nat.le_of_ble_eq_true rfl, Nat.le_of_ble_eq_true rfl⟩ rfl hl rfl (Nat.le_of_ble_eq_true rfl) dX7_firings_3 ⟨Nat.zero_le _, Nat.zero_le _⟩ hw (fun r1 _ H locs hr1 hw => ?_)
  obtain ⟨hr1, zr1⟩ : r1 = F_X7_in q1 0 2 ∧ (r1 = 0 ∨ r1 = 1) := hr1
  have hF := hF.trans (bnd_eq hr1)
  try have hS := Eq.mp (bnd_eq hr1) hS
  refine lv_if_eq (tgt := 26) hx hb dX7_firings_6 (by decide) (fun c3 => ?_) (fun c3 => ?_)
  · skip
    have hF := hF.trans (if_pos c3)
    try have hS := Eq.mp (if_pos c3) hS
    refine lv_aload_n hx hb dX7_firings_26 rfl (lv_at hl 0 rfl) ?_
    refine lv_iconst (v := 1) hx hb dX7_firings_27 (by decide) ?_
    refine gcV_i (rest := []) X (c_X7_fails l D cy ad rest C 1) gy_X7_fails gX7_firings_X7_fails ⟨rfl, rfl, Nat.le_of_ble_eq_true rfl, Nat.le_of_ble_eq_true rfl⟩ 0 rfl rfl rfl hl rfl (Nat.le_of_ble_eq_true rfl) dX7_firings_28 ⟨Nat.zero_le _, Nat.zero_le _⟩ hw (fun r4 u5 H locs hr4 hw => ?_)
    obtain ⟨hr4, hu5⟩ : r4 = (F_X7_fails C 1).1 ∧ u5 = (F_X7_fails C 1).2 := hr4
    have hF := hF.trans (bnd_eq hu5)
    try have hS := Eq.mp (bnd_eq hu5) hS
    have hF := hF.trans (bnd_eq hr4)
    try have hS := Eq.mp (bnd_eq hr4) hS
    exact hret _ _ _ _ _ _ dX7_firings_31 ⟨congrArg Prod.fst (hF.symm.trans hsp), congrArg Prod.snd (hF.symm.trans hsp)⟩ hw
  · skip
    have hF := hF.trans (if_neg c3)
    try have hS := Eq.mp (if_neg c3) hS
    refine lv_aload_n hx hb dX7_firings_9 rfl (lv_at hl 0 rfl) ?_
    refine lv_aload_n hx hb dX7_firings_10 rfl (lv_at hl 0 rfl) ?_
    refine g_get (v := .ref (ad 1)) (C := RX7) (T := TX7) (N := 16) (ci := 9) X inX7 hw 0 rfl rfl 1 (by decide) (List.mem_of_getElem? (i := 1) rfl) rfl rfl dX7_firings_11 ?_
    refine lv_sipush (v := 1423) hx hb dX7_firings_14 (by decide) ?_
    refine lv_iload_n hx hb dX7_firings_17 rfl (lv_at hl 1 rfl) ?_
    refine lv_iadd hx hb dX7_firings_18 ?_
    refine g_iald X hw 1 rfl hS.1 dX7_firings_19 ?_
    have hS := hS.2
    refine gcV_i (rest := []) X (c_X7_done l D cy ad rest C (C.1 0 (1423 + q1).toNatClampNeg)) gy_X7_done gX7_firings_X7_done ⟨rfl, rfl, Nat.le_of_ble_eq_true rfl, Nat.le_of_ble_eq_true rfl⟩ 0 rfl rfl rfl hl rfl (Nat.le_of_ble_eq_true rfl) dX7_firings_20 ⟨Nat.zero_le _, Nat.zero_le _⟩ hw (fun r6 u7 H locs hr6 hw => ?_)
    obtain ⟨hr6, hu7⟩ : r6 = (F_X7_done C (C.1 0 (1423 + q1).toNatClampNeg)).1 ∧ u7 = (F_X7_done C (C.1 0 (1423 + q1).toNatClampNeg)).2 := hr6
    have hF := hF.trans (bnd_eq hu7)
    try have hS := Eq.mp (bnd_eq hu7) hS
    have hF := hF.trans (bnd_eq hr6)
    try have hS := Eq.mp (bnd_eq hr6) hS
    refine lv_goto (tgt := 31) hx hb dX7_firings_23 (by decide) ?_
    exact hret _ _ _ _ _ _ dX7_firings_31 ⟨congrArg Prod.fst (hF.symm.trans hsp), congrArg Prod.snd (hF.symm.trans hsp)⟩ hw
theorem gy_X7_balance : gY yX7_balance RX7 cX7_balance 1 (some .long) wsX7_balance 0 := ⟨⟨_, rfl⟩, rfl, by decide +kernel, by decide +kernel, by decide +kernel⟩
def F_X7_balance (C : CS) : Int64 × CS := (bnd (sI C 0 0) (fun u1 => (u1.2.2 0, u1)))
abbrev rmX7_balance : Room := { frames := 0, cells := 0, slots := 0, locals := 0 }
set_option maxHeartbeats 4000000 in
set_option maxRecDepth 100000 in
theorem c_X7_balance (l : Launch) (D : va_G) (cy : Nat → ClassId) (ad : Nat → Nat) (rest : va_W) (C : CS) : GMl l yX7_balance wsX7_balance rmX7_balance D cy [.ref (ad 0)] (MW cy ad C ++ rest) (fun (r : Int64) (u : CS) => r = (F_X7_balance C).1 ∧ u = (F_X7_balance C).2) (fun u => MW cy ad u ++ rest) := by
  refine GMl.intro cX7_balance 1 RX7 (by decide) rfl rfl (Nat.le_of_ble_eq_true rfl) ?_
  intro p e s m args below meth c A Q ls X hret hl hw
  have hx := X.1
  have hb := X.2.1
  have hl : lv_has ls 1 [(0, .ref (ad 0))] := hl
  have inX7 : ∀ w ∈ wsX70, w ∈ wsX7_balance := fun w h => List.mem_cons_of_mem _ (List.mem_append_right _ h)
  obtain ⟨sp, hsp⟩ : ∃ sp, sp = F_X7_balance C := ⟨_, rfl⟩
  have hF := hsp.trans (F_X7_balance.eq_1 C)
  refine lv_aload_n hx hb dX7_balance_0 rfl (lv_at hl 0 rfl) ?_
  refine lv_iconst (v := 0) hx hb dX7_balance_1 (by decide) ?_
  refine g_put (v := .int 0) (C := RX7) (T := TX7) (N := 16) (ci := 9) (w' := MW cy ad (sI C 0 0) ++ rest) X inX7 tyX7 tyX7_ok nmX7 hw 0 rfl rfl 0 (by decide) (List.mem_of_getElem? (i := 1) rfl) rfl rfl rfl rfl (Nat.le_of_ble_eq_true rfl) rfl dX7_balance_2 (fun H locs hw => ?_)
  obtain ⟨u1, hu1⟩ : ∃ z, z = sI C 0 0 := ⟨_, rfl⟩
  rw [← hu1] at hw
  have hF := hF.trans (bnd_eq hu1)
  try have hS := Eq.mp (bnd_eq hu1) hS
  refine lv_aload_n hx hb dX7_balance_5 rfl (lv_at hl 0 rfl) ?_
  refine g_get (v := .long (u1.2.2 0)) (C := RX7) (T := TX7) (N := 16) (ci := 9) X inX7 hw 0 rfl rfl 2 (by decide) (List.mem_of_getElem? (i := 2) rfl) rfl rfl dX7_balance_6 ?_
  exact hret _ _ _ _ _ _ dX7_balance_9 ⟨congrArg Prod.fst (hF.symm.trans hsp), congrArg Prod.snd (hF.symm.trans hsp)⟩ hw
theorem gy_X7_standing : gY yX7_standing RX7 cX7_standing 4 (some .long) wsX7_standing 0 := ⟨⟨_, rfl⟩, rfl, by decide +kernel, by decide +kernel, by decide +kernel⟩
def st_X7_standing_9 (u1 : CS) (v2_3 : Int32) (v2_1 : Int64) : (Int32 × Int64) ⊕ (Int64 × CS) := (if (u1.1 0 1401) ≤ v2_3 then .inr ((v2_1, u1)) else (bnd (F_X7_isBurst u1 v2_3) (fun r4 => (if r4 = 0 then .inl ((v2_3 + 1), (v2_1 + 0)) else (bnd (F_X7_of u1 v2_3 5) (fun r7 => (if r7 = 1 then (bnd (F_X7_of u1 v2_3 6) (fun r10 => .inl ((v2_3 + 1), (v2_1 + r10.toInt64)))) else .inl ((v2_3 + 1), (v2_1 + 0)))))))))
def Sst_X7_standing_9 (u1 : CS) (v2_3 : Int32) (v2_1 : Int64) : Prop := (if (u1.1 0 1401) ≤ v2_3 then True else (S_X7_isBurst u1 v2_3 ∧ (bnd (F_X7_isBurst u1 v2_3) (fun r4 => (if r4 = 0 then True else (S_X7_of u1 v2_3 5 ∧ (bnd (F_X7_of u1 v2_3 5) (fun r7 => (if r7 = 1 then (S_X7_of u1 v2_3 6 ∧ True) else True)))))))))
def F_X7_standing (C : CS) : Int64 × CS := (bnd (sI C 0 0) (fun u1 => lp (fun (z : Int32 × Int64) => st_X7_standing_9 u1 z.1 z.2) (0, C) (((u1.1 0 1401).toInt - (0 : Int32).toInt).toNat + 1) (0, 0)))
def S_X7_standing (C : CS) : Prop := (bnd (sI C 0 0) (fun u1 => lpS (fun (z : Int32 × Int64) => st_X7_standing_9 u1 z.1 z.2) (fun (z : Int32 × Int64) => Sst_X7_standing_9 u1 z.1 z.2) (((u1.1 0 1401).toInt - (0 : Int32).toInt).toNat + 1) (0, 0)))
abbrev rmX7_standing : Room := { frames := 2, cells := 0, slots := 0, locals := 43 }
set_option maxHeartbeats 4000000 in
set_option maxRecDepth 100000 in
theorem c_X7_standing (l : Launch) (D : va_G) (cy : Nat → ClassId) (ad : Nat → Nat) (rest : va_W) (C : CS) (hS : S_X7_standing C) : GMl l yX7_standing wsX7_standing rmX7_standing D cy [.ref (ad 0)] (MW cy ad C ++ rest) (fun (r : Int64) (u : CS) => r = (F_X7_standing C).1 ∧ u = (F_X7_standing C).2) (fun u => MW cy ad u ++ rest) := by
  refine GMl.intro cX7_standing 4 RX7 (by decide) rfl rfl (Nat.le_of_ble_eq_true rfl) ?_
  intro p e s m args below meth c A Q ls X hret hl hw
  have hx := X.1
  have hb := X.2.1
  have hl : lv_has ls 4 [(0, .ref (ad 0))] := hl
  have inX7 : ∀ w ∈ wsX70, w ∈ wsX7_standing := fun w h => List.mem_cons_of_mem _ (List.mem_append_left _ (List.mem_append_right _ h))
  obtain ⟨sp, hsp⟩ : ∃ sp, sp = F_X7_standing C := ⟨_, rfl⟩
  have hF := hsp.trans (F_X7_standing.eq_1 C)
  have hS := Eq.mp (S_X7_standing.eq_1 C) hS
  refine lv_aload_n hx hb dX7_standing_0 rfl (lv_at hl 0 rfl) ?_
  refine lv_iconst (v := 0) hx hb dX7_standing_1 (by decide) ?_
  refine g_put (v := .int 0) (C := RX7) (T := TX7) (N := 16) (ci := 9) (w' := MW cy ad (sI C 0 0) ++ rest) X inX7 tyX7 tyX7_ok nmX7 hw 0 rfl rfl 0 (by decide) (List.mem_of_getElem? (i := 1) rfl) rfl rfl rfl rfl (Nat.le_of_ble_eq_true rfl) rfl dX7_standing_2 (fun H locs hw => ?_)
  obtain ⟨u1, hu1⟩ : ∃ z, z = sI C 0 0 := ⟨_, rfl⟩
  rw [← hu1] at hw
  have hF := hF.trans (bnd_eq hu1)
  try have hS := Eq.mp (bnd_eq hu1) hS
  refine lv_lconst (v := 0) hx hb dX7_standing_5 (by decide) ?_
  refine lv_lstore_n (lv' := [(1, .long 0), (0, .ref (ad 0))]) hx hb dX7_standing_6 rfl hl (by decide) rfl (fun ls hl => ?_)
  refine lv_iconst (v := 0) hx hb dX7_standing_7 (by decide) ?_
  refine lv_istore_n (lv' := [(3, .int 0), (1, .long 0), (0, .ref (ad 0))]) hx hb dX7_standing_8 rfl hl (by decide) rfl (fun ls hl => ?_)
  have L2 : ∀ (n2 : Nat) (v2_3 : Int32) (v2_1 : Int64), sp = lp (fun (z : Int32 × Int64) => st_X7_standing_9 u1 z.1 z.2) (0, C) n2 (v2_3, v2_1) → lpS (fun (z : Int32 × Int64) => st_X7_standing_9 u1 z.1 z.2) (fun (z : Int32 × Int64) => Sst_X7_standing_9 u1 z.1 z.2) n2 (v2_3, v2_1) → ∀ (H : Heap) (locs : List Loc) (ls : Array Slot), lv_has ls 4 [(3, .int v2_3), (1, .long v2_1), (0, .ref (ad 0))] → gw D A s.heap (MW cy ad u1 ++ rest) H locs → W p l e rmX7_standing s m args below meth c H locs 0 0 Q (F0 m 9 ls []) := by
    intro n2
    induction n2 with
    | zero => intro v2_3 v2_1 hF hL; exact False.elim hL
    | succ n2 ih2 =>
      intro v2_3 v2_1 hF hL H locs ls hl hw
      have hT2 := st_X7_standing_9.eq_1 u1 v2_3 v2_1
      have hLn2 := hL.2
      have hS := Eq.mp (Sst_X7_standing_9.eq_1 u1 v2_3 v2_1) hL.1
      refine lv_iload_n hx hb dX7_standing_9 rfl (lv_at hl 0 rfl) ?_
      refine lv_aload_n hx hb dX7_standing_10 rfl (lv_at hl 2 rfl) ?_
      refine g_get (v := .ref (ad 1)) (C := RX7) (T := TX7) (N := 16) (ci := 9) X inX7 hw 0 rfl rfl 1 (by decide) (List.mem_of_getElem? (i := 2) rfl) rfl rfl dX7_standing_11 ?_
      refine lv_sipush (v := 1401) hx hb dX7_standing_14 (by decide) ?_
      refine g_ialdk (k := 1401) rfl X hw 1 rfl (vk rfl) dX7_standing_17 ?_
      refine lv_icmp_ge (tgt := 60) hx hb dX7_standing_18 (by decide) (fun c3 => ?_) (fun c3 => ?_)
      · skip
        have hT2 := hT2.trans (if_pos c3)
        try have hS := Eq.mp (if_pos c3) hS
        refine lv_lload_n hx hb dX7_standing_60 rfl (lv_at hl 1 rfl) ?_
        exact hret _ _ _ _ _ _ dX7_standing_61 ⟨congrArg Prod.fst ((hF.trans (lp_r hT2)).symm.trans hsp), congrArg Prod.snd ((hF.trans (lp_r hT2)).symm.trans hsp)⟩ hw
      · skip
        have hT2 := hT2.trans (if_neg c3)
        try have hS := Eq.mp (if_neg c3) hS
        refine lv_lload_n hx hb dX7_standing_21 rfl (lv_at hl 1 rfl) ?_
        refine lv_aload_n hx hb dX7_standing_22 rfl (lv_at hl 2 rfl) ?_
        refine lv_iload_n hx hb dX7_standing_23 rfl (lv_at hl 0 rfl) ?_
        have hSc : S_X7_isBurst u1 v2_3 := hS.1
        have hS := hS.2
        refine gcV_i (rest := [.long v2_1]) X (c_X7_isBurst l D cy ad rest u1 v2_3 hSc) gy_X7_isBurst gX7_standing_X7_isBurst ⟨rfl, rfl, Nat.le_of_ble_eq_true rfl, Nat.le_of_ble_eq_true rfl⟩ 0 rfl rfl rfl hl rfl (Nat.le_of_ble_eq_true rfl) dX7_standing_24 ⟨Nat.zero_le _, Nat.zero_le _⟩ hw (fun r4 _ H locs hr4 hw => ?_)
        obtain ⟨hr4, zr4⟩ : r4 = F_X7_isBurst u1 v2_3 ∧ (r4 = 0 ∨ r4 = 1) := hr4
        have hT2 := hT2.trans (bnd_eq hr4)
        try have hS := Eq.mp (bnd_eq hr4) hS
        refine lv_if_eq (tgt := 51) hx hb dX7_standing_27 (by decide) (fun c6 => ?_) (fun c6 => ?_)
        · skip
          have hT2 := hT2.trans (if_pos c6)
          try have hS := Eq.mp (if_pos c6) hS
          refine lv_lconst (v := 0) hx hb dX7_standing_51 (by decide) ?_
          refine lv_ladd hx hb dX7_standing_52 ?_
          refine lv_lstore_n (lv' := [(1, .long (v2_1 + 0)), (3, .int v2_3), (0, .ref (ad 0))]) hx hb dX7_standing_53 rfl hl (by decide) rfl (fun ls hl => ?_)
          refine lv_iinc (v := (v2_3 + 1)) (lv' := [(3, .int (v2_3 + 1)), (1, .long (v2_1 + 0)), (0, .ref (ad 0))]) hx hb dX7_standing_54 hl (k := 1) rfl rfl (by decide) rfl (fun ls hl => ?_)
          refine lv_goto (tgt := 9) hx hb dX7_standing_57 (by decide) ?_
          exact ih2 (v2_3 + 1) (v2_1 + 0) (hF.trans (lp_l hT2)) (hLn2 _ hT2) _ _ ls (lv_sub hl [0, 1, 2] rfl) hw
        · skip
          have hT2 := hT2.trans (if_neg c6)
          try have hS := Eq.mp (if_neg c6) hS
          refine lv_aload_n hx hb dX7_standing_30 rfl (lv_at hl 2 rfl) ?_
          refine lv_iload_n hx hb dX7_standing_31 rfl (lv_at hl 0 rfl) ?_
          refine lv_iconst (v := 5) hx hb dX7_standing_32 (by decide) ?_
          have hSc : S_X7_of u1 v2_3 5 := hS.1
          have hS := hS.2
          refine gcV_i (rest := [.long v2_1]) X (c_X7_of l D cy ad rest u1 v2_3 5 hSc) gy_X7_of gX7_standing_X7_of ⟨rfl, rfl, Nat.le_of_ble_eq_true rfl, Nat.le_of_ble_eq_true rfl⟩ 0 rfl rfl rfl hl rfl (Nat.le_of_ble_eq_true rfl) dX7_standing_33 ⟨Nat.zero_le _, Nat.zero_le _⟩ hw (fun r7 _ H locs hr7 hw => ?_)
          have hr7 : r7 = F_X7_of u1 v2_3 5 := hr7
          have hT2 := hT2.trans (bnd_eq hr7)
          try have hS := Eq.mp (bnd_eq hr7) hS
          refine lv_iconst (v := 1) hx hb dX7_standing_36 (by decide) ?_
          refine lv_icmp_ne (tgt := 51) hx hb dX7_standing_37 (by decide) (fun c9 => ?_) (fun c9 => ?_)
          · skip
            have hT2 := hT2.trans (if_neg c9)
            try have hS := Eq.mp (if_neg c9) hS
            refine lv_lconst (v := 0) hx hb dX7_standing_51 (by decide) ?_
            refine lv_ladd hx hb dX7_standing_52 ?_
            refine lv_lstore_n (lv' := [(1, .long (v2_1 + 0)), (3, .int v2_3), (0, .ref (ad 0))]) hx hb dX7_standing_53 rfl hl (by decide) rfl (fun ls hl => ?_)
            refine lv_iinc (v := (v2_3 + 1)) (lv' := [(3, .int (v2_3 + 1)), (1, .long (v2_1 + 0)), (0, .ref (ad 0))]) hx hb dX7_standing_54 hl (k := 1) rfl rfl (by decide) rfl (fun ls hl => ?_)
            refine lv_goto (tgt := 9) hx hb dX7_standing_57 (by decide) ?_
            exact ih2 (v2_3 + 1) (v2_1 + 0) (hF.trans (lp_l hT2)) (hLn2 _ hT2) _ _ ls (lv_sub hl [0, 1, 2] rfl) hw
          · skip
            have hT2 := hT2.trans (if_pos c9)
            try have hS := Eq.mp (if_pos c9) hS
            refine lv_aload_n hx hb dX7_standing_40 rfl (lv_at hl 2 rfl) ?_
            refine lv_iload_n hx hb dX7_standing_41 rfl (lv_at hl 0 rfl) ?_
            refine lv_bipush (v := 6) hx hb dX7_standing_42 (by decide) ?_
            have hSc : S_X7_of u1 v2_3 6 := hS.1
            have hS := hS.2
            refine gcV_i (rest := [.long v2_1]) X (c_X7_of l D cy ad rest u1 v2_3 6 hSc) gy_X7_of gX7_standing_X7_of ⟨rfl, rfl, Nat.le_of_ble_eq_true rfl, Nat.le_of_ble_eq_true rfl⟩ 0 rfl rfl rfl hl rfl (Nat.le_of_ble_eq_true rfl) dX7_standing_44 ⟨Nat.zero_le _, Nat.zero_le _⟩ hw (fun r10 _ H locs hr10 hw => ?_)
            have hr10 : r10 = F_X7_of u1 v2_3 6 := hr10
            have hT2 := hT2.trans (bnd_eq hr10)
            try have hS := Eq.mp (bnd_eq hr10) hS
            refine lv_i2l (v := r10.toInt64) hx hb dX7_standing_47 rfl ?_
            refine lv_goto (tgt := 52) hx hb dX7_standing_48 (by decide) ?_
            refine lv_ladd hx hb dX7_standing_52 ?_
            refine lv_lstore_n (lv' := [(1, .long (v2_1 + r10.toInt64)), (3, .int v2_3), (0, .ref (ad 0))]) hx hb dX7_standing_53 rfl hl (by decide) rfl (fun ls hl => ?_)
            refine lv_iinc (v := (v2_3 + 1)) (lv' := [(3, .int (v2_3 + 1)), (1, .long (v2_1 + r10.toInt64)), (0, .ref (ad 0))]) hx hb dX7_standing_54 hl (k := 1) rfl rfl (by decide) rfl (fun ls hl => ?_)
            refine lv_goto (tgt := 9) hx hb dX7_standing_57 (by decide) ?_
            exact ih2 (v2_3 + 1) (v2_1 + r10.toInt64) (hF.trans (lp_l hT2)) (hLn2 _ hT2) _ _ ls (lv_sub hl [0, 1, 2] rfl) hw
  exact L2 _ 0 0 hF hS _ _ ls (lv_sub hl [0, 1, 2] rfl) hw
