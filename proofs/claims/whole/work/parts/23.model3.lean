theorem gy_X7_append : gY yX7_append RX7 cX7_append 2 (some .int) wsX7_append 1 := ⟨⟨_, rfl⟩, rfl, by decide +kernel, by decide +kernel, by decide +kernel⟩
def F_X7_append (C : CS) (q1 : Int32) : Int32 × CS := (bnd (F_X7_in q1 32 126) (fun r1 => (if r1 = 0 then (bnd ((F_X7_fails C 1).2) (fun u12 => (bnd ((F_X7_fails C 1).1) (fun r11 => (r11, u12))))) else (if C.2.1 2 = 40 then (bnd ((F_X7_fails C 2).2) (fun u10 => (bnd ((F_X7_fails C 2).1) (fun r9 => (r9, u10))))) else (bnd (sR C 3 (upd (C.1 3) (C.2.1 2).toNatClampNeg (vp_nar .char q1))) (fun u5 => (bnd (sI u5 2 (u5.2.1 2 + 1)) (fun u6 => (bnd ((F_X7_done u6 (u6.2.1 2)).2) (fun u8 => (bnd ((F_X7_done u6 (u6.2.1 2)).1) (fun r7 => (r7, u8)))))))))))))
def S_X7_append (C : CS) (q1 : Int32) : Prop := (bnd (F_X7_in q1 32 126) (fun r1 => (if r1 = 0 then True else (if C.2.1 2 = 40 then True else (vp_in (C.2.1 2) 40 ∧ True)))))
abbrev rmX7_append : Room := { frames := 1, cells := 0, slots := 0, locals := 22 }
set_option maxHeartbeats 4000000 in
set_option maxRecDepth 100000 in
theorem c_X7_append (l : Launch) (D : va_G) (cy : Nat → ClassId) (ad : Nat → Nat) (rest : va_W) (C : CS) (q1 : Int32) (hS : S_X7_append C q1) : GMi l yX7_append wsX7_append rmX7_append D cy [.ref (ad 0), .int q1] (MW cy ad C ++ rest) (fun (r : Int32) (u : CS) => r = (F_X7_append C q1).1 ∧ u = (F_X7_append C q1).2) (fun u => MW cy ad u ++ rest) := by
  refine GMi.intro cX7_append 2 RX7 (by decide) rfl rfl (Nat.le_of_ble_eq_true rfl) ?_
  intro p e s m args below meth c A Q ls X hret hl hw
  have hx := X.1
  have hb := X.2.1
  have hl : lv_has ls 2 [(0, .ref (ad 0)), (1, .int q1)] := hl
  have inX7 : ∀ w ∈ wsX70, w ∈ wsX7_append := fun w h => List.mem_cons_of_mem _ (List.mem_append_left _ (List.mem_append_right _ h))
  obtain ⟨sp, hsp⟩ : ∃ sp, sp = F_X7_append C q1 := ⟨_, rfl⟩
  have hF := hsp.trans (F_X7_append.eq_1 C q1)
  have hS := Eq.mp (S_X7_append.eq_1 C q1) hS
  refine lv_iload_n hx hb dX7_append_0 rfl (lv_at hl 1 rfl) ?_
  refine lv_bipush (v := 32) hx hb dX7_append_1 (by decide) ?_
  refine lv_bipush (v := 126) hx hb dX7_append_3 (by decide) ?_
  refine gcS_i (rest := []) X (c_X7_in l D cy (MW cy ad C ++ rest) q1 32 126) gy_X7_in gX7_append_X7_in ⟨rfl, rfl, Nat.le_of_ble_eq_true rfl, Nat.le_of_ble_eq_true rfl⟩ rfl hl rfl (Nat.le_of_ble_eq_true rfl) dX7_append_5 ⟨Nat.zero_le _, Nat.zero_le _⟩ hw (fun r1 _ H locs hr1 hw => ?_)
  obtain ⟨hr1, zr1⟩ : r1 = F_X7_in q1 32 126 ∧ (r1 = 0 ∨ r1 = 1) := hr1
  have hF := hF.trans (bnd_eq hr1)
  try have hS := Eq.mp (bnd_eq hr1) hS
  refine lv_if_ne (tgt := 17) hx hb dX7_append_8 (by decide) (fun c3 => ?_) (fun c3 => ?_)
  · skip
    have hF := hF.trans (if_neg c3)
    try have hS := Eq.mp (if_neg c3) hS
    refine lv_aload_n hx hb dX7_append_17 rfl (lv_at hl 0 rfl) ?_
    refine g_get (v := .int (C.2.1 2)) (C := RX7) (T := TX7) (N := 16) (ci := 9) X inX7 hw 0 rfl rfl 9 (by decide) (List.mem_of_getElem? (i := 1) rfl) rfl rfl dX7_append_18 ?_
    refine lv_bipush (v := 40) hx hb dX7_append_21 (by decide) ?_
    refine lv_icmp_ne (tgt := 32) hx hb dX7_append_23 (by decide) (fun c4 => ?_) (fun c4 => ?_)
    · skip
      have hF := hF.trans (if_neg c4)
      try have hS := Eq.mp (if_neg c4) hS
      refine lv_aload_n hx hb dX7_append_32 rfl (lv_at hl 0 rfl) ?_
      refine g_get (v := .ref (ad 4)) (C := RX7) (T := TX7) (N := 16) (ci := 9) X inX7 hw 0 rfl rfl 8 (by decide) (List.mem_of_getElem? (i := 2) rfl) rfl rfl dX7_append_33 ?_
      refine lv_aload_n hx hb dX7_append_36 rfl (lv_at hl 0 rfl) ?_
      refine g_get (v := .int (C.2.1 2)) (C := RX7) (T := TX7) (N := 16) (ci := 9) X inX7 hw 0 rfl rfl 9 (by decide) (List.mem_of_getElem? (i := 1) rfl) rfl rfl dX7_append_37 ?_
      refine lv_iload_n hx hb dX7_append_40 rfl (lv_at hl 1 rfl) ?_
      refine g_cast (w' := MW cy ad (sR C 3 (upd (C.1 3) (C.2.1 2).toNatClampNeg (vp_nar .char q1))) ++ rest) X hw 4 rfl hS.1 rfl dX7_append_41 (fun H locs hw => ?_)
      have hS := hS.2
      obtain ⟨u5, hu5⟩ : ∃ z, z = sR C 3 (upd (C.1 3) (C.2.1 2).toNatClampNeg (vp_nar .char q1)) := ⟨_, rfl⟩
      rw [← hu5] at hw
      have hF := hF.trans (bnd_eq hu5)
      try have hS := Eq.mp (bnd_eq hu5) hS
      refine lv_aload_n hx hb dX7_append_42 rfl (lv_at hl 0 rfl) ?_
      refine lv_dup hx hb dX7_append_43 rfl ?_
      refine g_get (v := .int (u5.2.1 2)) (C := RX7) (T := TX7) (N := 16) (ci := 9) X inX7 hw 0 rfl rfl 9 (by decide) (List.mem_of_getElem? (i := 1) rfl) rfl rfl dX7_append_44 ?_
      refine lv_iconst (v := 1) hx hb dX7_append_47 (by decide) ?_
      refine lv_iadd hx hb dX7_append_48 ?_
      refine g_put (v := .int (u5.2.1 2 + 1)) (C := RX7) (T := TX7) (N := 16) (ci := 9) (w' := MW cy ad (sI u5 2 (u5.2.1 2 + 1)) ++ rest) X inX7 tyX7 tyX7_ok nmX7 hw 0 rfl rfl 9 (by decide) (List.mem_of_getElem? (i := 1) rfl) rfl rfl rfl rfl (Nat.le_of_ble_eq_true rfl) rfl dX7_append_49 (fun H locs hw => ?_)
      obtain ⟨u6, hu6⟩ : ∃ z, z = sI u5 2 (u5.2.1 2 + 1) := ⟨_, rfl⟩
      rw [← hu6] at hw
      have hF := hF.trans (bnd_eq hu6)
      try have hS := Eq.mp (bnd_eq hu6) hS
      refine lv_aload_n hx hb dX7_append_52 rfl (lv_at hl 0 rfl) ?_
      refine lv_aload_n hx hb dX7_append_53 rfl (lv_at hl 0 rfl) ?_
      refine g_get (v := .int (u6.2.1 2)) (C := RX7) (T := TX7) (N := 16) (ci := 9) X inX7 hw 0 rfl rfl 9 (by decide) (List.mem_of_getElem? (i := 1) rfl) rfl rfl dX7_append_54 ?_
      refine gcV_i (rest := []) X (c_X7_done l D cy ad rest u6 (u6.2.1 2)) gy_X7_done gX7_append_X7_done ⟨rfl, rfl, Nat.le_of_ble_eq_true rfl, Nat.le_of_ble_eq_true rfl⟩ 0 rfl rfl rfl hl rfl (Nat.le_of_ble_eq_true rfl) dX7_append_57 ⟨Nat.zero_le _, Nat.zero_le _⟩ hw (fun r7 u8 H locs hr7 hw => ?_)
      obtain ⟨hr7, hu8⟩ : r7 = (F_X7_done u6 (u6.2.1 2)).1 ∧ u8 = (F_X7_done u6 (u6.2.1 2)).2 := hr7
      have hF := hF.trans (bnd_eq hu8)
      try have hS := Eq.mp (bnd_eq hu8) hS
      have hF := hF.trans (bnd_eq hr7)
      try have hS := Eq.mp (bnd_eq hr7) hS
      exact hret _ _ _ _ _ _ dX7_append_60 ⟨congrArg Prod.fst (hF.symm.trans hsp), congrArg Prod.snd (hF.symm.trans hsp)⟩ hw
    · skip
      have hF := hF.trans (if_pos c4)
      try have hS := Eq.mp (if_pos c4) hS
      refine lv_aload_n hx hb dX7_append_26 rfl (lv_at hl 0 rfl) ?_
      refine lv_iconst (v := 2) hx hb dX7_append_27 (by decide) ?_
      refine gcV_i (rest := []) X (c_X7_fails l D cy ad rest C 2) gy_X7_fails gX7_append_X7_fails ⟨rfl, rfl, Nat.le_of_ble_eq_true rfl, Nat.le_of_ble_eq_true rfl⟩ 0 rfl rfl rfl hl rfl (Nat.le_of_ble_eq_true rfl) dX7_append_28 ⟨Nat.zero_le _, Nat.zero_le _⟩ hw (fun r9 u10 H locs hr9 hw => ?_)
      obtain ⟨hr9, hu10⟩ : r9 = (F_X7_fails C 2).1 ∧ u10 = (F_X7_fails C 2).2 := hr9
      have hF := hF.trans (bnd_eq hu10)
      try have hS := Eq.mp (bnd_eq hu10) hS
      have hF := hF.trans (bnd_eq hr9)
      try have hS := Eq.mp (bnd_eq hr9) hS
      exact hret _ _ _ _ _ _ dX7_append_31 ⟨congrArg Prod.fst (hF.symm.trans hsp), congrArg Prod.snd (hF.symm.trans hsp)⟩ hw
  · skip
    have hF := hF.trans (if_pos c3)
    try have hS := Eq.mp (if_pos c3) hS
    refine lv_aload_n hx hb dX7_append_11 rfl (lv_at hl 0 rfl) ?_
    refine lv_iconst (v := 1) hx hb dX7_append_12 (by decide) ?_
    refine gcV_i (rest := []) X (c_X7_fails l D cy ad rest C 1) gy_X7_fails gX7_append_X7_fails ⟨rfl, rfl, Nat.le_of_ble_eq_true rfl, Nat.le_of_ble_eq_true rfl⟩ 0 rfl rfl rfl hl rfl (Nat.le_of_ble_eq_true rfl) dX7_append_13 ⟨Nat.zero_le _, Nat.zero_le _⟩ hw (fun r11 u12 H locs hr11 hw => ?_)
    obtain ⟨hr11, hu12⟩ : r11 = (F_X7_fails C 1).1 ∧ u12 = (F_X7_fails C 1).2 := hr11
    have hF := hF.trans (bnd_eq hu12)
    try have hS := Eq.mp (bnd_eq hu12) hS
    have hF := hF.trans (bnd_eq hr11)
    try have hS := Eq.mp (bnd_eq hr11) hS
    exact hret _ _ _ _ _ _ dX7_append_16 ⟨congrArg Prod.fst (hF.symm.trans hsp), congrArg Prod.snd (hF.symm.trans hsp)⟩ hw
theorem gy_X7_eats : gY yX7_eats RX7 cX7_eats 2 (some .boolean) wsX7_eats 1 := ⟨⟨_, rfl⟩, rfl, by decide +kernel, by decide +kernel, by decide +kernel⟩
def F_X7_eats (C : CS) (q1 : Int32) : Int32 × CS := (if C.2.1 2 ≤ C.2.1 4 then (0, C) else (if (C.1 3 (C.2.1 4).toNatClampNeg) = q1 then (bnd (sI C 4 (C.2.1 4 + 1)) (fun u3 => (1, u3))) else (0, C)))
def S_X7_eats (C : CS) (q1 : Int32) : Prop := (if C.2.1 2 ≤ C.2.1 4 then True else (vp_in (C.2.1 4) 40 ∧ True))
abbrev rmX7_eats : Room := { frames := 0, cells := 0, slots := 0, locals := 0 }
set_option maxHeartbeats 4000000 in
set_option maxRecDepth 100000 in
theorem c_X7_eats (l : Launch) (D : va_G) (cy : Nat → ClassId) (ad : Nat → Nat) (rest : va_W) (C : CS) (q1 : Int32) (hS : S_X7_eats C q1) : GMi l yX7_eats wsX7_eats rmX7_eats D cy [.ref (ad 0), .int q1] (MW cy ad C ++ rest) (fun (r : Int32) (u : CS) => (r = (F_X7_eats C q1).1 ∧ u = (F_X7_eats C q1).2) ∧ (r = 0 ∨ r = 1)) (fun u => MW cy ad u ++ rest) := by
  refine GMz.intro cX7_eats 2 RX7 (by decide) rfl rfl (Nat.le_of_ble_eq_true rfl) ?_
  intro p e s m args below meth c A Q ls X hret hl hw
  have hx := X.1
  have hb := X.2.1
  have hl : lv_has ls 2 [(0, .ref (ad 0)), (1, .int q1)] := hl
  have inX7 : ∀ w ∈ wsX70, w ∈ wsX7_eats := fun w h => List.mem_cons_of_mem _ (List.mem_append_left _ (List.mem_append_right _ h))
  obtain ⟨sp, hsp⟩ : ∃ sp, sp = F_X7_eats C q1 := ⟨_, rfl⟩
  have hF := hsp.trans (F_X7_eats.eq_1 C q1)
  have hS := Eq.mp (S_X7_eats.eq_1 C q1) hS
  refine lv_aload_n hx hb dX7_eats_0 rfl (lv_at hl 0 rfl) ?_
  refine g_get (v := .int (C.2.1 4)) (C := RX7) (T := TX7) (N := 16) (ci := 9) X inX7 hw 0 rfl rfl 11 (by decide) (List.mem_of_getElem? (i := 1) rfl) rfl rfl dX7_eats_1 ?_
  refine lv_aload_n hx hb dX7_eats_4 rfl (lv_at hl 0 rfl) ?_
  refine g_get (v := .int (C.2.1 2)) (C := RX7) (T := TX7) (N := 16) (ci := 9) X inX7 hw 0 rfl rfl 9 (by decide) (List.mem_of_getElem? (i := 2) rfl) rfl rfl dX7_eats_5 ?_
  refine lv_icmp_ge (tgt := 24) hx hb dX7_eats_8 (by decide) (fun c1 => ?_) (fun c1 => ?_)
  · skip
    have hF := hF.trans (if_pos c1)
    try have hS := Eq.mp (if_pos c1) hS
    refine lv_iconst (v := 0) hx hb dX7_eats_24 (by decide) ?_
    exact hret _ _ _ _ _ _ dX7_eats_25 (Or.inl rfl) ⟨⟨congrArg Prod.fst (hF.symm.trans hsp), congrArg Prod.snd (hF.symm.trans hsp)⟩, (Or.inl rfl)⟩ hw
  · skip
    have hF := hF.trans (if_neg c1)
    try have hS := Eq.mp (if_neg c1) hS
    refine lv_aload_n hx hb dX7_eats_11 rfl (lv_at hl 0 rfl) ?_
    refine g_get (v := .ref (ad 4)) (C := RX7) (T := TX7) (N := 16) (ci := 9) X inX7 hw 0 rfl rfl 8 (by decide) (List.mem_of_getElem? (i := 3) rfl) rfl rfl dX7_eats_12 ?_
    refine lv_aload_n hx hb dX7_eats_15 rfl (lv_at hl 0 rfl) ?_
    refine g_get (v := .int (C.2.1 4)) (C := RX7) (T := TX7) (N := 16) (ci := 9) X inX7 hw 0 rfl rfl 11 (by decide) (List.mem_of_getElem? (i := 1) rfl) rfl rfl dX7_eats_16 ?_
    refine g_cald X hw 4 rfl hS.1 dX7_eats_19 ?_
    have hS := hS.2
    refine lv_iload_n hx hb dX7_eats_20 rfl (lv_at hl 1 rfl) ?_
    refine lv_icmp_eq (tgt := 26) hx hb dX7_eats_21 (by decide) (fun c2 => ?_) (fun c2 => ?_)
    · skip
      have hF := hF.trans (if_pos c2)
      try have hS := Eq.mp (if_pos c2) hS
      refine lv_aload_n hx hb dX7_eats_26 rfl (lv_at hl 0 rfl) ?_
      refine lv_dup hx hb dX7_eats_27 rfl ?_
      refine g_get (v := .int (C.2.1 4)) (C := RX7) (T := TX7) (N := 16) (ci := 9) X inX7 hw 0 rfl rfl 11 (by decide) (List.mem_of_getElem? (i := 1) rfl) rfl rfl dX7_eats_28 ?_
      refine lv_iconst (v := 1) hx hb dX7_eats_31 (by decide) ?_
      refine lv_iadd hx hb dX7_eats_32 ?_
      refine g_put (v := .int (C.2.1 4 + 1)) (C := RX7) (T := TX7) (N := 16) (ci := 9) (w' := MW cy ad (sI C 4 (C.2.1 4 + 1)) ++ rest) X inX7 tyX7 tyX7_ok nmX7 hw 0 rfl rfl 11 (by decide) (List.mem_of_getElem? (i := 1) rfl) rfl rfl rfl rfl (Nat.le_of_ble_eq_true rfl) rfl dX7_eats_33 (fun H locs hw => ?_)
      obtain ⟨u3, hu3⟩ : ∃ z, z = sI C 4 (C.2.1 4 + 1) := ⟨_, rfl⟩
      rw [← hu3] at hw
      have hF := hF.trans (bnd_eq hu3)
      try have hS := Eq.mp (bnd_eq hu3) hS
      refine lv_iconst (v := 1) hx hb dX7_eats_36 (by decide) ?_
      exact hret _ _ _ _ _ _ dX7_eats_37 (Or.inr rfl) ⟨⟨congrArg Prod.fst (hF.symm.trans hsp), congrArg Prod.snd (hF.symm.trans hsp)⟩, (Or.inr rfl)⟩ hw
    · skip
      have hF := hF.trans (if_neg c2)
      try have hS := Eq.mp (if_neg c2) hS
      refine lv_iconst (v := 0) hx hb dX7_eats_24 (by decide) ?_
      exact hret _ _ _ _ _ _ dX7_eats_25 (Or.inl rfl) ⟨⟨congrArg Prod.fst (hF.symm.trans hsp), congrArg Prod.snd (hF.symm.trans hsp)⟩, (Or.inl rfl)⟩ hw
theorem gy_X7_readsNumber : gY yX7_readsNumber RX7 cX7_readsNumber 3 (some .boolean) wsX7_readsNumber 1 := ⟨⟨_, rfl⟩, rfl, by decide +kernel, by decide +kernel, by decide +kernel⟩
def st_X7_readsNumber_7 (q1 : Int32) (v2_2 : Int32) (w2 : CS) : (Int32 × CS) ⊕ (Int32 × CS) := (if q1 ≤ v2_2 then (if v2_2 ≤ 0 then .inr ((0, w2)) else .inr ((1, w2))) else (if w2.2.1 2 ≤ w2.2.1 4 then (if v2_2 ≤ 0 then .inr ((0, w2)) else .inr ((1, w2))) else (bnd (F_X7_in (w2.1 3 (w2.2.1 4).toNatClampNeg) 48 57) (fun r7 => (if r7 = 0 then (if v2_2 ≤ 0 then .inr ((0, w2)) else .inr ((1, w2))) else (bnd (sI w2 5 (((10 * w2.2.1 5) + (w2.1 3 (w2.2.1 4).toNatClampNeg)) - 48)) (fun u11 => (bnd (sI u11 4 (u11.2.1 4 + 1)) (fun u12 => .inl ((v2_2 + 1), u12))))))))))
def Sst_X7_readsNumber_7 (q1 : Int32) (v2_2 : Int32) (w2 : CS) : Prop := (if q1 ≤ v2_2 then True else (if w2.2.1 2 ≤ w2.2.1 4 then True else (vp_in (w2.2.1 4) 40 ∧ (bnd (F_X7_in (w2.1 3 (w2.2.1 4).toNatClampNeg) 48 57) (fun r7 => (if r7 = 0 then True else (vp_in (w2.2.1 4) 40 ∧ True)))))))
def F_X7_readsNumber (C : CS) (q1 : Int32) : Int32 × CS := (bnd (sI C 5 0) (fun u1 => lp (fun (z : Int32 × CS) => st_X7_readsNumber_7 q1 z.1 z.2) (0, C) ((q1.toInt - (0 : Int32).toInt).toNat + 1) (0, u1)))
def S_X7_readsNumber (C : CS) (q1 : Int32) : Prop := (bnd (sI C 5 0) (fun u1 => lpS (fun (z : Int32 × CS) => st_X7_readsNumber_7 q1 z.1 z.2) (fun (z : Int32 × CS) => Sst_X7_readsNumber_7 q1 z.1 z.2) ((q1.toInt - (0 : Int32).toInt).toNat + 1) (0, u1)))
abbrev rmX7_readsNumber : Room := { frames := 1, cells := 0, slots := 0, locals := 22 }
set_option maxHeartbeats 4000000 in
set_option maxRecDepth 100000 in
theorem c_X7_readsNumber (l : Launch) (D : va_G) (cy : Nat → ClassId) (ad : Nat → Nat) (rest : va_W) (C : CS) (q1 : Int32) (hS : S_X7_readsNumber C q1) : GMi l yX7_readsNumber wsX7_readsNumber rmX7_readsNumber D cy [.ref (ad 0), .int q1] (MW cy ad C ++ rest) (fun (r : Int32) (u : CS) => (r = (F_X7_readsNumber C q1).1 ∧ u = (F_X7_readsNumber C q1).2) ∧ (r = 0 ∨ r = 1)) (fun u => MW cy ad u ++ rest) := by
  refine GMz.intro cX7_readsNumber 3 RX7 (by decide) rfl rfl (Nat.le_of_ble_eq_true rfl) ?_
  intro p e s m args below meth c A Q ls X hret hl hw
  have hx := X.1
  have hb := X.2.1
  have hl : lv_has ls 3 [(0, .ref (ad 0)), (1, .int q1)] := hl
  have inX7 : ∀ w ∈ wsX70, w ∈ wsX7_readsNumber := fun w h => List.mem_cons_of_mem _ (List.mem_append_left _ (List.mem_append_right _ h))
  obtain ⟨sp, hsp⟩ : ∃ sp, sp = F_X7_readsNumber C q1 := ⟨_, rfl⟩
  have hF := hsp.trans (F_X7_readsNumber.eq_1 C q1)
  have hS := Eq.mp (S_X7_readsNumber.eq_1 C q1) hS
  refine lv_iconst (v := 0) hx hb dX7_readsNumber_0 (by decide) ?_
  refine lv_istore_n (lv' := [(2, .int 0), (0, .ref (ad 0)), (1, .int q1)]) hx hb dX7_readsNumber_1 rfl hl (by decide) rfl (fun ls hl => ?_)
  refine lv_aload_n hx hb dX7_readsNumber_2 rfl (lv_at hl 1 rfl) ?_
  refine lv_iconst (v := 0) hx hb dX7_readsNumber_3 (by decide) ?_
  refine g_put (v := .int 0) (C := RX7) (T := TX7) (N := 16) (ci := 9) (w' := MW cy ad (sI C 5 0) ++ rest) X inX7 tyX7 tyX7_ok nmX7 hw 0 rfl rfl 12 (by decide) (List.mem_of_getElem? (i := 1) rfl) rfl rfl rfl rfl (Nat.le_of_ble_eq_true rfl) rfl dX7_readsNumber_4 (fun H locs hw => ?_)
  obtain ⟨u1, hu1⟩ : ∃ z, z = sI C 5 0 := ⟨_, rfl⟩
  rw [← hu1] at hw
  have hF := hF.trans (bnd_eq hu1)
  try have hS := Eq.mp (bnd_eq hu1) hS
  have L2 : ∀ (n2 : Nat) (v2_2 : Int32) (w2 : CS), sp = lp (fun (z : Int32 × CS) => st_X7_readsNumber_7 q1 z.1 z.2) (0, C) n2 (v2_2, w2) → lpS (fun (z : Int32 × CS) => st_X7_readsNumber_7 q1 z.1 z.2) (fun (z : Int32 × CS) => Sst_X7_readsNumber_7 q1 z.1 z.2) n2 (v2_2, w2) → ∀ (H : Heap) (locs : List Loc) (ls : Array Slot), lv_has ls 3 [(2, .int v2_2), (0, .ref (ad 0)), (1, .int q1)] → gw D A s.heap (MW cy ad w2 ++ rest) H locs → W p l e rmX7_readsNumber s m args below meth c H locs 0 0 Q (F0 m 7 ls []) := by
    intro n2
    induction n2 with
    | zero => intro v2_2 w2 hF hL; exact False.elim hL
    | succ n2 ih2 =>
      intro v2_2 w2 hF hL H locs ls hl hw
      have hT2 := st_X7_readsNumber_7.eq_1 q1 v2_2 w2
      have hLn2 := hL.2
      have hS := Eq.mp (Sst_X7_readsNumber_7.eq_1 q1 v2_2 w2) hL.1
      refine lv_iload_n hx hb dX7_readsNumber_7 rfl (lv_at hl 0 rfl) ?_
      refine lv_iload_n hx hb dX7_readsNumber_8 rfl (lv_at hl 2 rfl) ?_
      refine lv_icmp_ge (tgt := 82) hx hb dX7_readsNumber_9 (by decide) (fun c3 => ?_) (fun c3 => ?_)
      · skip
        have hT2 := hT2.trans (if_pos c3)
        try have hS := Eq.mp (if_pos c3) hS
        refine lv_iload_n hx hb dX7_readsNumber_82 rfl (lv_at hl 0 rfl) ?_
        refine lv_if_le (tgt := 90) hx hb dX7_readsNumber_83 (by decide) (fun c4 => ?_) (fun c4 => ?_)
        · skip
          have hT2 := hT2.trans (if_pos c4)
          try have hS := Eq.mp (if_pos c4) hS
          refine lv_iconst (v := 0) hx hb dX7_readsNumber_90 (by decide) ?_
          exact hret _ _ _ _ _ _ dX7_readsNumber_91 (Or.inl rfl) ⟨⟨congrArg Prod.fst ((hF.trans (lp_r hT2)).symm.trans hsp), congrArg Prod.snd ((hF.trans (lp_r hT2)).symm.trans hsp)⟩, (Or.inl rfl)⟩ hw
        · skip
          have hT2 := hT2.trans (if_neg c4)
          try have hS := Eq.mp (if_neg c4) hS
          refine lv_iconst (v := 1) hx hb dX7_readsNumber_86 (by decide) ?_
          refine lv_goto (tgt := 91) hx hb dX7_readsNumber_87 (by decide) ?_
          exact hret _ _ _ _ _ _ dX7_readsNumber_91 (Or.inr rfl) ⟨⟨congrArg Prod.fst ((hF.trans (lp_r hT2)).symm.trans hsp), congrArg Prod.snd ((hF.trans (lp_r hT2)).symm.trans hsp)⟩, (Or.inr rfl)⟩ hw
      · skip
        have hT2 := hT2.trans (if_neg c3)
        try have hS := Eq.mp (if_neg c3) hS
        refine lv_aload_n hx hb dX7_readsNumber_12 rfl (lv_at hl 1 rfl) ?_
        refine g_get (v := .int (w2.2.1 4)) (C := RX7) (T := TX7) (N := 16) (ci := 9) X inX7 hw 0 rfl rfl 11 (by decide) (List.mem_of_getElem? (i := 2) rfl) rfl rfl dX7_readsNumber_13 ?_
        refine lv_aload_n hx hb dX7_readsNumber_16 rfl (lv_at hl 1 rfl) ?_
        refine g_get (v := .int (w2.2.1 2)) (C := RX7) (T := TX7) (N := 16) (ci := 9) X inX7 hw 0 rfl rfl 9 (by decide) (List.mem_of_getElem? (i := 3) rfl) rfl rfl dX7_readsNumber_17 ?_
        refine lv_icmp_ge (tgt := 82) hx hb dX7_readsNumber_20 (by decide) (fun c5 => ?_) (fun c5 => ?_)
        · skip
          have hT2 := hT2.trans (if_pos c5)
          try have hS := Eq.mp (if_pos c5) hS
          refine lv_iload_n hx hb dX7_readsNumber_82 rfl (lv_at hl 0 rfl) ?_
          refine lv_if_le (tgt := 90) hx hb dX7_readsNumber_83 (by decide) (fun c6 => ?_) (fun c6 => ?_)
          · skip
            have hT2 := hT2.trans (if_pos c6)
            try have hS := Eq.mp (if_pos c6) hS
            refine lv_iconst (v := 0) hx hb dX7_readsNumber_90 (by decide) ?_
            exact hret _ _ _ _ _ _ dX7_readsNumber_91 (Or.inl rfl) ⟨⟨congrArg Prod.fst ((hF.trans (lp_r hT2)).symm.trans hsp), congrArg Prod.snd ((hF.trans (lp_r hT2)).symm.trans hsp)⟩, (Or.inl rfl)⟩ hw
          · skip
            have hT2 := hT2.trans (if_neg c6)
            try have hS := Eq.mp (if_neg c6) hS
            refine lv_iconst (v := 1) hx hb dX7_readsNumber_86 (by decide) ?_
            refine lv_goto (tgt := 91) hx hb dX7_readsNumber_87 (by decide) ?_
            exact hret _ _ _ _ _ _ dX7_readsNumber_91 (Or.inr rfl) ⟨⟨congrArg Prod.fst ((hF.trans (lp_r hT2)).symm.trans hsp), congrArg Prod.snd ((hF.trans (lp_r hT2)).symm.trans hsp)⟩, (Or.inr rfl)⟩ hw
        · skip
          have hT2 := hT2.trans (if_neg c5)
          try have hS := Eq.mp (if_neg c5) hS
          refine lv_aload_n hx hb dX7_readsNumber_23 rfl (lv_at hl 1 rfl) ?_
          refine g_get (v := .ref (ad 4)) (C := RX7) (T := TX7) (N := 16) (ci := 9) X inX7 hw 0 rfl rfl 8 (by decide) (List.mem_of_getElem? (i := 4) rfl) rfl rfl dX7_readsNumber_24 ?_
          refine lv_aload_n hx hb dX7_readsNumber_27 rfl (lv_at hl 1 rfl) ?_
          refine g_get (v := .int (w2.2.1 4)) (C := RX7) (T := TX7) (N := 16) (ci := 9) X inX7 hw 0 rfl rfl 11 (by decide) (List.mem_of_getElem? (i := 2) rfl) rfl rfl dX7_readsNumber_28 ?_
          refine g_cald X hw 4 rfl hS.1 dX7_readsNumber_31 ?_
          have hS := hS.2
          refine lv_bipush (v := 48) hx hb dX7_readsNumber_32 (by decide) ?_
          refine lv_bipush (v := 57) hx hb dX7_readsNumber_34 (by decide) ?_
          refine gcS_i (rest := []) X (c_X7_in l D cy (MW cy ad w2 ++ rest) (w2.1 3 (w2.2.1 4).toNatClampNeg) 48 57) gy_X7_in gX7_readsNumber_X7_in ⟨rfl, rfl, Nat.le_of_ble_eq_true rfl, Nat.le_of_ble_eq_true rfl⟩ rfl hl rfl (Nat.le_of_ble_eq_true rfl) dX7_readsNumber_36 ⟨Nat.zero_le _, Nat.zero_le _⟩ hw (fun r7 _ H locs hr7 hw => ?_)
          obtain ⟨hr7, zr7⟩ : r7 = F_X7_in (w2.1 3 (w2.2.1 4).toNatClampNeg) 48 57 ∧ (r7 = 0 ∨ r7 = 1) := hr7
          have hT2 := hT2.trans (bnd_eq hr7)
          try have hS := Eq.mp (bnd_eq hr7) hS
          refine lv_if_eq (tgt := 82) hx hb dX7_readsNumber_39 (by decide) (fun c9 => ?_) (fun c9 => ?_)
          · skip
            have hT2 := hT2.trans (if_pos c9)
            try have hS := Eq.mp (if_pos c9) hS
            refine lv_iload_n hx hb dX7_readsNumber_82 rfl (lv_at hl 0 rfl) ?_
            refine lv_if_le (tgt := 90) hx hb dX7_readsNumber_83 (by decide) (fun c10 => ?_) (fun c10 => ?_)
            · skip
              have hT2 := hT2.trans (if_pos c10)
              try have hS := Eq.mp (if_pos c10) hS
              refine lv_iconst (v := 0) hx hb dX7_readsNumber_90 (by decide) ?_
              exact hret _ _ _ _ _ _ dX7_readsNumber_91 (Or.inl rfl) ⟨⟨congrArg Prod.fst ((hF.trans (lp_r hT2)).symm.trans hsp), congrArg Prod.snd ((hF.trans (lp_r hT2)).symm.trans hsp)⟩, (Or.inl rfl)⟩ hw
            · skip
              have hT2 := hT2.trans (if_neg c10)
              try have hS := Eq.mp (if_neg c10) hS
              refine lv_iconst (v := 1) hx hb dX7_readsNumber_86 (by decide) ?_
              refine lv_goto (tgt := 91) hx hb dX7_readsNumber_87 (by decide) ?_
              exact hret _ _ _ _ _ _ dX7_readsNumber_91 (Or.inr rfl) ⟨⟨congrArg Prod.fst ((hF.trans (lp_r hT2)).symm.trans hsp), congrArg Prod.snd ((hF.trans (lp_r hT2)).symm.trans hsp)⟩, (Or.inr rfl)⟩ hw
          · skip
            have hT2 := hT2.trans (if_neg c9)
            try have hS := Eq.mp (if_neg c9) hS
            refine lv_aload_n hx hb dX7_readsNumber_42 rfl (lv_at hl 1 rfl) ?_
            refine lv_bipush (v := 10) hx hb dX7_readsNumber_43 (by decide) ?_
            refine lv_aload_n hx hb dX7_readsNumber_45 rfl (lv_at hl 1 rfl) ?_
            refine g_get (v := .int (w2.2.1 5)) (C := RX7) (T := TX7) (N := 16) (ci := 9) X inX7 hw 0 rfl rfl 12 (by decide) (List.mem_of_getElem? (i := 1) rfl) rfl rfl dX7_readsNumber_46 ?_
            refine lv_imul hx hb dX7_readsNumber_49 ?_
            refine lv_aload_n hx hb dX7_readsNumber_50 rfl (lv_at hl 1 rfl) ?_
            refine g_get (v := .ref (ad 4)) (C := RX7) (T := TX7) (N := 16) (ci := 9) X inX7 hw 0 rfl rfl 8 (by decide) (List.mem_of_getElem? (i := 4) rfl) rfl rfl dX7_readsNumber_51 ?_
            refine lv_aload_n hx hb dX7_readsNumber_54 rfl (lv_at hl 1 rfl) ?_
            refine g_get (v := .int (w2.2.1 4)) (C := RX7) (T := TX7) (N := 16) (ci := 9) X inX7 hw 0 rfl rfl 11 (by decide) (List.mem_of_getElem? (i := 2) rfl) rfl rfl dX7_readsNumber_55 ?_
            refine g_cald X hw 4 rfl hS.1 dX7_readsNumber_58 ?_
            have hS := hS.2
            refine lv_iadd hx hb dX7_readsNumber_59 ?_
            refine lv_bipush (v := 48) hx hb dX7_readsNumber_60 (by decide) ?_
            refine lv_isub hx hb dX7_readsNumber_62 ?_
            refine g_put (v := .int (((10 * w2.2.1 5) + (w2.1 3 (w2.2.1 4).toNatClampNeg)) - 48)) (C := RX7) (T := TX7) (N := 16) (ci := 9) (w' := MW cy ad (sI w2 5 (((10 * w2.2.1 5) + (w2.1 3 (w2.2.1 4).toNatClampNeg)) - 48)) ++ rest) X inX7 tyX7 tyX7_ok nmX7 hw 0 rfl rfl 12 (by decide) (List.mem_of_getElem? (i := 1) rfl) rfl rfl rfl rfl (Nat.le_of_ble_eq_true rfl) rfl dX7_readsNumber_63 (fun H locs hw => ?_)
            obtain ⟨u11, hu11⟩ : ∃ z, z = sI w2 5 (((10 * w2.2.1 5) + (w2.1 3 (w2.2.1 4).toNatClampNeg)) - 48) := ⟨_, rfl⟩
            rw [← hu11] at hw
            have hT2 := hT2.trans (bnd_eq hu11)
            try have hS := Eq.mp (bnd_eq hu11) hS
            refine lv_aload_n hx hb dX7_readsNumber_66 rfl (lv_at hl 1 rfl) ?_
            refine lv_dup hx hb dX7_readsNumber_67 rfl ?_
            refine g_get (v := .int (u11.2.1 4)) (C := RX7) (T := TX7) (N := 16) (ci := 9) X inX7 hw 0 rfl rfl 11 (by decide) (List.mem_of_getElem? (i := 2) rfl) rfl rfl dX7_readsNumber_68 ?_
            refine lv_iconst (v := 1) hx hb dX7_readsNumber_71 (by decide) ?_
            refine lv_iadd hx hb dX7_readsNumber_72 ?_
            refine g_put (v := .int (u11.2.1 4 + 1)) (C := RX7) (T := TX7) (N := 16) (ci := 9) (w' := MW cy ad (sI u11 4 (u11.2.1 4 + 1)) ++ rest) X inX7 tyX7 tyX7_ok nmX7 hw 0 rfl rfl 11 (by decide) (List.mem_of_getElem? (i := 2) rfl) rfl rfl rfl rfl (Nat.le_of_ble_eq_true rfl) rfl dX7_readsNumber_73 (fun H locs hw => ?_)
            obtain ⟨u12, hu12⟩ : ∃ z, z = sI u11 4 (u11.2.1 4 + 1) := ⟨_, rfl⟩
            rw [← hu12] at hw
            have hT2 := hT2.trans (bnd_eq hu12)
            try have hS := Eq.mp (bnd_eq hu12) hS
            refine lv_iinc (v := (v2_2 + 1)) (lv' := [(2, .int (v2_2 + 1)), (0, .ref (ad 0)), (1, .int q1)]) hx hb dX7_readsNumber_76 hl (k := 0) rfl rfl (by decide) rfl (fun ls hl => ?_)
            refine lv_goto (tgt := 7) hx hb dX7_readsNumber_79 (by decide) ?_
            exact ih2 (v2_2 + 1) u12 (hF.trans (lp_l hT2)) (hLn2 _ hT2) _ _ ls (lv_sub hl [0, 1, 2] rfl) hw
  exact L2 _ 0 u1 hF hS _ _ ls (lv_sub hl [0, 1, 2] rfl) hw
theorem gy_X7_readsEntry : gY yX7_readsEntry RX7 cX7_readsEntry 2 (some .int) wsX7_readsEntry 0 := ⟨⟨_, rfl⟩, rfl, by decide +kernel, by decide +kernel, by decide +kernel⟩
def F_X7_readsEntry (C : CS) : Int32 × CS := (bnd ((F_X7_eats C 119).2) (fun u2 => (bnd ((F_X7_eats C 119).1) (fun r1 => (if r1 = 0 then (bnd ((F_X7_eats u2 114).2) (fun u5 => (bnd ((F_X7_eats u2 114).1) (fun r4 => (if r4 = 0 then (0, u5) else (if u5.2.1 2 ≤ u5.2.1 4 then (0, u5) else (bnd (F_X7_in (u5.1 3 (u5.2.1 4).toNatClampNeg) 48 55) (fun r8 => (if r8 = 0 then (0, u5) else (bnd (sI u5 6 ((u5.1 3 (u5.2.1 4).toNatClampNeg) - 48)) (fun u11 => (bnd (sI u11 4 (u11.2.1 4 + 1)) (fun u12 => (bnd ((F_X7_eats u12 58).2) (fun u14 => (bnd ((F_X7_eats u12 58).1) (fun r13 => (if r13 = 0 then (0, u14) else (bnd ((F_X7_readsNumber u14 4).2) (fun u17 => (bnd ((F_X7_readsNumber u14 4).1) (fun r16 => (if r16 = 0 then (0, u17) else (bnd ((F_X7_eats u17 61).2) (fun u20 => (bnd ((F_X7_eats u17 61).1) (fun r19 => (if r19 = 0 then (0, u20) else (bnd (sI u20 7 (u20.2.1 5)) (fun u22 => (bnd ((F_X7_eats u22 45).2) (fun u24 => (bnd ((F_X7_eats u22 45).1) (fun r23 => (bnd ((F_X7_readsNumber u24 3).2) (fun u26 => (bnd ((F_X7_readsNumber u24 3).1) (fun r25 => (if r25 = 0 then (0, u26) else (if r23 = 0 then (bnd (sI u26 8 (u26.2.1 5)) (fun u29 => (bnd ((F_X7_eats u29 59).2) (fun u31 => (bnd ((F_X7_eats u29 59).1) (fun r30 => (if r30 = 0 then (0, u31) else (1, u31)))))))) else (bnd (sI u26 8 (-u26.2.1 5)) (fun u33 => (bnd ((F_X7_eats u33 59).2) (fun u35 => (bnd ((F_X7_eats u33 59).1) (fun r34 => (if r34 = 0 then (0, u35) else (1, u35)))))))))))))))))))))))))))))))))))))))))))))))) else (bnd ((F_X7_readsNumber u2 4).2) (fun u38 => (bnd ((F_X7_readsNumber u2 4).1) (fun r37 => (if r37 = 0 then (0, u38) else (bnd (sI u38 7 (u38.2.1 5)) (fun u40 => (bnd ((F_X7_eats u40 59).2) (fun u42 => (bnd ((F_X7_eats u40 59).1) (fun r41 => (if r41 = 0 then (0, u42) else (2, u42))))))))))))))))))
def S_X7_readsEntry (C : CS) : Prop := (S_X7_eats C 119 ∧ (bnd ((F_X7_eats C 119).2) (fun u2 => (bnd ((F_X7_eats C 119).1) (fun r1 => (if r1 = 0 then (S_X7_eats u2 114 ∧ (bnd ((F_X7_eats u2 114).2) (fun u5 => (bnd ((F_X7_eats u2 114).1) (fun r4 => (if r4 = 0 then True else (if u5.2.1 2 ≤ u5.2.1 4 then True else (vp_in (u5.2.1 4) 40 ∧ (bnd (F_X7_in (u5.1 3 (u5.2.1 4).toNatClampNeg) 48 55) (fun r8 => (if r8 = 0 then True else (vp_in (u5.2.1 4) 40 ∧ (bnd (sI u5 6 ((u5.1 3 (u5.2.1 4).toNatClampNeg) - 48)) (fun u11 => (bnd (sI u11 4 (u11.2.1 4 + 1)) (fun u12 => (S_X7_eats u12 58 ∧ (bnd ((F_X7_eats u12 58).2) (fun u14 => (bnd ((F_X7_eats u12 58).1) (fun r13 => (if r13 = 0 then True else (S_X7_readsNumber u14 4 ∧ (bnd ((F_X7_readsNumber u14 4).2) (fun u17 => (bnd ((F_X7_readsNumber u14 4).1) (fun r16 => (if r16 = 0 then True else (S_X7_eats u17 61 ∧ (bnd ((F_X7_eats u17 61).2) (fun u20 => (bnd ((F_X7_eats u17 61).1) (fun r19 => (if r19 = 0 then True else (bnd (sI u20 7 (u20.2.1 5)) (fun u22 => (S_X7_eats u22 45 ∧ (bnd ((F_X7_eats u22 45).2) (fun u24 => (bnd ((F_X7_eats u22 45).1) (fun r23 => (S_X7_readsNumber u24 3 ∧ (bnd ((F_X7_readsNumber u24 3).2) (fun u26 => (bnd ((F_X7_readsNumber u24 3).1) (fun r25 => (if r25 = 0 then True else (if r23 = 0 then (bnd (sI u26 8 (u26.2.1 5)) (fun u29 => (S_X7_eats u29 59 ∧ True))) else (bnd (sI u26 8 (-u26.2.1 5)) (fun u33 => (S_X7_eats u33 59 ∧ True))))))))))))))))))))))))))))))))))))))))))))))))))) else (S_X7_readsNumber u2 4 ∧ (bnd ((F_X7_readsNumber u2 4).2) (fun u38 => (bnd ((F_X7_readsNumber u2 4).1) (fun r37 => (if r37 = 0 then True else (bnd (sI u38 7 (u38.2.1 5)) (fun u40 => (S_X7_eats u40 59 ∧ True)))))))))))))))
abbrev rmX7_readsEntry : Room := { frames := 2, cells := 0, slots := 0, locals := 44 }
set_option maxHeartbeats 4000000 in
set_option maxRecDepth 100000 in
theorem c_X7_readsEntry (l : Launch) (D : va_G) (cy : Nat → ClassId) (ad : Nat → Nat) (rest : va_W) (C : CS) (hS : S_X7_readsEntry C) : GMi l yX7_readsEntry wsX7_readsEntry rmX7_readsEntry D cy [.ref (ad 0)] (MW cy ad C ++ rest) (fun (r : Int32) (u : CS) => r = (F_X7_readsEntry C).1 ∧ u = (F_X7_readsEntry C).2) (fun u => MW cy ad u ++ rest) := by
  refine GMi.intro cX7_readsEntry 2 RX7 (by decide) rfl rfl (Nat.le_of_ble_eq_true rfl) ?_
  intro p e s m args below meth c A Q ls X hret hl hw
  have hx := X.1
  have hb := X.2.1
  have hl : lv_has ls 2 [(0, .ref (ad 0))] := hl
  have inX7 : ∀ w ∈ wsX70, w ∈ wsX7_readsEntry := fun w h => List.mem_cons_of_mem _ (List.mem_append_left _ (List.mem_append_right _ h))
  obtain ⟨sp, hsp⟩ : ∃ sp, sp = F_X7_readsEntry C := ⟨_, rfl⟩
  have hF := hsp.trans (F_X7_readsEntry.eq_1 C)
  have hS := Eq.mp (S_X7_readsEntry.eq_1 C) hS
  refine lv_aload_n hx hb dX7_readsEntry_0 rfl (lv_at hl 0 rfl) ?_
  refine lv_bipush (v := 119) hx hb dX7_readsEntry_1 (by decide) ?_
  have hSc : S_X7_eats C 119 := hS.1
  have hS := hS.2
  refine gcV_i (rest := []) X (c_X7_eats l D cy ad rest C 119 hSc) gy_X7_eats gX7_readsEntry_X7_eats ⟨rfl, rfl, Nat.le_of_ble_eq_true rfl, Nat.le_of_ble_eq_true rfl⟩ 0 rfl rfl rfl hl rfl (Nat.le_of_ble_eq_true rfl) dX7_readsEntry_3 ⟨Nat.zero_le _, Nat.zero_le _⟩ hw (fun r1 u2 H locs hr1 hw => ?_)
  obtain ⟨⟨hr1, hu2⟩, zr1⟩ : (r1 = (F_X7_eats C 119).1 ∧ u2 = (F_X7_eats C 119).2) ∧ (r1 = 0 ∨ r1 = 1) := hr1
  have hF := hF.trans (bnd_eq hu2)
  try have hS := Eq.mp (bnd_eq hu2) hS
  have hF := hF.trans (bnd_eq hr1)
  try have hS := Eq.mp (bnd_eq hr1) hS
  refine lv_if_eq (tgt := 42) hx hb dX7_readsEntry_6 (by decide) (fun c3 => ?_) (fun c3 => ?_)
  · skip
    have hF := hF.trans (if_pos c3)
    try have hS := Eq.mp (if_pos c3) hS
    refine lv_aload_n hx hb dX7_readsEntry_42 rfl (lv_at hl 0 rfl) ?_
    refine lv_bipush (v := 114) hx hb dX7_readsEntry_43 (by decide) ?_
    have hSc : S_X7_eats u2 114 := hS.1
    have hS := hS.2
    refine gcV_i (rest := []) X (c_X7_eats l D cy ad rest u2 114 hSc) gy_X7_eats gX7_readsEntry_X7_eats ⟨rfl, rfl, Nat.le_of_ble_eq_true rfl, Nat.le_of_ble_eq_true rfl⟩ 0 rfl rfl rfl hl rfl (Nat.le_of_ble_eq_true rfl) dX7_readsEntry_45 ⟨Nat.zero_le _, Nat.zero_le _⟩ hw (fun r4 u5 H locs hr4 hw => ?_)
    obtain ⟨⟨hr4, hu5⟩, zr4⟩ : (r4 = (F_X7_eats u2 114).1 ∧ u5 = (F_X7_eats u2 114).2) ∧ (r4 = 0 ∨ r4 = 1) := hr4
    have hF := hF.trans (bnd_eq hu5)
    try have hS := Eq.mp (bnd_eq hu5) hS
    have hF := hF.trans (bnd_eq hr4)
    try have hS := Eq.mp (bnd_eq hr4) hS
    refine lv_if_eq (tgt := 81) hx hb dX7_readsEntry_48 (by decide) (fun c6 => ?_) (fun c6 => ?_)
    · skip
      have hF := hF.trans (if_pos c6)
      try have hS := Eq.mp (if_pos c6) hS
      refine lv_iconst (v := 0) hx hb dX7_readsEntry_81 (by decide) ?_
      exact hret _ _ _ _ _ _ dX7_readsEntry_82 ⟨congrArg Prod.fst (hF.symm.trans hsp), congrArg Prod.snd (hF.symm.trans hsp)⟩ hw
    · skip
      have hF := hF.trans (if_neg c6)
      try have hS := Eq.mp (if_neg c6) hS
      refine lv_aload_n hx hb dX7_readsEntry_51 rfl (lv_at hl 0 rfl) ?_
      refine g_get (v := .int (u5.2.1 4)) (C := RX7) (T := TX7) (N := 16) (ci := 9) X inX7 hw 0 rfl rfl 11 (by decide) (List.mem_of_getElem? (i := 3) rfl) rfl rfl dX7_readsEntry_52 ?_
      refine lv_aload_n hx hb dX7_readsEntry_55 rfl (lv_at hl 0 rfl) ?_
      refine g_get (v := .int (u5.2.1 2)) (C := RX7) (T := TX7) (N := 16) (ci := 9) X inX7 hw 0 rfl rfl 9 (by decide) (List.mem_of_getElem? (i := 4) rfl) rfl rfl dX7_readsEntry_56 ?_
      refine lv_icmp_ge (tgt := 81) hx hb dX7_readsEntry_59 (by decide) (fun c7 => ?_) (fun c7 => ?_)
      · skip
        have hF := hF.trans (if_pos c7)
        try have hS := Eq.mp (if_pos c7) hS
        refine lv_iconst (v := 0) hx hb dX7_readsEntry_81 (by decide) ?_
        exact hret _ _ _ _ _ _ dX7_readsEntry_82 ⟨congrArg Prod.fst (hF.symm.trans hsp), congrArg Prod.snd (hF.symm.trans hsp)⟩ hw
      · skip
        have hF := hF.trans (if_neg c7)
        try have hS := Eq.mp (if_neg c7) hS
        refine lv_aload_n hx hb dX7_readsEntry_62 rfl (lv_at hl 0 rfl) ?_
        refine g_get (v := .ref (ad 4)) (C := RX7) (T := TX7) (N := 16) (ci := 9) X inX7 hw 0 rfl rfl 8 (by decide) (List.mem_of_getElem? (i := 5) rfl) rfl rfl dX7_readsEntry_63 ?_
        refine lv_aload_n hx hb dX7_readsEntry_66 rfl (lv_at hl 0 rfl) ?_
        refine g_get (v := .int (u5.2.1 4)) (C := RX7) (T := TX7) (N := 16) (ci := 9) X inX7 hw 0 rfl rfl 11 (by decide) (List.mem_of_getElem? (i := 3) rfl) rfl rfl dX7_readsEntry_67 ?_
        refine g_cald X hw 4 rfl hS.1 dX7_readsEntry_70 ?_
        have hS := hS.2
        refine lv_bipush (v := 48) hx hb dX7_readsEntry_71 (by decide) ?_
        refine lv_bipush (v := 55) hx hb dX7_readsEntry_73 (by decide) ?_
        refine gcS_i (rest := []) X (c_X7_in l D cy (MW cy ad u5 ++ rest) (u5.1 3 (u5.2.1 4).toNatClampNeg) 48 55) gy_X7_in gX7_readsEntry_X7_in ⟨rfl, rfl, Nat.le_of_ble_eq_true rfl, Nat.le_of_ble_eq_true rfl⟩ rfl hl rfl (Nat.le_of_ble_eq_true rfl) dX7_readsEntry_75 ⟨Nat.zero_le _, Nat.zero_le _⟩ hw (fun r8 _ H locs hr8 hw => ?_)
        obtain ⟨hr8, zr8⟩ : r8 = F_X7_in (u5.1 3 (u5.2.1 4).toNatClampNeg) 48 55 ∧ (r8 = 0 ∨ r8 = 1) := hr8
        have hF := hF.trans (bnd_eq hr8)
        try have hS := Eq.mp (bnd_eq hr8) hS
        refine lv_if_ne (tgt := 83) hx hb dX7_readsEntry_78 (by decide) (fun c10 => ?_) (fun c10 => ?_)
        · skip
          have hF := hF.trans (if_neg c10)
          try have hS := Eq.mp (if_neg c10) hS
          refine lv_aload_n hx hb dX7_readsEntry_83 rfl (lv_at hl 0 rfl) ?_
          refine lv_aload_n hx hb dX7_readsEntry_84 rfl (lv_at hl 0 rfl) ?_
          refine g_get (v := .ref (ad 4)) (C := RX7) (T := TX7) (N := 16) (ci := 9) X inX7 hw 0 rfl rfl 8 (by decide) (List.mem_of_getElem? (i := 5) rfl) rfl rfl dX7_readsEntry_85 ?_
          refine lv_aload_n hx hb dX7_readsEntry_88 rfl (lv_at hl 0 rfl) ?_
          refine g_get (v := .int (u5.2.1 4)) (C := RX7) (T := TX7) (N := 16) (ci := 9) X inX7 hw 0 rfl rfl 11 (by decide) (List.mem_of_getElem? (i := 3) rfl) rfl rfl dX7_readsEntry_89 ?_
          refine g_cald X hw 4 rfl hS.1 dX7_readsEntry_92 ?_
          have hS := hS.2
          refine lv_bipush (v := 48) hx hb dX7_readsEntry_93 (by decide) ?_
          refine lv_isub hx hb dX7_readsEntry_95 ?_
          refine g_put (v := .int ((u5.1 3 (u5.2.1 4).toNatClampNeg) - 48)) (C := RX7) (T := TX7) (N := 16) (ci := 9) (w' := MW cy ad (sI u5 6 ((u5.1 3 (u5.2.1 4).toNatClampNeg) - 48)) ++ rest) X inX7 tyX7 tyX7_ok nmX7 hw 0 rfl rfl 13 (by decide) (List.mem_of_getElem? (i := 6) rfl) rfl rfl rfl rfl (Nat.le_of_ble_eq_true rfl) rfl dX7_readsEntry_96 (fun H locs hw => ?_)
          obtain ⟨u11, hu11⟩ : ∃ z, z = sI u5 6 ((u5.1 3 (u5.2.1 4).toNatClampNeg) - 48) := ⟨_, rfl⟩
          rw [← hu11] at hw
          have hF := hF.trans (bnd_eq hu11)
          try have hS := Eq.mp (bnd_eq hu11) hS
          refine lv_aload_n hx hb dX7_readsEntry_99 rfl (lv_at hl 0 rfl) ?_
          refine lv_dup hx hb dX7_readsEntry_100 rfl ?_
          refine g_get (v := .int (u11.2.1 4)) (C := RX7) (T := TX7) (N := 16) (ci := 9) X inX7 hw 0 rfl rfl 11 (by decide) (List.mem_of_getElem? (i := 3) rfl) rfl rfl dX7_readsEntry_101 ?_
          refine lv_iconst (v := 1) hx hb dX7_readsEntry_104 (by decide) ?_
          refine lv_iadd hx hb dX7_readsEntry_105 ?_
          refine g_put (v := .int (u11.2.1 4 + 1)) (C := RX7) (T := TX7) (N := 16) (ci := 9) (w' := MW cy ad (sI u11 4 (u11.2.1 4 + 1)) ++ rest) X inX7 tyX7 tyX7_ok nmX7 hw 0 rfl rfl 11 (by decide) (List.mem_of_getElem? (i := 3) rfl) rfl rfl rfl rfl (Nat.le_of_ble_eq_true rfl) rfl dX7_readsEntry_106 (fun H locs hw => ?_)
          obtain ⟨u12, hu12⟩ : ∃ z, z = sI u11 4 (u11.2.1 4 + 1) := ⟨_, rfl⟩
          rw [← hu12] at hw
          have hF := hF.trans (bnd_eq hu12)
          try have hS := Eq.mp (bnd_eq hu12) hS
          refine lv_aload_n hx hb dX7_readsEntry_109 rfl (lv_at hl 0 rfl) ?_
          refine lv_bipush (v := 58) hx hb dX7_readsEntry_110 (by decide) ?_
          have hSc : S_X7_eats u12 58 := hS.1
          have hS := hS.2
          refine gcV_i (rest := []) X (c_X7_eats l D cy ad rest u12 58 hSc) gy_X7_eats gX7_readsEntry_X7_eats ⟨rfl, rfl, Nat.le_of_ble_eq_true rfl, Nat.le_of_ble_eq_true rfl⟩ 0 rfl rfl rfl hl rfl (Nat.le_of_ble_eq_true rfl) dX7_readsEntry_112 ⟨Nat.zero_le _, Nat.zero_le _⟩ hw (fun r13 u14 H locs hr13 hw => ?_)
          obtain ⟨⟨hr13, hu14⟩, zr13⟩ : (r13 = (F_X7_eats u12 58).1 ∧ u14 = (F_X7_eats u12 58).2) ∧ (r13 = 0 ∨ r13 = 1) := hr13
          have hF := hF.trans (bnd_eq hu14)
          try have hS := Eq.mp (bnd_eq hu14) hS
          have hF := hF.trans (bnd_eq hr13)
          try have hS := Eq.mp (bnd_eq hr13) hS
          refine lv_if_eq (tgt := 135) hx hb dX7_readsEntry_115 (by decide) (fun c15 => ?_) (fun c15 => ?_)
          · skip
            have hF := hF.trans (if_pos c15)
            try have hS := Eq.mp (if_pos c15) hS
            refine lv_iconst (v := 0) hx hb dX7_readsEntry_135 (by decide) ?_
            exact hret _ _ _ _ _ _ dX7_readsEntry_136 ⟨congrArg Prod.fst (hF.symm.trans hsp), congrArg Prod.snd (hF.symm.trans hsp)⟩ hw
          · skip
            have hF := hF.trans (if_neg c15)
            try have hS := Eq.mp (if_neg c15) hS
            refine lv_aload_n hx hb dX7_readsEntry_118 rfl (lv_at hl 0 rfl) ?_
            refine lv_iconst (v := 4) hx hb dX7_readsEntry_119 (by decide) ?_
            have hSc : S_X7_readsNumber u14 4 := hS.1
            have hS := hS.2
            refine gcV_i (rest := []) X (c_X7_readsNumber l D cy ad rest u14 4 hSc) gy_X7_readsNumber gX7_readsEntry_X7_readsNumber ⟨rfl, rfl, Nat.le_of_ble_eq_true rfl, Nat.le_of_ble_eq_true rfl⟩ 0 rfl rfl rfl hl rfl (Nat.le_of_ble_eq_true rfl) dX7_readsEntry_120 ⟨Nat.zero_le _, Nat.zero_le _⟩ hw (fun r16 u17 H locs hr16 hw => ?_)
            obtain ⟨⟨hr16, hu17⟩, zr16⟩ : (r16 = (F_X7_readsNumber u14 4).1 ∧ u17 = (F_X7_readsNumber u14 4).2) ∧ (r16 = 0 ∨ r16 = 1) := hr16
            have hF := hF.trans (bnd_eq hu17)
            try have hS := Eq.mp (bnd_eq hu17) hS
            have hF := hF.trans (bnd_eq hr16)
            try have hS := Eq.mp (bnd_eq hr16) hS
            refine lv_if_eq (tgt := 135) hx hb dX7_readsEntry_123 (by decide) (fun c18 => ?_) (fun c18 => ?_)
            · skip
              have hF := hF.trans (if_pos c18)
              try have hS := Eq.mp (if_pos c18) hS
              refine lv_iconst (v := 0) hx hb dX7_readsEntry_135 (by decide) ?_
              exact hret _ _ _ _ _ _ dX7_readsEntry_136 ⟨congrArg Prod.fst (hF.symm.trans hsp), congrArg Prod.snd (hF.symm.trans hsp)⟩ hw
            · skip
              have hF := hF.trans (if_neg c18)
              try have hS := Eq.mp (if_neg c18) hS
              refine lv_aload_n hx hb dX7_readsEntry_126 rfl (lv_at hl 0 rfl) ?_
              refine lv_bipush (v := 61) hx hb dX7_readsEntry_127 (by decide) ?_
              have hSc : S_X7_eats u17 61 := hS.1
              have hS := hS.2
              refine gcV_i (rest := []) X (c_X7_eats l D cy ad rest u17 61 hSc) gy_X7_eats gX7_readsEntry_X7_eats ⟨rfl, rfl, Nat.le_of_ble_eq_true rfl, Nat.le_of_ble_eq_true rfl⟩ 0 rfl rfl rfl hl rfl (Nat.le_of_ble_eq_true rfl) dX7_readsEntry_129 ⟨Nat.zero_le _, Nat.zero_le _⟩ hw (fun r19 u20 H locs hr19 hw => ?_)
              obtain ⟨⟨hr19, hu20⟩, zr19⟩ : (r19 = (F_X7_eats u17 61).1 ∧ u20 = (F_X7_eats u17 61).2) ∧ (r19 = 0 ∨ r19 = 1) := hr19
              have hF := hF.trans (bnd_eq hu20)
              try have hS := Eq.mp (bnd_eq hu20) hS
              have hF := hF.trans (bnd_eq hr19)
              try have hS := Eq.mp (bnd_eq hr19) hS
              refine lv_if_ne (tgt := 137) hx hb dX7_readsEntry_132 (by decide) (fun c21 => ?_) (fun c21 => ?_)
              · skip
                have hF := hF.trans (if_neg c21)
                try have hS := Eq.mp (if_neg c21) hS
                refine lv_aload_n hx hb dX7_readsEntry_137 rfl (lv_at hl 0 rfl) ?_
                refine lv_aload_n hx hb dX7_readsEntry_138 rfl (lv_at hl 0 rfl) ?_
                refine g_get (v := .int (u20.2.1 5)) (C := RX7) (T := TX7) (N := 16) (ci := 9) X inX7 hw 0 rfl rfl 12 (by decide) (List.mem_of_getElem? (i := 1) rfl) rfl rfl dX7_readsEntry_139 ?_
                refine g_put (v := .int (u20.2.1 5)) (C := RX7) (T := TX7) (N := 16) (ci := 9) (w' := MW cy ad (sI u20 7 (u20.2.1 5)) ++ rest) X inX7 tyX7 tyX7_ok nmX7 hw 0 rfl rfl 14 (by decide) (List.mem_of_getElem? (i := 2) rfl) rfl rfl rfl rfl (Nat.le_of_ble_eq_true rfl) rfl dX7_readsEntry_142 (fun H locs hw => ?_)
                obtain ⟨u22, hu22⟩ : ∃ z, z = sI u20 7 (u20.2.1 5) := ⟨_, rfl⟩
                rw [← hu22] at hw
                have hF := hF.trans (bnd_eq hu22)
                try have hS := Eq.mp (bnd_eq hu22) hS
                refine lv_aload_n hx hb dX7_readsEntry_145 rfl (lv_at hl 0 rfl) ?_
                refine lv_bipush (v := 45) hx hb dX7_readsEntry_146 (by decide) ?_
                have hSc : S_X7_eats u22 45 := hS.1
                have hS := hS.2
                refine gcV_i (rest := []) X (c_X7_eats l D cy ad rest u22 45 hSc) gy_X7_eats gX7_readsEntry_X7_eats ⟨rfl, rfl, Nat.le_of_ble_eq_true rfl, Nat.le_of_ble_eq_true rfl⟩ 0 rfl rfl rfl hl rfl (Nat.le_of_ble_eq_true rfl) dX7_readsEntry_148 ⟨Nat.zero_le _, Nat.zero_le _⟩ hw (fun r23 u24 H locs hr23 hw => ?_)
                obtain ⟨⟨hr23, hu24⟩, zr23⟩ : (r23 = (F_X7_eats u22 45).1 ∧ u24 = (F_X7_eats u22 45).2) ∧ (r23 = 0 ∨ r23 = 1) := hr23
                have hF := hF.trans (bnd_eq hu24)
                try have hS := Eq.mp (bnd_eq hu24) hS
                have hF := hF.trans (bnd_eq hr23)
                try have hS := Eq.mp (bnd_eq hr23) hS
                refine lv_istore_n (lv' := [(1, .int r23), (0, .ref (ad 0))]) hx hb dX7_readsEntry_151 rfl hl (by decide) rfl (fun ls hl => ?_)
                refine lv_aload_n hx hb dX7_readsEntry_152 rfl (lv_at hl 1 rfl) ?_
                refine lv_iconst (v := 3) hx hb dX7_readsEntry_153 (by decide) ?_
                have hSc : S_X7_readsNumber u24 3 := hS.1
                have hS := hS.2
                refine gcV_i (rest := []) X (c_X7_readsNumber l D cy ad rest u24 3 hSc) gy_X7_readsNumber gX7_readsEntry_X7_readsNumber ⟨rfl, rfl, Nat.le_of_ble_eq_true rfl, Nat.le_of_ble_eq_true rfl⟩ 0 rfl rfl rfl hl rfl (Nat.le_of_ble_eq_true rfl) dX7_readsEntry_154 ⟨Nat.zero_le _, Nat.zero_le _⟩ hw (fun r25 u26 H locs hr25 hw => ?_)
                obtain ⟨⟨hr25, hu26⟩, zr25⟩ : (r25 = (F_X7_readsNumber u24 3).1 ∧ u26 = (F_X7_readsNumber u24 3).2) ∧ (r25 = 0 ∨ r25 = 1) := hr25
                have hF := hF.trans (bnd_eq hu26)
                try have hS := Eq.mp (bnd_eq hu26) hS
                have hF := hF.trans (bnd_eq hr25)
                try have hS := Eq.mp (bnd_eq hr25) hS
                refine lv_if_ne (tgt := 162) hx hb dX7_readsEntry_157 (by decide) (fun c27 => ?_) (fun c27 => ?_)
                · skip
                  have hF := hF.trans (if_neg c27)
                  try have hS := Eq.mp (if_neg c27) hS
                  refine lv_aload_n hx hb dX7_readsEntry_162 rfl (lv_at hl 1 rfl) ?_
                  refine lv_iload_n hx hb dX7_readsEntry_163 rfl (lv_at hl 0 rfl) ?_
                  refine lv_if_eq (tgt := 175) hx hb dX7_readsEntry_164 (by decide) (fun c28 => ?_) (fun c28 => ?_)
                  · skip
                    have hF := hF.trans (if_pos c28)
                    try have hS := Eq.mp (if_pos c28) hS
                    refine lv_aload_n hx hb dX7_readsEntry_175 rfl (lv_at hl 1 rfl) ?_
                    refine g_get (v := .int (u26.2.1 5)) (C := RX7) (T := TX7) (N := 16) (ci := 9) X inX7 hw 0 rfl rfl 12 (by decide) (List.mem_of_getElem? (i := 1) rfl) rfl rfl dX7_readsEntry_176 ?_
                    refine g_put (v := .int (u26.2.1 5)) (C := RX7) (T := TX7) (N := 16) (ci := 9) (w' := MW cy ad (sI u26 8 (u26.2.1 5)) ++ rest) X inX7 tyX7 tyX7_ok nmX7 hw 0 rfl rfl 15 (by decide) (List.mem_of_getElem? (i := 7) rfl) rfl rfl rfl rfl (Nat.le_of_ble_eq_true rfl) rfl dX7_readsEntry_179 (fun H locs hw => ?_)
                    obtain ⟨u29, hu29⟩ : ∃ z, z = sI u26 8 (u26.2.1 5) := ⟨_, rfl⟩
                    rw [← hu29] at hw
                    have hF := hF.trans (bnd_eq hu29)
                    try have hS := Eq.mp (bnd_eq hu29) hS
                    refine lv_aload_n hx hb dX7_readsEntry_182 rfl (lv_at hl 1 rfl) ?_
                    refine lv_bipush (v := 59) hx hb dX7_readsEntry_183 (by decide) ?_
                    have hSc : S_X7_eats u29 59 := hS.1
                    have hS := hS.2
                    refine gcV_i (rest := []) X (c_X7_eats l D cy ad rest u29 59 hSc) gy_X7_eats gX7_readsEntry_X7_eats ⟨rfl, rfl, Nat.le_of_ble_eq_true rfl, Nat.le_of_ble_eq_true rfl⟩ 0 rfl rfl rfl hl rfl (Nat.le_of_ble_eq_true rfl) dX7_readsEntry_185 ⟨Nat.zero_le _, Nat.zero_le _⟩ hw (fun r30 u31 H locs hr30 hw => ?_)
                    obtain ⟨⟨hr30, hu31⟩, zr30⟩ : (r30 = (F_X7_eats u29 59).1 ∧ u31 = (F_X7_eats u29 59).2) ∧ (r30 = 0 ∨ r30 = 1) := hr30
                    have hF := hF.trans (bnd_eq hu31)
                    try have hS := Eq.mp (bnd_eq hu31) hS
                    have hF := hF.trans (bnd_eq hr30)
                    try have hS := Eq.mp (bnd_eq hr30) hS
                    refine lv_if_eq (tgt := 195) hx hb dX7_readsEntry_188 (by decide) (fun c32 => ?_) (fun c32 => ?_)
                    · skip
                      have hF := hF.trans (if_pos c32)
                      try have hS := Eq.mp (if_pos c32) hS
                      refine lv_iconst (v := 0) hx hb dX7_readsEntry_195 (by decide) ?_
                      exact hret _ _ _ _ _ _ dX7_readsEntry_196 ⟨congrArg Prod.fst (hF.symm.trans hsp), congrArg Prod.snd (hF.symm.trans hsp)⟩ hw
                    · skip
                      have hF := hF.trans (if_neg c32)
                      try have hS := Eq.mp (if_neg c32) hS
                      refine lv_iconst (v := 1) hx hb dX7_readsEntry_191 (by decide) ?_
                      refine lv_goto (tgt := 196) hx hb dX7_readsEntry_192 (by decide) ?_
                      exact hret _ _ _ _ _ _ dX7_readsEntry_196 ⟨congrArg Prod.fst (hF.symm.trans hsp), congrArg Prod.snd (hF.symm.trans hsp)⟩ hw
                  · skip
                    have hF := hF.trans (if_neg c28)
                    try have hS := Eq.mp (if_neg c28) hS
                    refine lv_aload_n hx hb dX7_readsEntry_167 rfl (lv_at hl 1 rfl) ?_
                    refine g_get (v := .int (u26.2.1 5)) (C := RX7) (T := TX7) (N := 16) (ci := 9) X inX7 hw 0 rfl rfl 12 (by decide) (List.mem_of_getElem? (i := 1) rfl) rfl rfl dX7_readsEntry_168 ?_
                    refine lv_ineg hx hb dX7_readsEntry_171 ?_
                    refine lv_goto (tgt := 179) hx hb dX7_readsEntry_172 (by decide) ?_
                    refine g_put (v := .int (-u26.2.1 5)) (C := RX7) (T := TX7) (N := 16) (ci := 9) (w' := MW cy ad (sI u26 8 (-u26.2.1 5)) ++ rest) X inX7 tyX7 tyX7_ok nmX7 hw 0 rfl rfl 15 (by decide) (List.mem_of_getElem? (i := 7) rfl) rfl rfl rfl rfl (Nat.le_of_ble_eq_true rfl) rfl dX7_readsEntry_179 (fun H locs hw => ?_)
                    obtain ⟨u33, hu33⟩ : ∃ z, z = sI u26 8 (-u26.2.1 5) := ⟨_, rfl⟩
                    rw [← hu33] at hw
                    have hF := hF.trans (bnd_eq hu33)
                    try have hS := Eq.mp (bnd_eq hu33) hS
                    refine lv_aload_n hx hb dX7_readsEntry_182 rfl (lv_at hl 1 rfl) ?_
                    refine lv_bipush (v := 59) hx hb dX7_readsEntry_183 (by decide) ?_
                    have hSc : S_X7_eats u33 59 := hS.1
                    have hS := hS.2
                    refine gcV_i (rest := []) X (c_X7_eats l D cy ad rest u33 59 hSc) gy_X7_eats gX7_readsEntry_X7_eats ⟨rfl, rfl, Nat.le_of_ble_eq_true rfl, Nat.le_of_ble_eq_true rfl⟩ 0 rfl rfl rfl hl rfl (Nat.le_of_ble_eq_true rfl) dX7_readsEntry_185 ⟨Nat.zero_le _, Nat.zero_le _⟩ hw (fun r34 u35 H locs hr34 hw => ?_)
                    obtain ⟨⟨hr34, hu35⟩, zr34⟩ : (r34 = (F_X7_eats u33 59).1 ∧ u35 = (F_X7_eats u33 59).2) ∧ (r34 = 0 ∨ r34 = 1) := hr34
                    have hF := hF.trans (bnd_eq hu35)
                    try have hS := Eq.mp (bnd_eq hu35) hS
                    have hF := hF.trans (bnd_eq hr34)
                    try have hS := Eq.mp (bnd_eq hr34) hS
                    refine lv_if_eq (tgt := 195) hx hb dX7_readsEntry_188 (by decide) (fun c36 => ?_) (fun c36 => ?_)
                    · skip
                      have hF := hF.trans (if_pos c36)
                      try have hS := Eq.mp (if_pos c36) hS
                      refine lv_iconst (v := 0) hx hb dX7_readsEntry_195 (by decide) ?_
                      exact hret _ _ _ _ _ _ dX7_readsEntry_196 ⟨congrArg Prod.fst (hF.symm.trans hsp), congrArg Prod.snd (hF.symm.trans hsp)⟩ hw
                    · skip
                      have hF := hF.trans (if_neg c36)
                      try have hS := Eq.mp (if_neg c36) hS
                      refine lv_iconst (v := 1) hx hb dX7_readsEntry_191 (by decide) ?_
                      refine lv_goto (tgt := 196) hx hb dX7_readsEntry_192 (by decide) ?_
                      exact hret _ _ _ _ _ _ dX7_readsEntry_196 ⟨congrArg Prod.fst (hF.symm.trans hsp), congrArg Prod.snd (hF.symm.trans hsp)⟩ hw
                · skip
                  have hF := hF.trans (if_pos c27)
                  try have hS := Eq.mp (if_pos c27) hS
                  refine lv_iconst (v := 0) hx hb dX7_readsEntry_160 (by decide) ?_
                  exact hret _ _ _ _ _ _ dX7_readsEntry_161 ⟨congrArg Prod.fst (hF.symm.trans hsp), congrArg Prod.snd (hF.symm.trans hsp)⟩ hw
              · skip
                have hF := hF.trans (if_pos c21)
                try have hS := Eq.mp (if_pos c21) hS
                refine lv_iconst (v := 0) hx hb dX7_readsEntry_135 (by decide) ?_
                exact hret _ _ _ _ _ _ dX7_readsEntry_136 ⟨congrArg Prod.fst (hF.symm.trans hsp), congrArg Prod.snd (hF.symm.trans hsp)⟩ hw
        · skip
          have hF := hF.trans (if_pos c10)
          try have hS := Eq.mp (if_pos c10) hS
          refine lv_iconst (v := 0) hx hb dX7_readsEntry_81 (by decide) ?_
          exact hret _ _ _ _ _ _ dX7_readsEntry_82 ⟨congrArg Prod.fst (hF.symm.trans hsp), congrArg Prod.snd (hF.symm.trans hsp)⟩ hw
  · skip
    have hF := hF.trans (if_neg c3)
    try have hS := Eq.mp (if_neg c3) hS
    refine lv_aload_n hx hb dX7_readsEntry_9 rfl (lv_at hl 0 rfl) ?_
    refine lv_iconst (v := 4) hx hb dX7_readsEntry_10 (by decide) ?_
    have hSc : S_X7_readsNumber u2 4 := hS.1
    have hS := hS.2
    refine gcV_i (rest := []) X (c_X7_readsNumber l D cy ad rest u2 4 hSc) gy_X7_readsNumber gX7_readsEntry_X7_readsNumber ⟨rfl, rfl, Nat.le_of_ble_eq_true rfl, Nat.le_of_ble_eq_true rfl⟩ 0 rfl rfl rfl hl rfl (Nat.le_of_ble_eq_true rfl) dX7_readsEntry_11 ⟨Nat.zero_le _, Nat.zero_le _⟩ hw (fun r37 u38 H locs hr37 hw => ?_)
    obtain ⟨⟨hr37, hu38⟩, zr37⟩ : (r37 = (F_X7_readsNumber u2 4).1 ∧ u38 = (F_X7_readsNumber u2 4).2) ∧ (r37 = 0 ∨ r37 = 1) := hr37
    have hF := hF.trans (bnd_eq hu38)
    try have hS := Eq.mp (bnd_eq hu38) hS
    have hF := hF.trans (bnd_eq hr37)
    try have hS := Eq.mp (bnd_eq hr37) hS
    refine lv_if_ne (tgt := 19) hx hb dX7_readsEntry_14 (by decide) (fun c39 => ?_) (fun c39 => ?_)
    · skip
      have hF := hF.trans (if_neg c39)
      try have hS := Eq.mp (if_neg c39) hS
      refine lv_aload_n hx hb dX7_readsEntry_19 rfl (lv_at hl 0 rfl) ?_
      refine lv_aload_n hx hb dX7_readsEntry_20 rfl (lv_at hl 0 rfl) ?_
      refine g_get (v := .int (u38.2.1 5)) (C := RX7) (T := TX7) (N := 16) (ci := 9) X inX7 hw 0 rfl rfl 12 (by decide) (List.mem_of_getElem? (i := 1) rfl) rfl rfl dX7_readsEntry_21 ?_
      refine g_put (v := .int (u38.2.1 5)) (C := RX7) (T := TX7) (N := 16) (ci := 9) (w' := MW cy ad (sI u38 7 (u38.2.1 5)) ++ rest) X inX7 tyX7 tyX7_ok nmX7 hw 0 rfl rfl 14 (by decide) (List.mem_of_getElem? (i := 2) rfl) rfl rfl rfl rfl (Nat.le_of_ble_eq_true rfl) rfl dX7_readsEntry_24 (fun H locs hw => ?_)
      obtain ⟨u40, hu40⟩ : ∃ z, z = sI u38 7 (u38.2.1 5) := ⟨_, rfl⟩
      rw [← hu40] at hw
      have hF := hF.trans (bnd_eq hu40)
      try have hS := Eq.mp (bnd_eq hu40) hS
      refine lv_aload_n hx hb dX7_readsEntry_27 rfl (lv_at hl 0 rfl) ?_
      refine lv_bipush (v := 59) hx hb dX7_readsEntry_28 (by decide) ?_
      have hSc : S_X7_eats u40 59 := hS.1
      have hS := hS.2
      refine gcV_i (rest := []) X (c_X7_eats l D cy ad rest u40 59 hSc) gy_X7_eats gX7_readsEntry_X7_eats ⟨rfl, rfl, Nat.le_of_ble_eq_true rfl, Nat.le_of_ble_eq_true rfl⟩ 0 rfl rfl rfl hl rfl (Nat.le_of_ble_eq_true rfl) dX7_readsEntry_30 ⟨Nat.zero_le _, Nat.zero_le _⟩ hw (fun r41 u42 H locs hr41 hw => ?_)
      obtain ⟨⟨hr41, hu42⟩, zr41⟩ : (r41 = (F_X7_eats u40 59).1 ∧ u42 = (F_X7_eats u40 59).2) ∧ (r41 = 0 ∨ r41 = 1) := hr41
      have hF := hF.trans (bnd_eq hu42)
      try have hS := Eq.mp (bnd_eq hu42) hS
      have hF := hF.trans (bnd_eq hr41)
      try have hS := Eq.mp (bnd_eq hr41) hS
      refine lv_if_eq (tgt := 40) hx hb dX7_readsEntry_33 (by decide) (fun c43 => ?_) (fun c43 => ?_)
      · skip
        have hF := hF.trans (if_pos c43)
        try have hS := Eq.mp (if_pos c43) hS
        refine lv_iconst (v := 0) hx hb dX7_readsEntry_40 (by decide) ?_
        exact hret _ _ _ _ _ _ dX7_readsEntry_41 ⟨congrArg Prod.fst (hF.symm.trans hsp), congrArg Prod.snd (hF.symm.trans hsp)⟩ hw
      · skip
        have hF := hF.trans (if_neg c43)
        try have hS := Eq.mp (if_neg c43) hS
        refine lv_iconst (v := 2) hx hb dX7_readsEntry_36 (by decide) ?_
        refine lv_goto (tgt := 41) hx hb dX7_readsEntry_37 (by decide) ?_
        exact hret _ _ _ _ _ _ dX7_readsEntry_41 ⟨congrArg Prod.fst (hF.symm.trans hsp), congrArg Prod.snd (hF.symm.trans hsp)⟩ hw
    · skip
      have hF := hF.trans (if_pos c39)
      try have hS := Eq.mp (if_pos c39) hS
      refine lv_iconst (v := 0) hx hb dX7_readsEntry_17 (by decide) ?_
      exact hret _ _ _ _ _ _ dX7_readsEntry_18 ⟨congrArg Prod.fst (hF.symm.trans hsp), congrArg Prod.snd (hF.symm.trans hsp)⟩ hw
theorem gy_X7_countsEntries : gY yX7_countsEntries RX7 cX7_countsEntries 3 (some .int) wsX7_countsEntries 0 := ⟨⟨_, rfl⟩, rfl, by decide +kernel, by decide +kernel, by decide +kernel⟩
def st_X7_countsEntries_9 (v2_2 : Int32) (v2_1 : Int32) (w2 : CS) : (Int32 × Int32 × CS) ⊕ (Int32 × CS) := (if v2_2 = 0 then (if v2_2 = 0 then .inr (((-1), w2)) else .inr ((v2_1, w2))) else (if v2_1 = 0 then (bnd ((F_X7_readsEntry w2).2) (fun u7 => (bnd ((F_X7_readsEntry w2).1) (fun r6 => (if r6 = 0 then .inl (r6, (v2_1 + 0), u7) else .inl (r6, (v2_1 + 1), u7)))))) else (if w2.2.1 2 ≤ w2.2.1 4 then (if v2_2 = 0 then .inr (((-1), w2)) else .inr ((v2_1, w2))) else (bnd ((F_X7_readsEntry w2).2) (fun u12 => (bnd ((F_X7_readsEntry w2).1) (fun r11 => (if r11 = 0 then .inl (r11, (v2_1 + 0), u12) else .inl (r11, (v2_1 + 1), u12)))))))))
def Sst_X7_countsEntries_9 (v2_2 : Int32) (v2_1 : Int32) (w2 : CS) : Prop := (if v2_2 = 0 then True else (if v2_1 = 0 then (S_X7_readsEntry w2 ∧ True) else (if w2.2.1 2 ≤ w2.2.1 4 then True else (S_X7_readsEntry w2 ∧ True))))
def F_X7_countsEntries (C : CS) : Int32 × CS := (bnd (sI C 4 0) (fun u1 => lp (fun (z : Int32 × Int32 × CS) => st_X7_countsEntries_9 z.1 z.2.1 z.2.2) (0, C) 101 (1, 0, u1)))
def S_X7_countsEntries (C : CS) : Prop := (bnd (sI C 4 0) (fun u1 => lpS (fun (z : Int32 × Int32 × CS) => st_X7_countsEntries_9 z.1 z.2.1 z.2.2) (fun (z : Int32 × Int32 × CS) => Sst_X7_countsEntries_9 z.1 z.2.1 z.2.2) 101 (1, 0, u1)))
abbrev rmX7_countsEntries : Room := { frames := 3, cells := 0, slots := 0, locals := 65 }
set_option maxHeartbeats 4000000 in
set_option maxRecDepth 100000 in
theorem c_X7_countsEntries (l : Launch) (D : va_G) (cy : Nat → ClassId) (ad : Nat → Nat) (rest : va_W) (C : CS) (hS : S_X7_countsEntries C) : GMi l yX7_countsEntries wsX7_countsEntries rmX7_countsEntries D cy [.ref (ad 0)] (MW cy ad C ++ rest) (fun (r : Int32) (u : CS) => r = (F_X7_countsEntries C).1 ∧ u = (F_X7_countsEntries C).2) (fun u => MW cy ad u ++ rest) := by
  refine GMi.intro cX7_countsEntries 3 RX7 (by decide) rfl rfl (Nat.le_of_ble_eq_true rfl) ?_
  intro p e s m args below meth c A Q ls X hret hl hw
  have hx := X.1
  have hb := X.2.1
  have hl : lv_has ls 3 [(0, .ref (ad 0))] := hl
  have inX7 : ∀ w ∈ wsX70, w ∈ wsX7_countsEntries := fun w h => List.mem_cons_of_mem _ (List.mem_append_left _ (List.mem_append_right _ h))
  obtain ⟨sp, hsp⟩ : ∃ sp, sp = F_X7_countsEntries C := ⟨_, rfl⟩
  have hF := hsp.trans (F_X7_countsEntries.eq_1 C)
  have hS := Eq.mp (S_X7_countsEntries.eq_1 C) hS
  refine lv_aload_n hx hb dX7_countsEntries_0 rfl (lv_at hl 0 rfl) ?_
  refine lv_iconst (v := 0) hx hb dX7_countsEntries_1 (by decide) ?_
  refine g_put (v := .int 0) (C := RX7) (T := TX7) (N := 16) (ci := 9) (w' := MW cy ad (sI C 4 0) ++ rest) X inX7 tyX7 tyX7_ok nmX7 hw 0 rfl rfl 11 (by decide) (List.mem_of_getElem? (i := 1) rfl) rfl rfl rfl rfl (Nat.le_of_ble_eq_true rfl) rfl dX7_countsEntries_2 (fun H locs hw => ?_)
  obtain ⟨u1, hu1⟩ : ∃ z, z = sI C 4 0 := ⟨_, rfl⟩
  rw [← hu1] at hw
  have hF := hF.trans (bnd_eq hu1)
  try have hS := Eq.mp (bnd_eq hu1) hS
  refine lv_iconst (v := 0) hx hb dX7_countsEntries_5 (by decide) ?_
  refine lv_istore_n (lv' := [(1, .int 0), (0, .ref (ad 0))]) hx hb dX7_countsEntries_6 rfl hl (by decide) rfl (fun ls hl => ?_)
  refine lv_iconst (v := 1) hx hb dX7_countsEntries_7 (by decide) ?_
  refine lv_istore_n (lv' := [(2, .int 1), (1, .int 0), (0, .ref (ad 0))]) hx hb dX7_countsEntries_8 rfl hl (by decide) rfl (fun ls hl => ?_)
  have L2 : ∀ (n2 : Nat) (v2_2 : Int32) (v2_1 : Int32) (w2 : CS), sp = lp (fun (z : Int32 × Int32 × CS) => st_X7_countsEntries_9 z.1 z.2.1 z.2.2) (0, C) n2 (v2_2, v2_1, w2) → lpS (fun (z : Int32 × Int32 × CS) => st_X7_countsEntries_9 z.1 z.2.1 z.2.2) (fun (z : Int32 × Int32 × CS) => Sst_X7_countsEntries_9 z.1 z.2.1 z.2.2) n2 (v2_2, v2_1, w2) → ∀ (H : Heap) (locs : List Loc) (ls : Array Slot), lv_has ls 3 [(2, .int v2_2), (1, .int v2_1), (0, .ref (ad 0))] → gw D A s.heap (MW cy ad w2 ++ rest) H locs → W p l e rmX7_countsEntries s m args below meth c H locs 0 0 Q (F0 m 9 ls []) := by
    intro n2
    induction n2 with
    | zero => intro v2_2 v2_1 w2 hF hL; exact False.elim hL
    | succ n2 ih2 =>
      intro v2_2 v2_1 w2 hF hL H locs ls hl hw
      have hT2 := st_X7_countsEntries_9.eq_1 v2_2 v2_1 w2
      have hLn2 := hL.2
      have hS := Eq.mp (Sst_X7_countsEntries_9.eq_1 v2_2 v2_1 w2) hL.1
      refine lv_iload_n hx hb dX7_countsEntries_9 rfl (lv_at hl 0 rfl) ?_
      refine lv_if_eq (tgt := 48) hx hb dX7_countsEntries_10 (by decide) (fun c3 => ?_) (fun c3 => ?_)
      · skip
        have hT2 := hT2.trans (if_pos c3)
        try have hS := Eq.mp (if_pos c3) hS
        refine lv_iload_n hx hb dX7_countsEntries_48 rfl (lv_at hl 0 rfl) ?_
        refine lv_if_ne (tgt := 56) hx hb dX7_countsEntries_49 (by decide) (fun c4 => ?_) (fun c4 => ?_)
        · skip
          have hT2 := hT2.trans (if_neg c4)
          try have hS := Eq.mp (if_neg c4) hS
          refine lv_iload_n hx hb dX7_countsEntries_56 rfl (lv_at hl 1 rfl) ?_
          exact hret _ _ _ _ _ _ dX7_countsEntries_57 ⟨congrArg Prod.fst ((hF.trans (lp_r hT2)).symm.trans hsp), congrArg Prod.snd ((hF.trans (lp_r hT2)).symm.trans hsp)⟩ hw
        · skip
          have hT2 := hT2.trans (if_pos c4)
          try have hS := Eq.mp (if_pos c4) hS
          refine lv_iconst (v := (-1)) hx hb dX7_countsEntries_52 (by decide) ?_
          refine lv_goto (tgt := 57) hx hb dX7_countsEntries_53 (by decide) ?_
          exact hret _ _ _ _ _ _ dX7_countsEntries_57 ⟨congrArg Prod.fst ((hF.trans (lp_r hT2)).symm.trans hsp), congrArg Prod.snd ((hF.trans (lp_r hT2)).symm.trans hsp)⟩ hw
      · skip
        have hT2 := hT2.trans (if_neg c3)
        try have hS := Eq.mp (if_neg c3) hS
        refine lv_iload_n hx hb dX7_countsEntries_13 rfl (lv_at hl 1 rfl) ?_
        refine lv_if_eq (tgt := 28) hx hb dX7_countsEntries_14 (by decide) (fun c5 => ?_) (fun c5 => ?_)
        · skip
          have hT2 := hT2.trans (if_pos c5)
          try have hS := Eq.mp (if_pos c5) hS
          refine lv_aload_n hx hb dX7_countsEntries_28 rfl (lv_at hl 2 rfl) ?_
          have hSc : S_X7_readsEntry w2 := hS.1
          have hS := hS.2
          refine gcV_i (rest := []) X (c_X7_readsEntry l D cy ad rest w2  hSc) gy_X7_readsEntry gX7_countsEntries_X7_readsEntry ⟨rfl, rfl, Nat.le_of_ble_eq_true rfl, Nat.le_of_ble_eq_true rfl⟩ 0 rfl rfl rfl hl rfl (Nat.le_of_ble_eq_true rfl) dX7_countsEntries_29 ⟨Nat.zero_le _, Nat.zero_le _⟩ hw (fun r6 u7 H locs hr6 hw => ?_)
          obtain ⟨hr6, hu7⟩ : r6 = (F_X7_readsEntry w2).1 ∧ u7 = (F_X7_readsEntry w2).2 := hr6
          have hT2 := hT2.trans (bnd_eq hu7)
          try have hS := Eq.mp (bnd_eq hu7) hS
          have hT2 := hT2.trans (bnd_eq hr6)
          try have hS := Eq.mp (bnd_eq hr6) hS
          refine lv_istore_n (lv' := [(2, .int r6), (1, .int v2_1), (0, .ref (ad 0))]) hx hb dX7_countsEntries_32 rfl hl (by decide) rfl (fun ls hl => ?_)
          refine lv_iload_n hx hb dX7_countsEntries_33 rfl (lv_at hl 1 rfl) ?_
          refine lv_iload_n hx hb dX7_countsEntries_34 rfl (lv_at hl 0 rfl) ?_
          refine lv_if_eq (tgt := 42) hx hb dX7_countsEntries_35 (by decide) (fun c8 => ?_) (fun c8 => ?_)
          · skip
            have hT2 := hT2.trans (if_pos c8)
            try have hS := Eq.mp (if_pos c8) hS
            refine lv_iconst (v := 0) hx hb dX7_countsEntries_42 (by decide) ?_
            refine lv_iadd hx hb dX7_countsEntries_43 ?_
            refine lv_istore_n (lv' := [(1, .int (v2_1 + 0)), (2, .int r6), (0, .ref (ad 0))]) hx hb dX7_countsEntries_44 rfl hl (by decide) rfl (fun ls hl => ?_)
            refine lv_goto (tgt := 9) hx hb dX7_countsEntries_45 (by decide) ?_
            exact ih2 r6 (v2_1 + 0) u7 (hF.trans (lp_l hT2)) (hLn2 _ hT2) _ _ ls (lv_sub hl [1, 0, 2] rfl) hw
          · skip
            have hT2 := hT2.trans (if_neg c8)
            try have hS := Eq.mp (if_neg c8) hS
            refine lv_iconst (v := 1) hx hb dX7_countsEntries_38 (by decide) ?_
            refine lv_goto (tgt := 43) hx hb dX7_countsEntries_39 (by decide) ?_
            refine lv_iadd hx hb dX7_countsEntries_43 ?_
            refine lv_istore_n (lv' := [(1, .int (v2_1 + 1)), (2, .int r6), (0, .ref (ad 0))]) hx hb dX7_countsEntries_44 rfl hl (by decide) rfl (fun ls hl => ?_)
            refine lv_goto (tgt := 9) hx hb dX7_countsEntries_45 (by decide) ?_
            exact ih2 r6 (v2_1 + 1) u7 (hF.trans (lp_l hT2)) (hLn2 _ hT2) _ _ ls (lv_sub hl [1, 0, 2] rfl) hw
        · skip
          have hT2 := hT2.trans (if_neg c5)
          try have hS := Eq.mp (if_neg c5) hS
          refine lv_aload_n hx hb dX7_countsEntries_17 rfl (lv_at hl 2 rfl) ?_
          refine g_get (v := .int (w2.2.1 4)) (C := RX7) (T := TX7) (N := 16) (ci := 9) X inX7 hw 0 rfl rfl 11 (by decide) (List.mem_of_getElem? (i := 1) rfl) rfl rfl dX7_countsEntries_18 ?_
          refine lv_aload_n hx hb dX7_countsEntries_21 rfl (lv_at hl 2 rfl) ?_
          refine g_get (v := .int (w2.2.1 2)) (C := RX7) (T := TX7) (N := 16) (ci := 9) X inX7 hw 0 rfl rfl 9 (by decide) (List.mem_of_getElem? (i := 2) rfl) rfl rfl dX7_countsEntries_22 ?_
          refine lv_icmp_ge (tgt := 48) hx hb dX7_countsEntries_25 (by decide) (fun c9 => ?_) (fun c9 => ?_)
          · skip
            have hT2 := hT2.trans (if_pos c9)
            try have hS := Eq.mp (if_pos c9) hS
            refine lv_iload_n hx hb dX7_countsEntries_48 rfl (lv_at hl 0 rfl) ?_
            refine lv_if_ne (tgt := 56) hx hb dX7_countsEntries_49 (by decide) (fun c10 => ?_) (fun c10 => ?_)
            · skip
              have hT2 := hT2.trans (if_neg c10)
              try have hS := Eq.mp (if_neg c10) hS
              refine lv_iload_n hx hb dX7_countsEntries_56 rfl (lv_at hl 1 rfl) ?_
              exact hret _ _ _ _ _ _ dX7_countsEntries_57 ⟨congrArg Prod.fst ((hF.trans (lp_r hT2)).symm.trans hsp), congrArg Prod.snd ((hF.trans (lp_r hT2)).symm.trans hsp)⟩ hw
            · skip
              have hT2 := hT2.trans (if_pos c10)
              try have hS := Eq.mp (if_pos c10) hS
              refine lv_iconst (v := (-1)) hx hb dX7_countsEntries_52 (by decide) ?_
              refine lv_goto (tgt := 57) hx hb dX7_countsEntries_53 (by decide) ?_
              exact hret _ _ _ _ _ _ dX7_countsEntries_57 ⟨congrArg Prod.fst ((hF.trans (lp_r hT2)).symm.trans hsp), congrArg Prod.snd ((hF.trans (lp_r hT2)).symm.trans hsp)⟩ hw
          · skip
            have hT2 := hT2.trans (if_neg c9)
            try have hS := Eq.mp (if_neg c9) hS
            refine lv_aload_n hx hb dX7_countsEntries_28 rfl (lv_at hl 2 rfl) ?_
            have hSc : S_X7_readsEntry w2 := hS.1
            have hS := hS.2
            refine gcV_i (rest := []) X (c_X7_readsEntry l D cy ad rest w2  hSc) gy_X7_readsEntry gX7_countsEntries_X7_readsEntry ⟨rfl, rfl, Nat.le_of_ble_eq_true rfl, Nat.le_of_ble_eq_true rfl⟩ 0 rfl rfl rfl hl rfl (Nat.le_of_ble_eq_true rfl) dX7_countsEntries_29 ⟨Nat.zero_le _, Nat.zero_le _⟩ hw (fun r11 u12 H locs hr11 hw => ?_)
            obtain ⟨hr11, hu12⟩ : r11 = (F_X7_readsEntry w2).1 ∧ u12 = (F_X7_readsEntry w2).2 := hr11
            have hT2 := hT2.trans (bnd_eq hu12)
            try have hS := Eq.mp (bnd_eq hu12) hS
            have hT2 := hT2.trans (bnd_eq hr11)
            try have hS := Eq.mp (bnd_eq hr11) hS
            refine lv_istore_n (lv' := [(2, .int r11), (1, .int v2_1), (0, .ref (ad 0))]) hx hb dX7_countsEntries_32 rfl hl (by decide) rfl (fun ls hl => ?_)
            refine lv_iload_n hx hb dX7_countsEntries_33 rfl (lv_at hl 1 rfl) ?_
            refine lv_iload_n hx hb dX7_countsEntries_34 rfl (lv_at hl 0 rfl) ?_
            refine lv_if_eq (tgt := 42) hx hb dX7_countsEntries_35 (by decide) (fun c13 => ?_) (fun c13 => ?_)
            · skip
              have hT2 := hT2.trans (if_pos c13)
              try have hS := Eq.mp (if_pos c13) hS
              refine lv_iconst (v := 0) hx hb dX7_countsEntries_42 (by decide) ?_
              refine lv_iadd hx hb dX7_countsEntries_43 ?_
              refine lv_istore_n (lv' := [(1, .int (v2_1 + 0)), (2, .int r11), (0, .ref (ad 0))]) hx hb dX7_countsEntries_44 rfl hl (by decide) rfl (fun ls hl => ?_)
              refine lv_goto (tgt := 9) hx hb dX7_countsEntries_45 (by decide) ?_
              exact ih2 r11 (v2_1 + 0) u12 (hF.trans (lp_l hT2)) (hLn2 _ hT2) _ _ ls (lv_sub hl [1, 0, 2] rfl) hw
            · skip
              have hT2 := hT2.trans (if_neg c13)
              try have hS := Eq.mp (if_neg c13) hS
              refine lv_iconst (v := 1) hx hb dX7_countsEntries_38 (by decide) ?_
              refine lv_goto (tgt := 43) hx hb dX7_countsEntries_39 (by decide) ?_
              refine lv_iadd hx hb dX7_countsEntries_43 ?_
              refine lv_istore_n (lv' := [(1, .int (v2_1 + 1)), (2, .int r11), (0, .ref (ad 0))]) hx hb dX7_countsEntries_44 rfl hl (by decide) rfl (fun ls hl => ?_)
              refine lv_goto (tgt := 9) hx hb dX7_countsEntries_45 (by decide) ?_
              exact ih2 r11 (v2_1 + 1) u12 (hF.trans (lp_l hT2)) (hLn2 _ hT2) _ _ ls (lv_sub hl [1, 0, 2] rfl) hw
  exact L2 _ 1 0 u1 hF hS _ _ ls (lv_sub hl [0, 1, 2] rfl) hw
theorem gy_X7_does : gY yX7_does RX7 cX7_does 3 (some .boolean) wsX7_does 1 := ⟨⟨_, rfl⟩, rfl, by decide +kernel, by decide +kernel, by decide +kernel⟩
def F_X7_does (C : CS) (q1 : Int32) : Int32 × CS := (if q1 = 2 then (if (C.1 0 1418) ≤ C.2.1 7 then (bnd ((F_X7_advances C (C.2.1 7)).2) (fun u9 => (bnd ((F_X7_advances C (C.2.1 7)).1) (fun r8 => (1, u9))))) else (0, C)) else (bnd (F_X7_lacks C (C.2.1 6) (C.2.1 7)) (fun r2 => (if r2 = 0 then (bnd ((F_X7_comes C (C.2.1 6) (C.2.1 7) (C.2.1 8)).2) (fun u6 => (bnd ((F_X7_comes C (C.2.1 6) (C.2.1 7) (C.2.1 8)).1) (fun r5 => (1, u6))))) else (0, C)))))
def S_X7_does (C : CS) (q1 : Int32) : Prop := (if q1 = 2 then (if (C.1 0 1418) ≤ C.2.1 7 then (S_X7_advances C (C.2.1 7) ∧ True) else True) else (bnd (F_X7_lacks C (C.2.1 6) (C.2.1 7)) (fun r2 => (if r2 = 0 then (S_X7_comes C (C.2.1 6) (C.2.1 7) (C.2.1 8) ∧ True) else True))))
abbrev rmX7_does : Room := { frames := 6, cells := 0, slots := 0, locals := 143 }
set_option maxHeartbeats 4000000 in
set_option maxRecDepth 100000 in
theorem c_X7_does (l : Launch) (D : va_G) (cy : Nat → ClassId) (ad : Nat → Nat) (rest : va_W) (C : CS) (q1 : Int32) (hS : S_X7_does C q1) : GMi l yX7_does wsX7_does rmX7_does D cy [.ref (ad 0), .int q1] (MW cy ad C ++ rest) (fun (r : Int32) (u : CS) => (r = (F_X7_does C q1).1 ∧ u = (F_X7_does C q1).2) ∧ (r = 0 ∨ r = 1)) (fun u => MW cy ad u ++ rest) := by
  refine GMz.intro cX7_does 3 RX7 (by decide) rfl rfl (Nat.le_of_ble_eq_true rfl) ?_
  intro p e s m args below meth c A Q ls X hret hl hw
  have hx := X.1
  have hb := X.2.1
  have hl : lv_has ls 3 [(0, .ref (ad 0)), (1, .int q1)] := hl
  have inX7 : ∀ w ∈ wsX70, w ∈ wsX7_does := fun w h => List.mem_cons_of_mem _ (List.mem_append_left _ (List.mem_append_left _ (List.mem_append_right _ h)))
  obtain ⟨sp, hsp⟩ : ∃ sp, sp = F_X7_does C q1 := ⟨_, rfl⟩
  have hF := hsp.trans (F_X7_does.eq_1 C q1)
  have hS := Eq.mp (S_X7_does.eq_1 C q1) hS
  refine lv_iload_n hx hb dX7_does_0 rfl (lv_at hl 1 rfl) ?_
  refine lv_iconst (v := 2) hx hb dX7_does_1 (by decide) ?_
  refine lv_icmp_ne (tgt := 33) hx hb dX7_does_2 (by decide) (fun c1 => ?_) (fun c1 => ?_)
  · skip
    have hF := hF.trans (if_neg c1)
    try have hS := Eq.mp (if_neg c1) hS
    refine lv_aload_n hx hb dX7_does_33 rfl (lv_at hl 0 rfl) ?_
    refine lv_aload_n hx hb dX7_does_34 rfl (lv_at hl 0 rfl) ?_
    refine g_get (v := .int (C.2.1 6)) (C := RX7) (T := TX7) (N := 16) (ci := 9) X inX7 hw 0 rfl rfl 13 (by decide) (List.mem_of_getElem? (i := 3) rfl) rfl rfl dX7_does_35 ?_
    refine lv_aload_n hx hb dX7_does_38 rfl (lv_at hl 0 rfl) ?_
    refine g_get (v := .int (C.2.1 7)) (C := RX7) (T := TX7) (N := 16) (ci := 9) X inX7 hw 0 rfl rfl 14 (by decide) (List.mem_of_getElem? (i := 1) rfl) rfl rfl dX7_does_39 ?_
    refine gcV_i (rest := []) X (c_X7_lacks l D cy ad rest C (C.2.1 6) (C.2.1 7)) gy_X7_lacks gX7_does_X7_lacks ⟨rfl, rfl, Nat.le_of_ble_eq_true rfl, Nat.le_of_ble_eq_true rfl⟩ 0 rfl rfl rfl hl rfl (Nat.le_of_ble_eq_true rfl) dX7_does_42 ⟨Nat.zero_le _, Nat.zero_le _⟩ hw (fun r2 _ H locs hr2 hw => ?_)
    have hr2 : r2 = F_X7_lacks C (C.2.1 6) (C.2.1 7) := hr2
    have hF := hF.trans (bnd_eq hr2)
    try have hS := Eq.mp (bnd_eq hr2) hS
    refine lv_if_eq (tgt := 50) hx hb dX7_does_45 (by decide) (fun c4 => ?_) (fun c4 => ?_)
    · skip
      have hF := hF.trans (if_pos c4)
      try have hS := Eq.mp (if_pos c4) hS
      refine lv_aload_n hx hb dX7_does_50 rfl (lv_at hl 0 rfl) ?_
      refine lv_aload_n hx hb dX7_does_51 rfl (lv_at hl 0 rfl) ?_
      refine g_get (v := .int (C.2.1 6)) (C := RX7) (T := TX7) (N := 16) (ci := 9) X inX7 hw 0 rfl rfl 13 (by decide) (List.mem_of_getElem? (i := 3) rfl) rfl rfl dX7_does_52 ?_
      refine lv_aload_n hx hb dX7_does_55 rfl (lv_at hl 0 rfl) ?_
      refine g_get (v := .int (C.2.1 7)) (C := RX7) (T := TX7) (N := 16) (ci := 9) X inX7 hw 0 rfl rfl 14 (by decide) (List.mem_of_getElem? (i := 1) rfl) rfl rfl dX7_does_56 ?_
      refine lv_aload_n hx hb dX7_does_59 rfl (lv_at hl 0 rfl) ?_
      refine g_get (v := .int (C.2.1 8)) (C := RX7) (T := TX7) (N := 16) (ci := 9) X inX7 hw 0 rfl rfl 15 (by decide) (List.mem_of_getElem? (i := 4) rfl) rfl rfl dX7_does_60 ?_
      have hSc : S_X7_comes C (C.2.1 6) (C.2.1 7) (C.2.1 8) := hS.1
      have hS := hS.2
      refine gcV_i (rest := []) X (c_X7_comes l D cy ad rest C (C.2.1 6) (C.2.1 7) (C.2.1 8) hSc) gy_X7_comes gX7_does_X7_comes ⟨rfl, rfl, Nat.le_of_ble_eq_true rfl, Nat.le_of_ble_eq_true rfl⟩ 0 rfl rfl rfl hl rfl (Nat.le_of_ble_eq_true rfl) dX7_does_63 ⟨Nat.zero_le _, Nat.zero_le _⟩ hw (fun r5 u6 H locs hr5 hw => ?_)
      obtain ⟨hr5, hu6⟩ : r5 = (F_X7_comes C (C.2.1 6) (C.2.1 7) (C.2.1 8)).1 ∧ u6 = (F_X7_comes C (C.2.1 6) (C.2.1 7) (C.2.1 8)).2 := hr5
      have hF := hF.trans (bnd_eq hu6)
      try have hS := Eq.mp (bnd_eq hu6) hS
      have hF := hF.trans (bnd_eq hr5)
      try have hS := Eq.mp (bnd_eq hr5) hS
      refine lv_istore_n (lv' := [(2, .int r5), (0, .ref (ad 0)), (1, .int q1)]) hx hb dX7_does_66 rfl hl (by decide) rfl (fun ls hl => ?_)
      refine lv_iconst (v := 1) hx hb dX7_does_67 (by decide) ?_
      exact hret _ _ _ _ _ _ dX7_does_68 (Or.inr rfl) ⟨⟨congrArg Prod.fst (hF.symm.trans hsp), congrArg Prod.snd (hF.symm.trans hsp)⟩, (Or.inr rfl)⟩ hw
    · skip
      have hF := hF.trans (if_neg c4)
      try have hS := Eq.mp (if_neg c4) hS
      refine lv_iconst (v := 0) hx hb dX7_does_48 (by decide) ?_
      exact hret _ _ _ _ _ _ dX7_does_49 (Or.inl rfl) ⟨⟨congrArg Prod.fst (hF.symm.trans hsp), congrArg Prod.snd (hF.symm.trans hsp)⟩, (Or.inl rfl)⟩ hw
  · skip
    have hF := hF.trans (if_pos c1)
    try have hS := Eq.mp (if_pos c1) hS
    refine lv_aload_n hx hb dX7_does_5 rfl (lv_at hl 0 rfl) ?_
    refine g_get (v := .int (C.2.1 7)) (C := RX7) (T := TX7) (N := 16) (ci := 9) X inX7 hw 0 rfl rfl 14 (by decide) (List.mem_of_getElem? (i := 1) rfl) rfl rfl dX7_does_6 ?_
    refine lv_aload_n hx hb dX7_does_9 rfl (lv_at hl 0 rfl) ?_
    refine g_get (v := .ref (ad 1)) (C := RX7) (T := TX7) (N := 16) (ci := 9) X inX7 hw 0 rfl rfl 1 (by decide) (List.mem_of_getElem? (i := 2) rfl) rfl rfl dX7_does_10 ?_
    refine lv_sipush (v := 1418) hx hb dX7_does_13 (by decide) ?_
    refine g_ialdk (k := 1418) rfl X hw 1 rfl (vk rfl) dX7_does_16 ?_
    refine lv_icmp_ge (tgt := 22) hx hb dX7_does_17 (by decide) (fun c7 => ?_) (fun c7 => ?_)
    · skip
      have hF := hF.trans (if_pos c7)
      try have hS := Eq.mp (if_pos c7) hS
      refine lv_aload_n hx hb dX7_does_22 rfl (lv_at hl 0 rfl) ?_
      refine lv_aload_n hx hb dX7_does_23 rfl (lv_at hl 0 rfl) ?_
      refine g_get (v := .int (C.2.1 7)) (C := RX7) (T := TX7) (N := 16) (ci := 9) X inX7 hw 0 rfl rfl 14 (by decide) (List.mem_of_getElem? (i := 1) rfl) rfl rfl dX7_does_24 ?_
      have hSc : S_X7_advances C (C.2.1 7) := hS.1
      have hS := hS.2
      refine gcV_i (rest := []) X (c_X7_advances l D cy ad rest C (C.2.1 7) hSc) gy_X7_advances gX7_does_X7_advances ⟨rfl, rfl, Nat.le_of_ble_eq_true rfl, Nat.le_of_ble_eq_true rfl⟩ 0 rfl rfl rfl hl rfl (Nat.le_of_ble_eq_true rfl) dX7_does_27 ⟨Nat.zero_le _, Nat.zero_le _⟩ hw (fun r8 u9 H locs hr8 hw => ?_)
      obtain ⟨hr8, hu9⟩ : r8 = (F_X7_advances C (C.2.1 7)).1 ∧ u9 = (F_X7_advances C (C.2.1 7)).2 := hr8
      have hF := hF.trans (bnd_eq hu9)
      try have hS := Eq.mp (bnd_eq hu9) hS
      have hF := hF.trans (bnd_eq hr8)
      try have hS := Eq.mp (bnd_eq hr8) hS
      refine lv_istore_n (lv' := [(2, .int r8), (0, .ref (ad 0)), (1, .int q1)]) hx hb dX7_does_30 rfl hl (by decide) rfl (fun ls hl => ?_)
      refine lv_iconst (v := 1) hx hb dX7_does_31 (by decide) ?_
      exact hret _ _ _ _ _ _ dX7_does_32 (Or.inr rfl) ⟨⟨congrArg Prod.fst (hF.symm.trans hsp), congrArg Prod.snd (hF.symm.trans hsp)⟩, (Or.inr rfl)⟩ hw
    · skip
      have hF := hF.trans (if_neg c7)
      try have hS := Eq.mp (if_neg c7) hS
      refine lv_iconst (v := 0) hx hb dX7_does_20 (by decide) ?_
      exact hret _ _ _ _ _ _ dX7_does_21 (Or.inl rfl) ⟨⟨congrArg Prod.fst (hF.symm.trans hsp), congrArg Prod.snd (hF.symm.trans hsp)⟩, (Or.inl rfl)⟩ hw
theorem gy_X7_read : gY yX7_read RX7 cX7_read 4 (some .int) wsX7_read 0 := ⟨⟨_, rfl⟩, rfl, by decide +kernel, by decide +kernel, by decide +kernel⟩
def st_X7_read_108 (v14_3 : Int32) (w14 : CS) : (Int32 × CS) ⊕ ((Int32 × Int32 × CS) ⊕ ((Int32 × CS) ⊕ (Int32 × CS))) := (if 1787 ≤ v14_3 then (bnd (sL w14 0 (w14.2.2 1)) (fun u16 => (bnd ((F_X7_fails u16 2).2) (fun u18 => (bnd ((F_X7_fails u16 2).1) (fun r17 => .inr (.inr (.inr ((r17, u18)))))))))) else (bnd (sR w14 0 (upd (w14.1 0) v14_3.toNatClampNeg (w14.1 1 v14_3.toNatClampNeg))) (fun u19 => .inl ((v14_3 + 1), u19))))
def Sst_X7_read_108 (v14_3 : Int32) (w14 : CS) : Prop := (if 1787 ≤ v14_3 then True else (vp_in v14_3 1787 ∧ (vp_in v14_3 1787 ∧ True)))
def st_X7_read_73 (C : CS) (r1 : Int32) (v8_3 : Int32) (v8_2 : Int32) (w8 : CS) : (Int32 × Int32 × CS) ⊕ ((Int32 × CS) ⊕ (Int32 × CS)) := (if r1 ≤ v8_3 then (bnd (sI w8 2 0) (fun u10 => (if v8_2 = 0 then lp (fun (z : Int32 × CS) => st_X7_read_108 z.1 z.2) (.inr (.inr (0, C))) (((1787 : Int32).toInt - (0 : Int32).toInt).toNat + 1) (0, u10) else (bnd ((F_X7_done u10 r1).2) (fun u13 => (bnd ((F_X7_done u10 r1).1) (fun r12 => .inr (.inr ((r12, u13)))))))))) else (if v8_2 = 0 then (bnd (sI w8 2 0) (fun u21 => (if v8_2 = 0 then lp (fun (z : Int32 × CS) => st_X7_read_108 z.1 z.2) (.inr (.inr (0, C))) (((1787 : Int32).toInt - (0 : Int32).toInt).toNat + 1) (0, u21) else (bnd ((F_X7_done u21 r1).2) (fun u24 => (bnd ((F_X7_done u21 r1).1) (fun r23 => .inr (.inr ((r23, u24)))))))))) else (bnd ((F_X7_readsEntry w8).2) (fun u32 => (bnd ((F_X7_readsEntry w8).1) (fun r31 => (bnd ((F_X7_does u32 r31).2) (fun u34 => (bnd ((F_X7_does u32 r31).1) (fun r33 => .inl ((v8_3 + 1), r33, u34)))))))))))
def Sst_X7_read_73 (C : CS) (r1 : Int32) (v8_3 : Int32) (v8_2 : Int32) (w8 : CS) : Prop := (if r1 ≤ v8_3 then (bnd (sI w8 2 0) (fun u10 => (if v8_2 = 0 then lpS (fun (z : Int32 × CS) => st_X7_read_108 z.1 z.2) (fun (z : Int32 × CS) => Sst_X7_read_108 z.1 z.2) (((1787 : Int32).toInt - (0 : Int32).toInt).toNat + 1) (0, u10) else True))) else (if v8_2 = 0 then (bnd (sI w8 2 0) (fun u21 => (if v8_2 = 0 then lpS (fun (z : Int32 × CS) => st_X7_read_108 z.1 z.2) (fun (z : Int32 × CS) => Sst_X7_read_108 z.1 z.2) (((1787 : Int32).toInt - (0 : Int32).toInt).toNat + 1) (0, u21) else True))) else (S_X7_readsEntry w8 ∧ (bnd ((F_X7_readsEntry w8).2) (fun u32 => (bnd ((F_X7_readsEntry w8).1) (fun r31 => (S_X7_does u32 r31 ∧ True))))))))
def st_X7_read_31 (C : CS) (r1 : Int32) (v4_2 : Int32) (w4 : CS) : (Int32 × CS) ⊕ (Int32 × CS) := (if 1787 ≤ v4_2 then (bnd (sL w4 1 (w4.2.2 0)) (fun u6 => (bnd (sI u6 4 0) (fun u7 => lp (fun (z : Int32 × Int32 × CS) => st_X7_read_73 C r1 z.1 z.2.1 z.2.2) (.inr (0, C)) ((r1.toInt - (0 : Int32).toInt).toNat + 1) (0, 1, u7))))) else (bnd (sR w4 1 (upd (w4.1 1) v4_2.toNatClampNeg (w4.1 0 v4_2.toNatClampNeg))) (fun u35 => .inl ((v4_2 + 1), u35))))
def Sst_X7_read_31 (C : CS) (r1 : Int32) (v4_2 : Int32) (w4 : CS) : Prop := (if 1787 ≤ v4_2 then (bnd (sL w4 1 (w4.2.2 0)) (fun u6 => (bnd (sI u6 4 0) (fun u7 => lpS (fun (z : Int32 × Int32 × CS) => st_X7_read_73 C r1 z.1 z.2.1 z.2.2) (fun (z : Int32 × Int32 × CS) => Sst_X7_read_73 C r1 z.1 z.2.1 z.2.2) ((r1.toInt - (0 : Int32).toInt).toNat + 1) (0, 1, u7))))) else (vp_in v4_2 1787 ∧ (vp_in v4_2 1787 ∧ True)))
def F_X7_read (C : CS) : Int32 × CS := (bnd ((F_X7_countsEntries C).2) (fun u2 => (bnd ((F_X7_countsEntries C).1) (fun r1 => (if r1 = (-1) then (bnd (sI u2 3 (u2.2.1 4)) (fun u36 => (bnd (sI u36 2 0) (fun u37 => (bnd ((F_X7_fails u37 1).2) (fun u39 => (bnd ((F_X7_fails u37 1).1) (fun r38 => (r38, u39))))))))) else lp (fun (z : Int32 × CS) => st_X7_read_31 C r1 z.1 z.2) (0, C) (((1787 : Int32).toInt - (0 : Int32).toInt).toNat + 1) (0, u2))))))
def S_X7_read (C : CS) : Prop := (S_X7_countsEntries C ∧ (bnd ((F_X7_countsEntries C).2) (fun u2 => (bnd ((F_X7_countsEntries C).1) (fun r1 => (if r1 = (-1) then True else lpS (fun (z : Int32 × CS) => st_X7_read_31 C r1 z.1 z.2) (fun (z : Int32 × CS) => Sst_X7_read_31 C r1 z.1 z.2) (((1787 : Int32).toInt - (0 : Int32).toInt).toNat + 1) (0, u2)))))))
abbrev rmX7_read : Room := { frames := 7, cells := 0, slots := 0, locals := 165 }
set_option maxHeartbeats 4000000 in
set_option maxRecDepth 100000 in
theorem c_X7_read (l : Launch) (D : va_G) (cy : Nat → ClassId) (ad : Nat → Nat) (rest : va_W) (C : CS) (hS : S_X7_read C) : GMi l yX7_read wsX7_read rmX7_read D cy [.ref (ad 0)] (MW cy ad C ++ rest) (fun (r : Int32) (u : CS) => r = (F_X7_read C).1 ∧ u = (F_X7_read C).2) (fun u => MW cy ad u ++ rest) := by
  refine GMi.intro cX7_read 4 RX7 (by decide) rfl rfl (Nat.le_of_ble_eq_true rfl) ?_
  intro p e s m args below meth c A Q ls X hret hl hw
  have hx := X.1
  have hb := X.2.1
  have hl : lv_has ls 4 [(0, .ref (ad 0))] := hl
  have inX7 : ∀ w ∈ wsX70, w ∈ wsX7_read := fun w h => List.mem_cons_of_mem _ (List.mem_append_left _ (List.mem_append_left _ (List.mem_append_right _ h)))
  obtain ⟨sp, hsp⟩ : ∃ sp, sp = F_X7_read C := ⟨_, rfl⟩
  have hF := hsp.trans (F_X7_read.eq_1 C)
  have hS := Eq.mp (S_X7_read.eq_1 C) hS
  refine lv_aload_n hx hb dX7_read_0 rfl (lv_at hl 0 rfl) ?_
  have hSc : S_X7_countsEntries C := hS.1
  have hS := hS.2
  refine gcV_i (rest := []) X (c_X7_countsEntries l D cy ad rest C  hSc) gy_X7_countsEntries gX7_read_X7_countsEntries ⟨rfl, rfl, Nat.le_of_ble_eq_true rfl, Nat.le_of_ble_eq_true rfl⟩ 0 rfl rfl rfl hl rfl (Nat.le_of_ble_eq_true rfl) dX7_read_1 ⟨Nat.zero_le _, Nat.zero_le _⟩ hw (fun r1 u2 H locs hr1 hw => ?_)
  obtain ⟨hr1, hu2⟩ : r1 = (F_X7_countsEntries C).1 ∧ u2 = (F_X7_countsEntries C).2 := hr1
  have hF := hF.trans (bnd_eq hu2)
  try have hS := Eq.mp (bnd_eq hu2) hS
  have hF := hF.trans (bnd_eq hr1)
  try have hS := Eq.mp (bnd_eq hr1) hS
  refine lv_istore_n (lv' := [(1, .int r1), (0, .ref (ad 0))]) hx hb dX7_read_4 rfl hl (by decide) rfl (fun ls hl => ?_)
  refine lv_iload_n hx hb dX7_read_5 rfl (lv_at hl 0 rfl) ?_
  refine lv_iconst (v := (-1)) hx hb dX7_read_6 (by decide) ?_
  refine lv_icmp_ne (tgt := 29) hx hb dX7_read_7 (by decide) (fun c3 => ?_) (fun c3 => ?_)
  · skip
    have hF := hF.trans (if_neg c3)
    try have hS := Eq.mp (if_neg c3) hS
    refine lv_iconst (v := 0) hx hb dX7_read_29 (by decide) ?_
    refine lv_istore_n (lv' := [(2, .int 0), (1, .int r1), (0, .ref (ad 0))]) hx hb dX7_read_30 rfl hl (by decide) rfl (fun ls hl => ?_)
    have L4 : ∀ (n4 : Nat) (v4_2 : Int32) (w4 : CS), sp = lp (fun (z : Int32 × CS) => st_X7_read_31 C r1 z.1 z.2) (0, C) n4 (v4_2, w4) → lpS (fun (z : Int32 × CS) => st_X7_read_31 C r1 z.1 z.2) (fun (z : Int32 × CS) => Sst_X7_read_31 C r1 z.1 z.2) n4 (v4_2, w4) → ∀ (H : Heap) (locs : List Loc) (ls : Array Slot), lv_has ls 4 [(2, .int v4_2), (1, .int r1), (0, .ref (ad 0))] → gw D A s.heap (MW cy ad w4 ++ rest) H locs → W p l e rmX7_read s m args below meth c H locs 0 0 Q (F0 m 31 ls []) := by
      intro n4
      induction n4 with
      | zero => intro v4_2 w4 hF hL; exact False.elim hL
      | succ n4 ih4 =>
        intro v4_2 w4 hF hL H locs ls hl hw
        have hT4 := st_X7_read_31.eq_1 C r1 v4_2 w4
        have hLn4 := hL.2
        have hS := Eq.mp (Sst_X7_read_31.eq_1 C r1 v4_2 w4) hL.1
        refine lv_iload_n hx hb dX7_read_31 rfl (lv_at hl 0 rfl) ?_
        refine lv_sipush (v := 1787) hx hb dX7_read_32 (by decide) ?_
        refine lv_icmp_ge (tgt := 56) hx hb dX7_read_35 (by decide) (fun c5 => ?_) (fun c5 => ?_)
        · skip
          have hT4 := hT4.trans (if_pos c5)
          try have hS := Eq.mp (if_pos c5) hS
          refine lv_aload_n hx hb dX7_read_56 rfl (lv_at hl 2 rfl) ?_
          refine lv_aload_n hx hb dX7_read_57 rfl (lv_at hl 2 rfl) ?_
          refine g_get (v := .long (w4.2.2 0)) (C := RX7) (T := TX7) (N := 16) (ci := 9) X inX7 hw 0 rfl rfl 2 (by decide) (List.mem_of_getElem? (i := 6) rfl) rfl rfl dX7_read_58 ?_
          refine g_put (v := .long (w4.2.2 0)) (C := RX7) (T := TX7) (N := 16) (ci := 9) (w' := MW cy ad (sL w4 1 (w4.2.2 0)) ++ rest) X inX7 tyX7 tyX7_ok nmX7 hw 0 rfl rfl 4 (by decide) (List.mem_of_getElem? (i := 7) rfl) rfl rfl rfl rfl (Nat.le_of_ble_eq_true rfl) rfl dX7_read_61 (fun H locs hw => ?_)
          obtain ⟨u6, hu6⟩ : ∃ z, z = sL w4 1 (w4.2.2 0) := ⟨_, rfl⟩
          rw [← hu6] at hw
          have hT4 := hT4.trans (bnd_eq hu6)
          try have hS := Eq.mp (bnd_eq hu6) hS
          refine lv_aload_n hx hb dX7_read_64 rfl (lv_at hl 2 rfl) ?_
          refine lv_iconst (v := 0) hx hb dX7_read_65 (by decide) ?_
          refine g_put (v := .int 0) (C := RX7) (T := TX7) (N := 16) (ci := 9) (w' := MW cy ad (sI u6 4 0) ++ rest) X inX7 tyX7 tyX7_ok nmX7 hw 0 rfl rfl 11 (by decide) (List.mem_of_getElem? (i := 1) rfl) rfl rfl rfl rfl (Nat.le_of_ble_eq_true rfl) rfl dX7_read_66 (fun H locs hw => ?_)
          obtain ⟨u7, hu7⟩ : ∃ z, z = sI u6 4 0 := ⟨_, rfl⟩
          rw [← hu7] at hw
          have hT4 := hT4.trans (bnd_eq hu7)
          try have hS := Eq.mp (bnd_eq hu7) hS
          refine lv_iconst (v := 1) hx hb dX7_read_69 (by decide) ?_
          refine lv_istore_n (lv' := [(2, .int 1), (1, .int r1), (0, .ref (ad 0))]) hx hb dX7_read_70 rfl hl (by decide) rfl (fun ls hl => ?_)
          refine lv_iconst (v := 0) hx hb dX7_read_71 (by decide) ?_
          refine lv_istore_n (lv' := [(3, .int 0), (2, .int 1), (1, .int r1), (0, .ref (ad 0))]) hx hb dX7_read_72 rfl hl (by decide) rfl (fun ls hl => ?_)
          have L8 : ∀ (n8 : Nat) (v8_3 : Int32) (v8_2 : Int32) (w8 : CS), st_X7_read_31 C r1 v4_2 w4 = lp (fun (z : Int32 × Int32 × CS) => st_X7_read_73 C r1 z.1 z.2.1 z.2.2) (.inr (0, C)) n8 (v8_3, v8_2, w8) → lpS (fun (z : Int32 × Int32 × CS) => st_X7_read_73 C r1 z.1 z.2.1 z.2.2) (fun (z : Int32 × Int32 × CS) => Sst_X7_read_73 C r1 z.1 z.2.1 z.2.2) n8 (v8_3, v8_2, w8) → ∀ (H : Heap) (locs : List Loc) (ls : Array Slot), lv_has ls 4 [(3, .int v8_3), (2, .int v8_2), (1, .int r1), (0, .ref (ad 0))] → gw D A s.heap (MW cy ad w8 ++ rest) H locs → W p l e rmX7_read s m args below meth c H locs 0 0 Q (F0 m 73 ls []) := by
            intro n8
            induction n8 with
            | zero => intro v8_3 v8_2 w8 hT4 hL; exact False.elim hL
            | succ n8 ih8 =>
              intro v8_3 v8_2 w8 hT4 hL H locs ls hl hw
              have hT8 := st_X7_read_73.eq_1 C r1 v8_3 v8_2 w8
              have hLn8 := hL.2
              have hS := Eq.mp (Sst_X7_read_73.eq_1 C r1 v8_3 v8_2 w8) hL.1
              refine lv_iload_n hx hb dX7_read_73 rfl (lv_at hl 0 rfl) ?_
              refine lv_iload_n hx hb dX7_read_74 rfl (lv_at hl 2 rfl) ?_
              refine lv_icmp_ge (tgt := 97) hx hb dX7_read_75 (by decide) (fun c9 => ?_) (fun c9 => ?_)
              · skip
                have hT8 := hT8.trans (if_pos c9)
                try have hS := Eq.mp (if_pos c9) hS
                refine lv_aload_n hx hb dX7_read_97 rfl (lv_at hl 3 rfl) ?_
                refine lv_iconst (v := 0) hx hb dX7_read_98 (by decide) ?_
                refine g_put (v := .int 0) (C := RX7) (T := TX7) (N := 16) (ci := 9) (w' := MW cy ad (sI w8 2 0) ++ rest) X inX7 tyX7 tyX7_ok nmX7 hw 0 rfl rfl 9 (by decide) (List.mem_of_getElem? (i := 3) rfl) rfl rfl rfl rfl (Nat.le_of_ble_eq_true rfl) rfl dX7_read_99 (fun H locs hw => ?_)
                obtain ⟨u10, hu10⟩ : ∃ z, z = sI w8 2 0 := ⟨_, rfl⟩
                rw [← hu10] at hw
                have hT8 := hT8.trans (bnd_eq hu10)
                try have hS := Eq.mp (bnd_eq hu10) hS
                refine lv_iload_n hx hb dX7_read_102 rfl (lv_at hl 1 rfl) ?_
                refine lv_if_ne (tgt := 147) hx hb dX7_read_103 (by decide) (fun c11 => ?_) (fun c11 => ?_)
                · skip
                  have hT8 := hT8.trans (if_neg c11)
                  try have hS := Eq.mp (if_neg c11) hS
                  refine lv_aload_n hx hb dX7_read_147 rfl (lv_at hl 3 rfl) ?_
                  refine lv_iload_n hx hb dX7_read_148 rfl (lv_at hl 2 rfl) ?_
                  refine gcV_i (rest := []) X (c_X7_done l D cy ad rest u10 r1) gy_X7_done gX7_read_X7_done ⟨rfl, rfl, Nat.le_of_ble_eq_true rfl, Nat.le_of_ble_eq_true rfl⟩ 0 rfl rfl rfl hl rfl (Nat.le_of_ble_eq_true rfl) dX7_read_149 ⟨Nat.zero_le _, Nat.zero_le _⟩ hw (fun r12 u13 H locs hr12 hw => ?_)
                  obtain ⟨hr12, hu13⟩ : r12 = (F_X7_done u10 r1).1 ∧ u13 = (F_X7_done u10 r1).2 := hr12
                  have hT8 := hT8.trans (bnd_eq hu13)
                  try have hS := Eq.mp (bnd_eq hu13) hS
                  have hT8 := hT8.trans (bnd_eq hr12)
                  try have hS := Eq.mp (bnd_eq hr12) hS
                  exact hret _ _ _ _ _ _ dX7_read_152 ⟨congrArg Prod.fst ((hF.trans (lp_r (hT4.trans (lp_r hT8)))).symm.trans hsp), congrArg Prod.snd ((hF.trans (lp_r (hT4.trans (lp_r hT8)))).symm.trans hsp)⟩ hw
                · skip
                  have hT8 := hT8.trans (if_pos c11)
                  try have hS := Eq.mp (if_pos c11) hS
                  refine lv_iconst (v := 0) hx hb dX7_read_106 (by decide) ?_
                  refine lv_istore_n (lv' := [(3, .int 0), (2, .int v8_2), (1, .int r1), (0, .ref (ad 0))]) hx hb dX7_read_107 rfl hl (by decide) rfl (fun ls hl => ?_)
                  have L14 : ∀ (n14 : Nat) (v14_3 : Int32) (w14 : CS), st_X7_read_73 C r1 v8_3 v8_2 w8 = lp (fun (z : Int32 × CS) => st_X7_read_108 z.1 z.2) (.inr (.inr (0, C))) n14 (v14_3, w14) → lpS (fun (z : Int32 × CS) => st_X7_read_108 z.1 z.2) (fun (z : Int32 × CS) => Sst_X7_read_108 z.1 z.2) n14 (v14_3, w14) → ∀ (H : Heap) (locs : List Loc) (ls : Array Slot), lv_has ls 4 [(3, .int v14_3), (2, .int v8_2), (1, .int r1), (0, .ref (ad 0))] → gw D A s.heap (MW cy ad w14 ++ rest) H locs → W p l e rmX7_read s m args below meth c H locs 0 0 Q (F0 m 108 ls []) := by
                    intro n14
                    induction n14 with
                    | zero => intro v14_3 w14 hT8 hL; exact False.elim hL
                    | succ n14 ih14 =>
                      intro v14_3 w14 hT8 hL H locs ls hl hw
                      have hT14 := st_X7_read_108.eq_1 v14_3 w14
                      have hLn14 := hL.2
                      have hS := Eq.mp (Sst_X7_read_108.eq_1 v14_3 w14) hL.1
                      refine lv_iload_n hx hb dX7_read_108 rfl (lv_at hl 0 rfl) ?_
                      refine lv_sipush (v := 1787) hx hb dX7_read_109 (by decide) ?_
                      refine lv_icmp_ge (tgt := 133) hx hb dX7_read_112 (by decide) (fun c15 => ?_) (fun c15 => ?_)
                      · skip
                        have hT14 := hT14.trans (if_pos c15)
                        try have hS := Eq.mp (if_pos c15) hS
                        refine lv_aload_n hx hb dX7_read_133 rfl (lv_at hl 3 rfl) ?_
                        refine lv_aload_n hx hb dX7_read_134 rfl (lv_at hl 3 rfl) ?_
                        refine g_get (v := .long (w14.2.2 1)) (C := RX7) (T := TX7) (N := 16) (ci := 9) X inX7 hw 0 rfl rfl 4 (by decide) (List.mem_of_getElem? (i := 7) rfl) rfl rfl dX7_read_135 ?_
                        refine g_put (v := .long (w14.2.2 1)) (C := RX7) (T := TX7) (N := 16) (ci := 9) (w' := MW cy ad (sL w14 0 (w14.2.2 1)) ++ rest) X inX7 tyX7 tyX7_ok nmX7 hw 0 rfl rfl 2 (by decide) (List.mem_of_getElem? (i := 6) rfl) rfl rfl rfl rfl (Nat.le_of_ble_eq_true rfl) rfl dX7_read_138 (fun H locs hw => ?_)
                        obtain ⟨u16, hu16⟩ : ∃ z, z = sL w14 0 (w14.2.2 1) := ⟨_, rfl⟩
                        rw [← hu16] at hw
                        have hT14 := hT14.trans (bnd_eq hu16)
                        try have hS := Eq.mp (bnd_eq hu16) hS
                        refine lv_aload_n hx hb dX7_read_141 rfl (lv_at hl 3 rfl) ?_
                        refine lv_iconst (v := 2) hx hb dX7_read_142 (by decide) ?_
                        refine gcV_i (rest := []) X (c_X7_fails l D cy ad rest u16 2) gy_X7_fails gX7_read_X7_fails ⟨rfl, rfl, Nat.le_of_ble_eq_true rfl, Nat.le_of_ble_eq_true rfl⟩ 0 rfl rfl rfl hl rfl (Nat.le_of_ble_eq_true rfl) dX7_read_143 ⟨Nat.zero_le _, Nat.zero_le _⟩ hw (fun r17 u18 H locs hr17 hw => ?_)
                        obtain ⟨hr17, hu18⟩ : r17 = (F_X7_fails u16 2).1 ∧ u18 = (F_X7_fails u16 2).2 := hr17
                        have hT14 := hT14.trans (bnd_eq hu18)
                        try have hS := Eq.mp (bnd_eq hu18) hS
                        have hT14 := hT14.trans (bnd_eq hr17)
                        try have hS := Eq.mp (bnd_eq hr17) hS
                        exact hret _ _ _ _ _ _ dX7_read_146 ⟨congrArg Prod.fst ((hF.trans (lp_r (hT4.trans (lp_r (hT8.trans (lp_r hT14)))))).symm.trans hsp), congrArg Prod.snd ((hF.trans (lp_r (hT4.trans (lp_r (hT8.trans (lp_r hT14)))))).symm.trans hsp)⟩ hw
                      · skip
                        have hT14 := hT14.trans (if_neg c15)
                        try have hS := Eq.mp (if_neg c15) hS
                        refine lv_aload_n hx hb dX7_read_115 rfl (lv_at hl 3 rfl) ?_
                        refine g_get (v := .ref (ad 1)) (C := RX7) (T := TX7) (N := 16) (ci := 9) X inX7 hw 0 rfl rfl 1 (by decide) (List.mem_of_getElem? (i := 5) rfl) rfl rfl dX7_read_116 ?_
                        refine lv_iload_n hx hb dX7_read_119 rfl (lv_at hl 0 rfl) ?_
                        refine lv_aload_n hx hb dX7_read_120 rfl (lv_at hl 3 rfl) ?_
                        refine g_get (v := .ref (ad 2)) (C := RX7) (T := TX7) (N := 16) (ci := 9) X inX7 hw 0 rfl rfl 3 (by decide) (List.mem_of_getElem? (i := 4) rfl) rfl rfl dX7_read_121 ?_
                        refine lv_iload_n hx hb dX7_read_124 rfl (lv_at hl 0 rfl) ?_
                        refine g_iald X hw 2 rfl hS.1 dX7_read_125 ?_
                        have hS := hS.2
                        refine g_iast (w' := MW cy ad (sR w14 0 (upd (w14.1 0) v14_3.toNatClampNeg (w14.1 1 v14_3.toNatClampNeg))) ++ rest) X hw 1 rfl hS.1 rfl dX7_read_126 (fun H locs hw => ?_)
                        have hS := hS.2
                        obtain ⟨u19, hu19⟩ : ∃ z, z = sR w14 0 (upd (w14.1 0) v14_3.toNatClampNeg (w14.1 1 v14_3.toNatClampNeg)) := ⟨_, rfl⟩
                        rw [← hu19] at hw
                        have hT14 := hT14.trans (bnd_eq hu19)
                        try have hS := Eq.mp (bnd_eq hu19) hS
                        refine lv_iinc (v := (v14_3 + 1)) (lv' := [(3, .int (v14_3 + 1)), (2, .int v8_2), (1, .int r1), (0, .ref (ad 0))]) hx hb dX7_read_127 hl (k := 0) rfl rfl (by decide) rfl (fun ls hl => ?_)
                        refine lv_goto (tgt := 108) hx hb dX7_read_130 (by decide) ?_
                        exact ih14 (v14_3 + 1) u19 (hT8.trans (lp_l hT14)) (hLn14 _ hT14) _ _ ls (lv_sub hl [0, 1, 2, 3] rfl) hw
                  exact L14 _ 0 u10 hT8 hS _ _ ls (lv_sub hl [0, 1, 2, 3] rfl) hw
              · skip
                have hT8 := hT8.trans (if_neg c9)
                try have hS := Eq.mp (if_neg c9) hS
                refine lv_iload_n hx hb dX7_read_78 rfl (lv_at hl 1 rfl) ?_
                refine lv_if_eq (tgt := 97) hx hb dX7_read_79 (by decide) (fun c20 => ?_) (fun c20 => ?_)
                · skip
                  have hT8 := hT8.trans (if_pos c20)
                  try have hS := Eq.mp (if_pos c20) hS
                  refine lv_aload_n hx hb dX7_read_97 rfl (lv_at hl 3 rfl) ?_
                  refine lv_iconst (v := 0) hx hb dX7_read_98 (by decide) ?_
                  refine g_put (v := .int 0) (C := RX7) (T := TX7) (N := 16) (ci := 9) (w' := MW cy ad (sI w8 2 0) ++ rest) X inX7 tyX7 tyX7_ok nmX7 hw 0 rfl rfl 9 (by decide) (List.mem_of_getElem? (i := 3) rfl) rfl rfl rfl rfl (Nat.le_of_ble_eq_true rfl) rfl dX7_read_99 (fun H locs hw => ?_)
                  obtain ⟨u21, hu21⟩ : ∃ z, z = sI w8 2 0 := ⟨_, rfl⟩
                  rw [← hu21] at hw
                  have hT8 := hT8.trans (bnd_eq hu21)
                  try have hS := Eq.mp (bnd_eq hu21) hS
                  refine lv_iload_n hx hb dX7_read_102 rfl (lv_at hl 1 rfl) ?_
                  refine lv_if_ne (tgt := 147) hx hb dX7_read_103 (by decide) (fun c22 => ?_) (fun c22 => ?_)
                  · skip
                    have hT8 := hT8.trans (if_neg c22)
                    try have hS := Eq.mp (if_neg c22) hS
                    refine lv_aload_n hx hb dX7_read_147 rfl (lv_at hl 3 rfl) ?_
                    refine lv_iload_n hx hb dX7_read_148 rfl (lv_at hl 2 rfl) ?_
                    refine gcV_i (rest := []) X (c_X7_done l D cy ad rest u21 r1) gy_X7_done gX7_read_X7_done ⟨rfl, rfl, Nat.le_of_ble_eq_true rfl, Nat.le_of_ble_eq_true rfl⟩ 0 rfl rfl rfl hl rfl (Nat.le_of_ble_eq_true rfl) dX7_read_149 ⟨Nat.zero_le _, Nat.zero_le _⟩ hw (fun r23 u24 H locs hr23 hw => ?_)
                    obtain ⟨hr23, hu24⟩ : r23 = (F_X7_done u21 r1).1 ∧ u24 = (F_X7_done u21 r1).2 := hr23
                    have hT8 := hT8.trans (bnd_eq hu24)
                    try have hS := Eq.mp (bnd_eq hu24) hS
                    have hT8 := hT8.trans (bnd_eq hr23)
                    try have hS := Eq.mp (bnd_eq hr23) hS
                    exact hret _ _ _ _ _ _ dX7_read_152 ⟨congrArg Prod.fst ((hF.trans (lp_r (hT4.trans (lp_r hT8)))).symm.trans hsp), congrArg Prod.snd ((hF.trans (lp_r (hT4.trans (lp_r hT8)))).symm.trans hsp)⟩ hw
                  · skip
                    have hT8 := hT8.trans (if_pos c22)
                    try have hS := Eq.mp (if_pos c22) hS
                    refine lv_iconst (v := 0) hx hb dX7_read_106 (by decide) ?_
                    refine lv_istore_n (lv' := [(3, .int 0), (2, .int v8_2), (1, .int r1), (0, .ref (ad 0))]) hx hb dX7_read_107 rfl hl (by decide) rfl (fun ls hl => ?_)
                    have L25 : ∀ (n25 : Nat) (v25_3 : Int32) (w25 : CS), st_X7_read_73 C r1 v8_3 v8_2 w8 = lp (fun (z : Int32 × CS) => st_X7_read_108 z.1 z.2) (.inr (.inr (0, C))) n25 (v25_3, w25) → lpS (fun (z : Int32 × CS) => st_X7_read_108 z.1 z.2) (fun (z : Int32 × CS) => Sst_X7_read_108 z.1 z.2) n25 (v25_3, w25) → ∀ (H : Heap) (locs : List Loc) (ls : Array Slot), lv_has ls 4 [(3, .int v25_3), (2, .int v8_2), (1, .int r1), (0, .ref (ad 0))] → gw D A s.heap (MW cy ad w25 ++ rest) H locs → W p l e rmX7_read s m args below meth c H locs 0 0 Q (F0 m 108 ls []) := by
                      intro n25
                      induction n25 with
                      | zero => intro v25_3 w25 hT8 hL; exact False.elim hL
                      | succ n25 ih25 =>
                        intro v25_3 w25 hT8 hL H locs ls hl hw
                        have hT25 := st_X7_read_108.eq_1 v25_3 w25
                        have hLn25 := hL.2
                        have hS := Eq.mp (Sst_X7_read_108.eq_1 v25_3 w25) hL.1
                        refine lv_iload_n hx hb dX7_read_108 rfl (lv_at hl 0 rfl) ?_
                        refine lv_sipush (v := 1787) hx hb dX7_read_109 (by decide) ?_
                        refine lv_icmp_ge (tgt := 133) hx hb dX7_read_112 (by decide) (fun c26 => ?_) (fun c26 => ?_)
                        · skip
                          have hT25 := hT25.trans (if_pos c26)
                          try have hS := Eq.mp (if_pos c26) hS
                          refine lv_aload_n hx hb dX7_read_133 rfl (lv_at hl 3 rfl) ?_
                          refine lv_aload_n hx hb dX7_read_134 rfl (lv_at hl 3 rfl) ?_
                          refine g_get (v := .long (w25.2.2 1)) (C := RX7) (T := TX7) (N := 16) (ci := 9) X inX7 hw 0 rfl rfl 4 (by decide) (List.mem_of_getElem? (i := 7) rfl) rfl rfl dX7_read_135 ?_
                          refine g_put (v := .long (w25.2.2 1)) (C := RX7) (T := TX7) (N := 16) (ci := 9) (w' := MW cy ad (sL w25 0 (w25.2.2 1)) ++ rest) X inX7 tyX7 tyX7_ok nmX7 hw 0 rfl rfl 2 (by decide) (List.mem_of_getElem? (i := 6) rfl) rfl rfl rfl rfl (Nat.le_of_ble_eq_true rfl) rfl dX7_read_138 (fun H locs hw => ?_)
                          obtain ⟨u27, hu27⟩ : ∃ z, z = sL w25 0 (w25.2.2 1) := ⟨_, rfl⟩
                          rw [← hu27] at hw
                          have hT25 := hT25.trans (bnd_eq hu27)
                          try have hS := Eq.mp (bnd_eq hu27) hS
                          refine lv_aload_n hx hb dX7_read_141 rfl (lv_at hl 3 rfl) ?_
                          refine lv_iconst (v := 2) hx hb dX7_read_142 (by decide) ?_
                          refine gcV_i (rest := []) X (c_X7_fails l D cy ad rest u27 2) gy_X7_fails gX7_read_X7_fails ⟨rfl, rfl, Nat.le_of_ble_eq_true rfl, Nat.le_of_ble_eq_true rfl⟩ 0 rfl rfl rfl hl rfl (Nat.le_of_ble_eq_true rfl) dX7_read_143 ⟨Nat.zero_le _, Nat.zero_le _⟩ hw (fun r28 u29 H locs hr28 hw => ?_)
                          obtain ⟨hr28, hu29⟩ : r28 = (F_X7_fails u27 2).1 ∧ u29 = (F_X7_fails u27 2).2 := hr28
                          have hT25 := hT25.trans (bnd_eq hu29)
                          try have hS := Eq.mp (bnd_eq hu29) hS
                          have hT25 := hT25.trans (bnd_eq hr28)
                          try have hS := Eq.mp (bnd_eq hr28) hS
                          exact hret _ _ _ _ _ _ dX7_read_146 ⟨congrArg Prod.fst ((hF.trans (lp_r (hT4.trans (lp_r (hT8.trans (lp_r hT25)))))).symm.trans hsp), congrArg Prod.snd ((hF.trans (lp_r (hT4.trans (lp_r (hT8.trans (lp_r hT25)))))).symm.trans hsp)⟩ hw
                        · skip
                          have hT25 := hT25.trans (if_neg c26)
                          try have hS := Eq.mp (if_neg c26) hS
                          refine lv_aload_n hx hb dX7_read_115 rfl (lv_at hl 3 rfl) ?_
                          refine g_get (v := .ref (ad 1)) (C := RX7) (T := TX7) (N := 16) (ci := 9) X inX7 hw 0 rfl rfl 1 (by decide) (List.mem_of_getElem? (i := 5) rfl) rfl rfl dX7_read_116 ?_
                          refine lv_iload_n hx hb dX7_read_119 rfl (lv_at hl 0 rfl) ?_
                          refine lv_aload_n hx hb dX7_read_120 rfl (lv_at hl 3 rfl) ?_
                          refine g_get (v := .ref (ad 2)) (C := RX7) (T := TX7) (N := 16) (ci := 9) X inX7 hw 0 rfl rfl 3 (by decide) (List.mem_of_getElem? (i := 4) rfl) rfl rfl dX7_read_121 ?_
                          refine lv_iload_n hx hb dX7_read_124 rfl (lv_at hl 0 rfl) ?_
                          refine g_iald X hw 2 rfl hS.1 dX7_read_125 ?_
                          have hS := hS.2
                          refine g_iast (w' := MW cy ad (sR w25 0 (upd (w25.1 0) v25_3.toNatClampNeg (w25.1 1 v25_3.toNatClampNeg))) ++ rest) X hw 1 rfl hS.1 rfl dX7_read_126 (fun H locs hw => ?_)
                          have hS := hS.2
                          obtain ⟨u30, hu30⟩ : ∃ z, z = sR w25 0 (upd (w25.1 0) v25_3.toNatClampNeg (w25.1 1 v25_3.toNatClampNeg)) := ⟨_, rfl⟩
                          rw [← hu30] at hw
                          have hT25 := hT25.trans (bnd_eq hu30)
                          try have hS := Eq.mp (bnd_eq hu30) hS
                          refine lv_iinc (v := (v25_3 + 1)) (lv' := [(3, .int (v25_3 + 1)), (2, .int v8_2), (1, .int r1), (0, .ref (ad 0))]) hx hb dX7_read_127 hl (k := 0) rfl rfl (by decide) rfl (fun ls hl => ?_)
                          refine lv_goto (tgt := 108) hx hb dX7_read_130 (by decide) ?_
                          exact ih25 (v25_3 + 1) u30 (hT8.trans (lp_l hT25)) (hLn25 _ hT25) _ _ ls (lv_sub hl [0, 1, 2, 3] rfl) hw
                    exact L25 _ 0 u21 hT8 hS _ _ ls (lv_sub hl [0, 1, 2, 3] rfl) hw
                · skip
                  have hT8 := hT8.trans (if_neg c20)
                  try have hS := Eq.mp (if_neg c20) hS
                  refine lv_aload_n hx hb dX7_read_82 rfl (lv_at hl 3 rfl) ?_
                  refine lv_aload_n hx hb dX7_read_83 rfl (lv_at hl 3 rfl) ?_
                  have hSc : S_X7_readsEntry w8 := hS.1
                  have hS := hS.2
                  refine gcV_i (rest := [.ref (ad 0)]) X (c_X7_readsEntry l D cy ad rest w8  hSc) gy_X7_readsEntry gX7_read_X7_readsEntry ⟨rfl, rfl, Nat.le_of_ble_eq_true rfl, Nat.le_of_ble_eq_true rfl⟩ 0 rfl rfl rfl hl rfl (Nat.le_of_ble_eq_true rfl) dX7_read_84 ⟨Nat.zero_le _, Nat.zero_le _⟩ hw (fun r31 u32 H locs hr31 hw => ?_)
                  obtain ⟨hr31, hu32⟩ : r31 = (F_X7_readsEntry w8).1 ∧ u32 = (F_X7_readsEntry w8).2 := hr31
                  have hT8 := hT8.trans (bnd_eq hu32)
                  try have hS := Eq.mp (bnd_eq hu32) hS
                  have hT8 := hT8.trans (bnd_eq hr31)
                  try have hS := Eq.mp (bnd_eq hr31) hS
                  have hSc : S_X7_does u32 r31 := hS.1
                  have hS := hS.2
                  refine gcV_i (rest := []) X (c_X7_does l D cy ad rest u32 r31 hSc) gy_X7_does gX7_read_X7_does ⟨rfl, rfl, Nat.le_of_ble_eq_true rfl, Nat.le_of_ble_eq_true rfl⟩ 0 rfl rfl rfl hl rfl (Nat.le_of_ble_eq_true rfl) dX7_read_87 ⟨Nat.zero_le _, Nat.zero_le _⟩ hw (fun r33 u34 H locs hr33 hw => ?_)
                  obtain ⟨⟨hr33, hu34⟩, zr33⟩ : (r33 = (F_X7_does u32 r31).1 ∧ u34 = (F_X7_does u32 r31).2) ∧ (r33 = 0 ∨ r33 = 1) := hr33
                  have hT8 := hT8.trans (bnd_eq hu34)
                  try have hS := Eq.mp (bnd_eq hu34) hS
                  have hT8 := hT8.trans (bnd_eq hr33)
                  try have hS := Eq.mp (bnd_eq hr33) hS
                  refine lv_istore_n (lv' := [(2, .int r33), (3, .int v8_3), (1, .int r1), (0, .ref (ad 0))]) hx hb dX7_read_90 rfl hl (by decide) rfl (fun ls hl => ?_)
                  refine lv_iinc (v := (v8_3 + 1)) (lv' := [(3, .int (v8_3 + 1)), (2, .int r33), (1, .int r1), (0, .ref (ad 0))]) hx hb dX7_read_91 hl (k := 1) rfl rfl (by decide) rfl (fun ls hl => ?_)
                  refine lv_goto (tgt := 73) hx hb dX7_read_94 (by decide) ?_
                  exact ih8 (v8_3 + 1) r33 u34 (hT4.trans (lp_l hT8)) (hLn8 _ hT8) _ _ ls (lv_sub hl [0, 1, 2, 3] rfl) hw
          exact L8 _ 0 1 u7 hT4 hS _ _ ls (lv_sub hl [0, 1, 2, 3] rfl) hw
        · skip
          have hT4 := hT4.trans (if_neg c5)
          try have hS := Eq.mp (if_neg c5) hS
          refine lv_aload_n hx hb dX7_read_38 rfl (lv_at hl 2 rfl) ?_
          refine g_get (v := .ref (ad 2)) (C := RX7) (T := TX7) (N := 16) (ci := 9) X inX7 hw 0 rfl rfl 3 (by decide) (List.mem_of_getElem? (i := 4) rfl) rfl rfl dX7_read_39 ?_
          refine lv_iload_n hx hb dX7_read_42 rfl (lv_at hl 0 rfl) ?_
          refine lv_aload_n hx hb dX7_read_43 rfl (lv_at hl 2 rfl) ?_
          refine g_get (v := .ref (ad 1)) (C := RX7) (T := TX7) (N := 16) (ci := 9) X inX7 hw 0 rfl rfl 1 (by decide) (List.mem_of_getElem? (i := 5) rfl) rfl rfl dX7_read_44 ?_
          refine lv_iload_n hx hb dX7_read_47 rfl (lv_at hl 0 rfl) ?_
          refine g_iald X hw 1 rfl hS.1 dX7_read_48 ?_
          have hS := hS.2
          refine g_iast (w' := MW cy ad (sR w4 1 (upd (w4.1 1) v4_2.toNatClampNeg (w4.1 0 v4_2.toNatClampNeg))) ++ rest) X hw 2 rfl hS.1 rfl dX7_read_49 (fun H locs hw => ?_)
          have hS := hS.2
          obtain ⟨u35, hu35⟩ : ∃ z, z = sR w4 1 (upd (w4.1 1) v4_2.toNatClampNeg (w4.1 0 v4_2.toNatClampNeg)) := ⟨_, rfl⟩
          rw [← hu35] at hw
          have hT4 := hT4.trans (bnd_eq hu35)
          try have hS := Eq.mp (bnd_eq hu35) hS
          refine lv_iinc (v := (v4_2 + 1)) (lv' := [(2, .int (v4_2 + 1)), (1, .int r1), (0, .ref (ad 0))]) hx hb dX7_read_50 hl (k := 0) rfl rfl (by decide) rfl (fun ls hl => ?_)
          refine lv_goto (tgt := 31) hx hb dX7_read_53 (by decide) ?_
          exact ih4 (v4_2 + 1) u35 (hF.trans (lp_l hT4)) (hLn4 _ hT4) _ _ ls (lv_sub hl [0, 1, 2] rfl) hw
    exact L4 _ 0 u2 hF hS _ _ ls (lv_sub hl [0, 1, 2] rfl) hw
  · skip
    have hF := hF.trans (if_pos c3)
    try have hS := Eq.mp (if_pos c3) hS
    refine lv_aload_n hx hb dX7_read_10 rfl (lv_at hl 1 rfl) ?_
    refine lv_aload_n hx hb dX7_read_11 rfl (lv_at hl 1 rfl) ?_
    refine g_get (v := .int (u2.2.1 4)) (C := RX7) (T := TX7) (N := 16) (ci := 9) X inX7 hw 0 rfl rfl 11 (by decide) (List.mem_of_getElem? (i := 1) rfl) rfl rfl dX7_read_12 ?_
    refine g_put (v := .int (u2.2.1 4)) (C := RX7) (T := TX7) (N := 16) (ci := 9) (w' := MW cy ad (sI u2 3 (u2.2.1 4)) ++ rest) X inX7 tyX7 tyX7_ok nmX7 hw 0 rfl rfl 10 (by decide) (List.mem_of_getElem? (i := 2) rfl) rfl rfl rfl rfl (Nat.le_of_ble_eq_true rfl) rfl dX7_read_15 (fun H locs hw => ?_)
    obtain ⟨u36, hu36⟩ : ∃ z, z = sI u2 3 (u2.2.1 4) := ⟨_, rfl⟩
    rw [← hu36] at hw
    have hF := hF.trans (bnd_eq hu36)
    try have hS := Eq.mp (bnd_eq hu36) hS
    refine lv_aload_n hx hb dX7_read_18 rfl (lv_at hl 1 rfl) ?_
    refine lv_iconst (v := 0) hx hb dX7_read_19 (by decide) ?_
    refine g_put (v := .int 0) (C := RX7) (T := TX7) (N := 16) (ci := 9) (w' := MW cy ad (sI u36 2 0) ++ rest) X inX7 tyX7 tyX7_ok nmX7 hw 0 rfl rfl 9 (by decide) (List.mem_of_getElem? (i := 3) rfl) rfl rfl rfl rfl (Nat.le_of_ble_eq_true rfl) rfl dX7_read_20 (fun H locs hw => ?_)
    obtain ⟨u37, hu37⟩ : ∃ z, z = sI u36 2 0 := ⟨_, rfl⟩
    rw [← hu37] at hw
    have hF := hF.trans (bnd_eq hu37)
    try have hS := Eq.mp (bnd_eq hu37) hS
    refine lv_aload_n hx hb dX7_read_23 rfl (lv_at hl 1 rfl) ?_
    refine lv_iconst (v := 1) hx hb dX7_read_24 (by decide) ?_
    refine gcV_i (rest := []) X (c_X7_fails l D cy ad rest u37 1) gy_X7_fails gX7_read_X7_fails ⟨rfl, rfl, Nat.le_of_ble_eq_true rfl, Nat.le_of_ble_eq_true rfl⟩ 0 rfl rfl rfl hl rfl (Nat.le_of_ble_eq_true rfl) dX7_read_25 ⟨Nat.zero_le _, Nat.zero_le _⟩ hw (fun r38 u39 H locs hr38 hw => ?_)
    obtain ⟨hr38, hu39⟩ : r38 = (F_X7_fails u37 1).1 ∧ u39 = (F_X7_fails u37 1).2 := hr38
    have hF := hF.trans (bnd_eq hu39)
    try have hS := Eq.mp (bnd_eq hu39) hS
    have hF := hF.trans (bnd_eq hr38)
    try have hS := Eq.mp (bnd_eq hr38) hS
    exact hret _ _ _ _ _ _ dX7_read_28 ⟨congrArg Prod.fst (hF.symm.trans hsp), congrArg Prod.snd (hF.symm.trans hsp)⟩ hw
theorem gy_X7_errorPosition : gY yX7_errorPosition RX7 cX7_errorPosition 1 (some .int) wsX7_errorPosition 0 := ⟨⟨_, rfl⟩, rfl, by decide +kernel, by decide +kernel, by decide +kernel⟩
def F_X7_errorPosition (C : CS) : Int32 × CS := (if C.2.1 3 = (-1) then (bnd ((F_X7_fails C 1).2) (fun u5 => (bnd ((F_X7_fails C 1).1) (fun r4 => (r4, u5))))) else (bnd ((F_X7_done C (C.2.1 3)).2) (fun u3 => (bnd ((F_X7_done C (C.2.1 3)).1) (fun r2 => (r2, u3))))))
abbrev rmX7_errorPosition : Room := { frames := 1, cells := 0, slots := 0, locals := 21 }
set_option maxHeartbeats 4000000 in
set_option maxRecDepth 100000 in
theorem c_X7_errorPosition (l : Launch) (D : va_G) (cy : Nat → ClassId) (ad : Nat → Nat) (rest : va_W) (C : CS) : GMi l yX7_errorPosition wsX7_errorPosition rmX7_errorPosition D cy [.ref (ad 0)] (MW cy ad C ++ rest) (fun (r : Int32) (u : CS) => r = (F_X7_errorPosition C).1 ∧ u = (F_X7_errorPosition C).2) (fun u => MW cy ad u ++ rest) := by
  refine GMi.intro cX7_errorPosition 1 RX7 (by decide) rfl rfl (Nat.le_of_ble_eq_true rfl) ?_
  intro p e s m args below meth c A Q ls X hret hl hw
  have hx := X.1
  have hb := X.2.1
  have hl : lv_has ls 1 [(0, .ref (ad 0))] := hl
  have inX7 : ∀ w ∈ wsX70, w ∈ wsX7_errorPosition := fun w h => List.mem_cons_of_mem _ (List.mem_append_right _ h)
  obtain ⟨sp, hsp⟩ : ∃ sp, sp = F_X7_errorPosition C := ⟨_, rfl⟩
  have hF := hsp.trans (F_X7_errorPosition.eq_1 C)
  refine lv_aload_n hx hb dX7_errorPosition_0 rfl (lv_at hl 0 rfl) ?_
  refine g_get (v := .int (C.2.1 3)) (C := RX7) (T := TX7) (N := 16) (ci := 9) X inX7 hw 0 rfl rfl 10 (by decide) (List.mem_of_getElem? (i := 1) rfl) rfl rfl dX7_errorPosition_1 ?_
  refine lv_iconst (v := (-1)) hx hb dX7_errorPosition_4 (by decide) ?_
  refine lv_icmp_ne (tgt := 16) hx hb dX7_errorPosition_5 (by decide) (fun c1 => ?_) (fun c1 => ?_)
  · skip
    have hF := hF.trans (if_neg c1)
    try have hS := Eq.mp (if_neg c1) hS
    refine lv_aload_n hx hb dX7_errorPosition_16 rfl (lv_at hl 0 rfl) ?_
    refine lv_aload_n hx hb dX7_errorPosition_17 rfl (lv_at hl 0 rfl) ?_
    refine g_get (v := .int (C.2.1 3)) (C := RX7) (T := TX7) (N := 16) (ci := 9) X inX7 hw 0 rfl rfl 10 (by decide) (List.mem_of_getElem? (i := 1) rfl) rfl rfl dX7_errorPosition_18 ?_
    refine gcV_i (rest := []) X (c_X7_done l D cy ad rest C (C.2.1 3)) gy_X7_done gX7_errorPosition_X7_done ⟨rfl, rfl, Nat.le_of_ble_eq_true rfl, Nat.le_of_ble_eq_true rfl⟩ 0 rfl rfl rfl hl rfl (Nat.le_of_ble_eq_true rfl) dX7_errorPosition_21 ⟨Nat.zero_le _, Nat.zero_le _⟩ hw (fun r2 u3 H locs hr2 hw => ?_)
    obtain ⟨hr2, hu3⟩ : r2 = (F_X7_done C (C.2.1 3)).1 ∧ u3 = (F_X7_done C (C.2.1 3)).2 := hr2
    have hF := hF.trans (bnd_eq hu3)
    try have hS := Eq.mp (bnd_eq hu3) hS
    have hF := hF.trans (bnd_eq hr2)
    try have hS := Eq.mp (bnd_eq hr2) hS
    exact hret _ _ _ _ _ _ dX7_errorPosition_24 ⟨congrArg Prod.fst (hF.symm.trans hsp), congrArg Prod.snd (hF.symm.trans hsp)⟩ hw
  · skip
    have hF := hF.trans (if_pos c1)
    try have hS := Eq.mp (if_pos c1) hS
    refine lv_aload_n hx hb dX7_errorPosition_8 rfl (lv_at hl 0 rfl) ?_
    refine lv_iconst (v := 1) hx hb dX7_errorPosition_9 (by decide) ?_
    refine gcV_i (rest := []) X (c_X7_fails l D cy ad rest C 1) gy_X7_fails gX7_errorPosition_X7_fails ⟨rfl, rfl, Nat.le_of_ble_eq_true rfl, Nat.le_of_ble_eq_true rfl⟩ 0 rfl rfl rfl hl rfl (Nat.le_of_ble_eq_true rfl) dX7_errorPosition_10 ⟨Nat.zero_le _, Nat.zero_le _⟩ hw (fun r4 u5 H locs hr4 hw => ?_)
    obtain ⟨hr4, hu5⟩ : r4 = (F_X7_fails C 1).1 ∧ u5 = (F_X7_fails C 1).2 := hr4
    have hF := hF.trans (bnd_eq hu5)
    try have hS := Eq.mp (bnd_eq hu5) hS
    have hF := hF.trans (bnd_eq hr4)
    try have hS := Eq.mp (bnd_eq hr4) hS
    refine lv_goto (tgt := 24) hx hb dX7_errorPosition_13 (by decide) ?_
    exact hret _ _ _ _ _ _ dX7_errorPosition_24 ⟨congrArg Prod.fst (hF.symm.trans hsp), congrArg Prod.snd (hF.symm.trans hsp)⟩ hw
theorem gy_X7_save : gY yX7_save RX7 cX7_save 2 (some .int) wsX7_save 0 := ⟨⟨_, rfl⟩, rfl, by decide +kernel, by decide +kernel, by decide +kernel⟩
def st_X7_save_7 (v2_1 : Int32) (w2 : CS) : (Int32 × CS) ⊕ (Int32 × CS) := (if 1787 ≤ v2_1 then (bnd (sL w2 2 (w2.2.2 0)) (fun u4 => (bnd ((F_X7_done u4 (u4.1 0 400)).2) (fun u6 => (bnd ((F_X7_done u4 (u4.1 0 400)).1) (fun r5 => .inr ((r5, u6)))))))) else (bnd (sR w2 2 (upd (w2.1 2) v2_1.toNatClampNeg (w2.1 0 v2_1.toNatClampNeg))) (fun u7 => .inl ((v2_1 + 1), u7))))
def Sst_X7_save_7 (v2_1 : Int32) (w2 : CS) : Prop := (if 1787 ≤ v2_1 then True else (vp_in v2_1 1787 ∧ (vp_in v2_1 1787 ∧ True)))
def F_X7_save (C : CS) : Int32 × CS := (bnd (sI C 1 1) (fun u1 => lp (fun (z : Int32 × CS) => st_X7_save_7 z.1 z.2) (0, C) (((1787 : Int32).toInt - (0 : Int32).toInt).toNat + 1) (0, u1)))
def S_X7_save (C : CS) : Prop := (bnd (sI C 1 1) (fun u1 => lpS (fun (z : Int32 × CS) => st_X7_save_7 z.1 z.2) (fun (z : Int32 × CS) => Sst_X7_save_7 z.1 z.2) (((1787 : Int32).toInt - (0 : Int32).toInt).toNat + 1) (0, u1)))
abbrev rmX7_save : Room := { frames := 1, cells := 0, slots := 0, locals := 21 }
set_option maxHeartbeats 4000000 in
set_option maxRecDepth 100000 in
theorem c_X7_save (l : Launch) (D : va_G) (cy : Nat → ClassId) (ad : Nat → Nat) (rest : va_W) (C : CS) (hS : S_X7_save C) : GMi l yX7_save wsX7_save rmX7_save D cy [.ref (ad 0)] (MW cy ad C ++ rest) (fun (r : Int32) (u : CS) => r = (F_X7_save C).1 ∧ u = (F_X7_save C).2) (fun u => MW cy ad u ++ rest) := by
  refine GMi.intro cX7_save 2 RX7 (by decide) rfl rfl (Nat.le_of_ble_eq_true rfl) ?_
  intro p e s m args below meth c A Q ls X hret hl hw
  have hx := X.1
  have hb := X.2.1
  have hl : lv_has ls 2 [(0, .ref (ad 0))] := hl
  have inX7 : ∀ w ∈ wsX70, w ∈ wsX7_save := fun w h => List.mem_cons_of_mem _ (List.mem_append_left _ (List.mem_append_right _ h))
  obtain ⟨sp, hsp⟩ : ∃ sp, sp = F_X7_save C := ⟨_, rfl⟩
  have hF := hsp.trans (F_X7_save.eq_1 C)
  have hS := Eq.mp (S_X7_save.eq_1 C) hS
  refine lv_aload_n hx hb dX7_save_0 rfl (lv_at hl 0 rfl) ?_
  refine lv_iconst (v := 1) hx hb dX7_save_1 (by decide) ?_
  refine g_put (v := .int 1) (C := RX7) (T := TX7) (N := 16) (ci := 9) (w' := MW cy ad (sI C 1 1) ++ rest) X inX7 tyX7 tyX7_ok nmX7 hw 0 rfl rfl 7 (by decide) (List.mem_of_getElem? (i := 1) rfl) rfl rfl rfl rfl (Nat.le_of_ble_eq_true rfl) rfl dX7_save_2 (fun H locs hw => ?_)
  obtain ⟨u1, hu1⟩ : ∃ z, z = sI C 1 1 := ⟨_, rfl⟩
  rw [← hu1] at hw
  have hF := hF.trans (bnd_eq hu1)
  try have hS := Eq.mp (bnd_eq hu1) hS
  refine lv_iconst (v := 0) hx hb dX7_save_5 (by decide) ?_
  refine lv_istore_n (lv' := [(1, .int 0), (0, .ref (ad 0))]) hx hb dX7_save_6 rfl hl (by decide) rfl (fun ls hl => ?_)
  have L2 : ∀ (n2 : Nat) (v2_1 : Int32) (w2 : CS), sp = lp (fun (z : Int32 × CS) => st_X7_save_7 z.1 z.2) (0, C) n2 (v2_1, w2) → lpS (fun (z : Int32 × CS) => st_X7_save_7 z.1 z.2) (fun (z : Int32 × CS) => Sst_X7_save_7 z.1 z.2) n2 (v2_1, w2) → ∀ (H : Heap) (locs : List Loc) (ls : Array Slot), lv_has ls 2 [(1, .int v2_1), (0, .ref (ad 0))] → gw D A s.heap (MW cy ad w2 ++ rest) H locs → W p l e rmX7_save s m args below meth c H locs 0 0 Q (F0 m 7 ls []) := by
    intro n2
    induction n2 with
    | zero => intro v2_1 w2 hF hL; exact False.elim hL
    | succ n2 ih2 =>
      intro v2_1 w2 hF hL H locs ls hl hw
      have hT2 := st_X7_save_7.eq_1 v2_1 w2
      have hLn2 := hL.2
      have hS := Eq.mp (Sst_X7_save_7.eq_1 v2_1 w2) hL.1
      refine lv_iload_n hx hb dX7_save_7 rfl (lv_at hl 0 rfl) ?_
      refine lv_sipush (v := 1787) hx hb dX7_save_8 (by decide) ?_
      refine lv_icmp_ge (tgt := 32) hx hb dX7_save_11 (by decide) (fun c3 => ?_) (fun c3 => ?_)
      · skip
        have hT2 := hT2.trans (if_pos c3)
        try have hS := Eq.mp (if_pos c3) hS
        refine lv_aload_n hx hb dX7_save_32 rfl (lv_at hl 1 rfl) ?_
        refine lv_aload_n hx hb dX7_save_33 rfl (lv_at hl 1 rfl) ?_
        refine g_get (v := .long (w2.2.2 0)) (C := RX7) (T := TX7) (N := 16) (ci := 9) X inX7 hw 0 rfl rfl 2 (by decide) (List.mem_of_getElem? (i := 4) rfl) rfl rfl dX7_save_34 ?_
        refine g_put (v := .long (w2.2.2 0)) (C := RX7) (T := TX7) (N := 16) (ci := 9) (w' := MW cy ad (sL w2 2 (w2.2.2 0)) ++ rest) X inX7 tyX7 tyX7_ok nmX7 hw 0 rfl rfl 6 (by decide) (List.mem_of_getElem? (i := 5) rfl) rfl rfl rfl rfl (Nat.le_of_ble_eq_true rfl) rfl dX7_save_37 (fun H locs hw => ?_)
        obtain ⟨u4, hu4⟩ : ∃ z, z = sL w2 2 (w2.2.2 0) := ⟨_, rfl⟩
        rw [← hu4] at hw
        have hT2 := hT2.trans (bnd_eq hu4)
        try have hS := Eq.mp (bnd_eq hu4) hS
        refine lv_aload_n hx hb dX7_save_40 rfl (lv_at hl 1 rfl) ?_
        refine lv_aload_n hx hb dX7_save_41 rfl (lv_at hl 1 rfl) ?_
        refine g_get (v := .ref (ad 1)) (C := RX7) (T := TX7) (N := 16) (ci := 9) X inX7 hw 0 rfl rfl 1 (by decide) (List.mem_of_getElem? (i := 3) rfl) rfl rfl dX7_save_42 ?_
        refine lv_sipush (v := 400) hx hb dX7_save_45 (by decide) ?_
        refine g_ialdk (k := 400) rfl X hw 1 rfl (vk rfl) dX7_save_48 ?_
        refine gcV_i (rest := []) X (c_X7_done l D cy ad rest u4 (u4.1 0 400)) gy_X7_done gX7_save_X7_done ⟨rfl, rfl, Nat.le_of_ble_eq_true rfl, Nat.le_of_ble_eq_true rfl⟩ 0 rfl rfl rfl hl rfl (Nat.le_of_ble_eq_true rfl) dX7_save_49 ⟨Nat.zero_le _, Nat.zero_le _⟩ hw (fun r5 u6 H locs hr5 hw => ?_)
        obtain ⟨hr5, hu6⟩ : r5 = (F_X7_done u4 (u4.1 0 400)).1 ∧ u6 = (F_X7_done u4 (u4.1 0 400)).2 := hr5
        have hT2 := hT2.trans (bnd_eq hu6)
        try have hS := Eq.mp (bnd_eq hu6) hS
        have hT2 := hT2.trans (bnd_eq hr5)
        try have hS := Eq.mp (bnd_eq hr5) hS
        exact hret _ _ _ _ _ _ dX7_save_52 ⟨congrArg Prod.fst ((hF.trans (lp_r hT2)).symm.trans hsp), congrArg Prod.snd ((hF.trans (lp_r hT2)).symm.trans hsp)⟩ hw
      · skip
        have hT2 := hT2.trans (if_neg c3)
        try have hS := Eq.mp (if_neg c3) hS
        refine lv_aload_n hx hb dX7_save_14 rfl (lv_at hl 1 rfl) ?_
        refine g_get (v := .ref (ad 3)) (C := RX7) (T := TX7) (N := 16) (ci := 9) X inX7 hw 0 rfl rfl 5 (by decide) (List.mem_of_getElem? (i := 2) rfl) rfl rfl dX7_save_15 ?_
        refine lv_iload_n hx hb dX7_save_18 rfl (lv_at hl 0 rfl) ?_
        refine lv_aload_n hx hb dX7_save_19 rfl (lv_at hl 1 rfl) ?_
        refine g_get (v := .ref (ad 1)) (C := RX7) (T := TX7) (N := 16) (ci := 9) X inX7 hw 0 rfl rfl 1 (by decide) (List.mem_of_getElem? (i := 3) rfl) rfl rfl dX7_save_20 ?_
        refine lv_iload_n hx hb dX7_save_23 rfl (lv_at hl 0 rfl) ?_
        refine g_iald X hw 1 rfl hS.1 dX7_save_24 ?_
        have hS := hS.2
        refine g_iast (w' := MW cy ad (sR w2 2 (upd (w2.1 2) v2_1.toNatClampNeg (w2.1 0 v2_1.toNatClampNeg))) ++ rest) X hw 3 rfl hS.1 rfl dX7_save_25 (fun H locs hw => ?_)
        have hS := hS.2
        obtain ⟨u7, hu7⟩ : ∃ z, z = sR w2 2 (upd (w2.1 2) v2_1.toNatClampNeg (w2.1 0 v2_1.toNatClampNeg)) := ⟨_, rfl⟩
        rw [← hu7] at hw
        have hT2 := hT2.trans (bnd_eq hu7)
        try have hS := Eq.mp (bnd_eq hu7) hS
        refine lv_iinc (v := (v2_1 + 1)) (lv' := [(1, .int (v2_1 + 1)), (0, .ref (ad 0))]) hx hb dX7_save_26 hl (k := 0) rfl rfl (by decide) rfl (fun ls hl => ?_)
        refine lv_goto (tgt := 7) hx hb dX7_save_29 (by decide) ?_
        exact ih2 (v2_1 + 1) u7 (hF.trans (lp_l hT2)) (hLn2 _ hT2) _ _ ls (lv_sub hl [0, 1] rfl) hw
  exact L2 _ 0 u1 hF hS _ _ ls (lv_sub hl [0, 1] rfl) hw
theorem gy_X7_restore : gY yX7_restore RX7 cX7_restore 2 (some .int) wsX7_restore 0 := ⟨⟨_, rfl⟩, rfl, by decide +kernel, by decide +kernel, by decide +kernel⟩
def st_X7_restore_15 (v2_1 : Int32) (w2 : CS) : (Int32 × CS) ⊕ (Int32 × CS) := (if 1787 ≤ v2_1 then (bnd (sL w2 0 (w2.2.2 2)) (fun u4 => (bnd ((F_X7_done u4 (u4.1 0 400)).2) (fun u6 => (bnd ((F_X7_done u4 (u4.1 0 400)).1) (fun r5 => .inr ((r5, u6)))))))) else (bnd (sR w2 0 (upd (w2.1 0) v2_1.toNatClampNeg (w2.1 2 v2_1.toNatClampNeg))) (fun u7 => .inl ((v2_1 + 1), u7))))
def Sst_X7_restore_15 (v2_1 : Int32) (w2 : CS) : Prop := (if 1787 ≤ v2_1 then True else (vp_in v2_1 1787 ∧ (vp_in v2_1 1787 ∧ True)))
def F_X7_restore (C : CS) : Int32 × CS := (if C.2.1 1 = 0 then (bnd ((F_X7_fails C 1).2) (fun u9 => (bnd ((F_X7_fails C 1).1) (fun r8 => (r8, u9))))) else lp (fun (z : Int32 × CS) => st_X7_restore_15 z.1 z.2) (0, C) (((1787 : Int32).toInt - (0 : Int32).toInt).toNat + 1) (0, C))
def S_X7_restore (C : CS) : Prop := (if C.2.1 1 = 0 then True else lpS (fun (z : Int32 × CS) => st_X7_restore_15 z.1 z.2) (fun (z : Int32 × CS) => Sst_X7_restore_15 z.1 z.2) (((1787 : Int32).toInt - (0 : Int32).toInt).toNat + 1) (0, C))
abbrev rmX7_restore : Room := { frames := 1, cells := 0, slots := 0, locals := 21 }
set_option maxHeartbeats 4000000 in
set_option maxRecDepth 100000 in
theorem c_X7_restore (l : Launch) (D : va_G) (cy : Nat → ClassId) (ad : Nat → Nat) (rest : va_W) (C : CS) (hS : S_X7_restore C) : GMi l yX7_restore wsX7_restore rmX7_restore D cy [.ref (ad 0)] (MW cy ad C ++ rest) (fun (r : Int32) (u : CS) => r = (F_X7_restore C).1 ∧ u = (F_X7_restore C).2) (fun u => MW cy ad u ++ rest) := by
  refine GMi.intro cX7_restore 2 RX7 (by decide) rfl rfl (Nat.le_of_ble_eq_true rfl) ?_
  intro p e s m args below meth c A Q ls X hret hl hw
  have hx := X.1
  have hb := X.2.1
  have hl : lv_has ls 2 [(0, .ref (ad 0))] := hl
  have inX7 : ∀ w ∈ wsX70, w ∈ wsX7_restore := fun w h => List.mem_cons_of_mem _ (List.mem_append_left _ (List.mem_append_right _ h))
  obtain ⟨sp, hsp⟩ : ∃ sp, sp = F_X7_restore C := ⟨_, rfl⟩
  have hF := hsp.trans (F_X7_restore.eq_1 C)
  have hS := Eq.mp (S_X7_restore.eq_1 C) hS
  refine lv_aload_n hx hb dX7_restore_0 rfl (lv_at hl 0 rfl) ?_
  refine g_get (v := .int (C.2.1 1)) (C := RX7) (T := TX7) (N := 16) (ci := 9) X inX7 hw 0 rfl rfl 7 (by decide) (List.mem_of_getElem? (i := 1) rfl) rfl rfl dX7_restore_1 ?_
  refine lv_if_ne (tgt := 13) hx hb dX7_restore_4 (by decide) (fun c1 => ?_) (fun c1 => ?_)
  · skip
    have hF := hF.trans (if_neg c1)
    try have hS := Eq.mp (if_neg c1) hS
    refine lv_iconst (v := 0) hx hb dX7_restore_13 (by decide) ?_
    refine lv_istore_n (lv' := [(1, .int 0), (0, .ref (ad 0))]) hx hb dX7_restore_14 rfl hl (by decide) rfl (fun ls hl => ?_)
    have L2 : ∀ (n2 : Nat) (v2_1 : Int32) (w2 : CS), sp = lp (fun (z : Int32 × CS) => st_X7_restore_15 z.1 z.2) (0, C) n2 (v2_1, w2) → lpS (fun (z : Int32 × CS) => st_X7_restore_15 z.1 z.2) (fun (z : Int32 × CS) => Sst_X7_restore_15 z.1 z.2) n2 (v2_1, w2) → ∀ (H : Heap) (locs : List Loc) (ls : Array Slot), lv_has ls 2 [(1, .int v2_1), (0, .ref (ad 0))] → gw D A s.heap (MW cy ad w2 ++ rest) H locs → W p l e rmX7_restore s m args below meth c H locs 0 0 Q (F0 m 15 ls []) := by
      intro n2
      induction n2 with
      | zero => intro v2_1 w2 hF hL; exact False.elim hL
      | succ n2 ih2 =>
        intro v2_1 w2 hF hL H locs ls hl hw
        have hT2 := st_X7_restore_15.eq_1 v2_1 w2
        have hLn2 := hL.2
        have hS := Eq.mp (Sst_X7_restore_15.eq_1 v2_1 w2) hL.1
        refine lv_iload_n hx hb dX7_restore_15 rfl (lv_at hl 0 rfl) ?_
        refine lv_sipush (v := 1787) hx hb dX7_restore_16 (by decide) ?_
        refine lv_icmp_ge (tgt := 40) hx hb dX7_restore_19 (by decide) (fun c3 => ?_) (fun c3 => ?_)
        · skip
          have hT2 := hT2.trans (if_pos c3)
          try have hS := Eq.mp (if_pos c3) hS
          refine lv_aload_n hx hb dX7_restore_40 rfl (lv_at hl 1 rfl) ?_
          refine lv_aload_n hx hb dX7_restore_41 rfl (lv_at hl 1 rfl) ?_
          refine g_get (v := .long (w2.2.2 2)) (C := RX7) (T := TX7) (N := 16) (ci := 9) X inX7 hw 0 rfl rfl 6 (by decide) (List.mem_of_getElem? (i := 4) rfl) rfl rfl dX7_restore_42 ?_
          refine g_put (v := .long (w2.2.2 2)) (C := RX7) (T := TX7) (N := 16) (ci := 9) (w' := MW cy ad (sL w2 0 (w2.2.2 2)) ++ rest) X inX7 tyX7 tyX7_ok nmX7 hw 0 rfl rfl 2 (by decide) (List.mem_of_getElem? (i := 5) rfl) rfl rfl rfl rfl (Nat.le_of_ble_eq_true rfl) rfl dX7_restore_45 (fun H locs hw => ?_)
          obtain ⟨u4, hu4⟩ : ∃ z, z = sL w2 0 (w2.2.2 2) := ⟨_, rfl⟩
          rw [← hu4] at hw
          have hT2 := hT2.trans (bnd_eq hu4)
          try have hS := Eq.mp (bnd_eq hu4) hS
          refine lv_aload_n hx hb dX7_restore_48 rfl (lv_at hl 1 rfl) ?_
          refine lv_aload_n hx hb dX7_restore_49 rfl (lv_at hl 1 rfl) ?_
          refine g_get (v := .ref (ad 1)) (C := RX7) (T := TX7) (N := 16) (ci := 9) X inX7 hw 0 rfl rfl 1 (by decide) (List.mem_of_getElem? (i := 2) rfl) rfl rfl dX7_restore_50 ?_
          refine lv_sipush (v := 400) hx hb dX7_restore_53 (by decide) ?_
          refine g_ialdk (k := 400) rfl X hw 1 rfl (vk rfl) dX7_restore_56 ?_
          refine gcV_i (rest := []) X (c_X7_done l D cy ad rest u4 (u4.1 0 400)) gy_X7_done gX7_restore_X7_done ⟨rfl, rfl, Nat.le_of_ble_eq_true rfl, Nat.le_of_ble_eq_true rfl⟩ 0 rfl rfl rfl hl rfl (Nat.le_of_ble_eq_true rfl) dX7_restore_57 ⟨Nat.zero_le _, Nat.zero_le _⟩ hw (fun r5 u6 H locs hr5 hw => ?_)
          obtain ⟨hr5, hu6⟩ : r5 = (F_X7_done u4 (u4.1 0 400)).1 ∧ u6 = (F_X7_done u4 (u4.1 0 400)).2 := hr5
          have hT2 := hT2.trans (bnd_eq hu6)
          try have hS := Eq.mp (bnd_eq hu6) hS
          have hT2 := hT2.trans (bnd_eq hr5)
          try have hS := Eq.mp (bnd_eq hr5) hS
          exact hret _ _ _ _ _ _ dX7_restore_60 ⟨congrArg Prod.fst ((hF.trans (lp_r hT2)).symm.trans hsp), congrArg Prod.snd ((hF.trans (lp_r hT2)).symm.trans hsp)⟩ hw
        · skip
          have hT2 := hT2.trans (if_neg c3)
          try have hS := Eq.mp (if_neg c3) hS
          refine lv_aload_n hx hb dX7_restore_22 rfl (lv_at hl 1 rfl) ?_
          refine g_get (v := .ref (ad 1)) (C := RX7) (T := TX7) (N := 16) (ci := 9) X inX7 hw 0 rfl rfl 1 (by decide) (List.mem_of_getElem? (i := 2) rfl) rfl rfl dX7_restore_23 ?_
          refine lv_iload_n hx hb dX7_restore_26 rfl (lv_at hl 0 rfl) ?_
          refine lv_aload_n hx hb dX7_restore_27 rfl (lv_at hl 1 rfl) ?_
          refine g_get (v := .ref (ad 3)) (C := RX7) (T := TX7) (N := 16) (ci := 9) X inX7 hw 0 rfl rfl 5 (by decide) (List.mem_of_getElem? (i := 3) rfl) rfl rfl dX7_restore_28 ?_
          refine lv_iload_n hx hb dX7_restore_31 rfl (lv_at hl 0 rfl) ?_
          refine g_iald X hw 3 rfl hS.1 dX7_restore_32 ?_
          have hS := hS.2
          refine g_iast (w' := MW cy ad (sR w2 0 (upd (w2.1 0) v2_1.toNatClampNeg (w2.1 2 v2_1.toNatClampNeg))) ++ rest) X hw 1 rfl hS.1 rfl dX7_restore_33 (fun H locs hw => ?_)
          have hS := hS.2
          obtain ⟨u7, hu7⟩ : ∃ z, z = sR w2 0 (upd (w2.1 0) v2_1.toNatClampNeg (w2.1 2 v2_1.toNatClampNeg)) := ⟨_, rfl⟩
          rw [← hu7] at hw
          have hT2 := hT2.trans (bnd_eq hu7)
          try have hS := Eq.mp (bnd_eq hu7) hS
          refine lv_iinc (v := (v2_1 + 1)) (lv' := [(1, .int (v2_1 + 1)), (0, .ref (ad 0))]) hx hb dX7_restore_34 hl (k := 0) rfl rfl (by decide) rfl (fun ls hl => ?_)
          refine lv_goto (tgt := 15) hx hb dX7_restore_37 (by decide) ?_
          exact ih2 (v2_1 + 1) u7 (hF.trans (lp_l hT2)) (hLn2 _ hT2) _ _ ls (lv_sub hl [0, 1] rfl) hw
    exact L2 _ 0 C hF hS _ _ ls (lv_sub hl [0, 1] rfl) hw
  · skip
    have hF := hF.trans (if_pos c1)
    try have hS := Eq.mp (if_pos c1) hS
    refine lv_aload_n hx hb dX7_restore_7 rfl (lv_at hl 0 rfl) ?_
    refine lv_iconst (v := 1) hx hb dX7_restore_8 (by decide) ?_
    refine gcV_i (rest := []) X (c_X7_fails l D cy ad rest C 1) gy_X7_fails gX7_restore_X7_fails ⟨rfl, rfl, Nat.le_of_ble_eq_true rfl, Nat.le_of_ble_eq_true rfl⟩ 0 rfl rfl rfl hl rfl (Nat.le_of_ble_eq_true rfl) dX7_restore_9 ⟨Nat.zero_le _, Nat.zero_le _⟩ hw (fun r8 u9 H locs hr8 hw => ?_)
    obtain ⟨hr8, hu9⟩ : r8 = (F_X7_fails C 1).1 ∧ u9 = (F_X7_fails C 1).2 := hr8
    have hF := hF.trans (bnd_eq hu9)
    try have hS := Eq.mp (bnd_eq hu9) hS
    have hF := hF.trans (bnd_eq hr8)
    try have hS := Eq.mp (bnd_eq hr8) hS
    exact hret _ _ _ _ _ _ dX7_restore_12 ⟨congrArg Prod.fst (hF.symm.trans hsp), congrArg Prod.snd (hF.symm.trans hsp)⟩ hw
theorem gy_X7_thrown : gY yX7_thrown RX7 cX7_thrown 1 (some .int) wsX7_thrown 0 := ⟨⟨_, rfl⟩, rfl, by decide +kernel, by decide +kernel, by decide +kernel⟩
def F_X7_thrown (C : CS) : Int32 := C.2.1 0
abbrev rmX7_thrown : Room := { frames := 0, cells := 0, slots := 0, locals := 0 }
set_option maxHeartbeats 4000000 in
set_option maxRecDepth 100000 in
theorem c_X7_thrown (l : Launch) (D : va_G) (cy : Nat → ClassId) (ad : Nat → Nat) (rest : va_W) (C : CS) : GMi l yX7_thrown wsX7_thrown rmX7_thrown D cy [.ref (ad 0)] (MW cy ad C ++ rest) (fun (r : Int32) (_ : Unit) => r = F_X7_thrown C) (fun _ => MW cy ad C ++ rest) := by
  refine GMi.intro cX7_thrown 1 RX7 (by decide) rfl rfl (Nat.le_of_ble_eq_true rfl) ?_
  intro p e s m args below meth c A Q ls X hret hl hw
  have hx := X.1
  have hb := X.2.1
  have hl : lv_has ls 1 [(0, .ref (ad 0))] := hl
  have inX7 : ∀ w ∈ wsX70, w ∈ wsX7_thrown := fun w h => List.mem_cons_of_mem _ (List.mem_append_right _ h)
  obtain ⟨sp, hsp⟩ : ∃ sp, sp = F_X7_thrown C := ⟨_, rfl⟩
  have hF := hsp.trans (F_X7_thrown.eq_1 C)
  refine lv_aload_n hx hb dX7_thrown_0 rfl (lv_at hl 0 rfl) ?_
  refine g_get (v := .int (C.2.1 0)) (C := RX7) (T := TX7) (N := 16) (ci := 9) X inX7 hw 0 rfl rfl 0 (by decide) (List.mem_of_getElem? (i := 1) rfl) rfl rfl dX7_thrown_1 ?_
  exact hret _ _ () _ _ _ dX7_thrown_4 (hF.symm.trans hsp) hw
