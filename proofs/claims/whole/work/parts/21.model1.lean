theorem gy_X7_in : gY yX7_in RX7 cX7_in 3 (some .boolean) wsX7_in 3 := ⟨⟨_, rfl⟩, rfl, by decide +kernel, by decide +kernel, by decide +kernel⟩
def F_X7_in (q1 : Int32) (q2 : Int32) (q3 : Int32) : Int32 := (if q1 < q2 then 0 else (if q3 < q1 then 0 else 1))
abbrev rmX7_in : Room := { frames := 0, cells := 0, slots := 0, locals := 0 }
set_option maxHeartbeats 4000000 in
set_option maxRecDepth 100000 in
theorem c_X7_in (l : Launch) (D : va_G) (cy : Nat → ClassId) (w : va_W) (q1 : Int32) (q2 : Int32) (q3 : Int32) : GMi l yX7_in wsX7_in rmX7_in D cy [.int q1, .int q2, .int q3] (w) (fun (r : Int32) (_ : Unit) => r = F_X7_in q1 q2 q3 ∧ (r = 0 ∨ r = 1)) (fun _ => w) := by
  refine GMz.intro cX7_in 3 RX7 (by decide) rfl rfl (Nat.le_of_ble_eq_true rfl) ?_
  intro p e s m args below meth c A Q ls X hret hl hw
  have hx := X.1
  have hb := X.2.1
  have hl : lv_has ls 3 [(0, .int q1), (1, .int q2), (2, .int q3)] := hl
  obtain ⟨sp, hsp⟩ : ∃ sp, sp = F_X7_in q1 q2 q3 := ⟨_, rfl⟩
  have hF := hsp.trans (F_X7_in.eq_1 q1 q2 q3)
  refine lv_iload_n hx hb dX7_in_0 rfl (lv_at hl 0 rfl) ?_
  refine lv_iload_n hx hb dX7_in_1 rfl (lv_at hl 1 rfl) ?_
  refine lv_icmp_lt (tgt := 14) hx hb dX7_in_2 (by decide) (fun c1 => ?_) (fun c1 => ?_)
  · skip
    have hF := hF.trans (if_pos c1)
    refine lv_iconst (v := 0) hx hb dX7_in_14 (by decide) ?_
    exact hret _ _ () _ _ _ dX7_in_15 (Or.inl rfl) ⟨hF.symm.trans hsp, (Or.inl rfl)⟩ hw
  · skip
    have hF := hF.trans (if_neg c1)
    refine lv_iload_n hx hb dX7_in_5 rfl (lv_at hl 0 rfl) ?_
    refine lv_iload_n hx hb dX7_in_6 rfl (lv_at hl 2 rfl) ?_
    refine lv_icmp_gt (tgt := 14) hx hb dX7_in_7 (by decide) (fun c2 => ?_) (fun c2 => ?_)
    · skip
      have hF := hF.trans (if_pos c2)
      refine lv_iconst (v := 0) hx hb dX7_in_14 (by decide) ?_
      exact hret _ _ () _ _ _ dX7_in_15 (Or.inl rfl) ⟨hF.symm.trans hsp, (Or.inl rfl)⟩ hw
    · skip
      have hF := hF.trans (if_neg c2)
      refine lv_iconst (v := 1) hx hb dX7_in_10 (by decide) ?_
      refine lv_goto (tgt := 15) hx hb dX7_in_11 (by decide) ?_
      exact hret _ _ () _ _ _ dX7_in_15 (Or.inr rfl) ⟨hF.symm.trans hsp, (Or.inr rfl)⟩ hw
theorem gy_X7_isKey : gY yX7_isKey RX7 cX7_isKey 1 (some .boolean) wsX7_isKey 1 := ⟨⟨_, rfl⟩, rfl, by decide +kernel, by decide +kernel, by decide +kernel⟩
def F_X7_isKey (q1 : Int32) : Int32 := (bnd (F_X7_in q1 0 7) (fun r1 => r1))
abbrev rmX7_isKey : Room := { frames := 1, cells := 0, slots := 0, locals := 22 }
set_option maxHeartbeats 4000000 in
set_option maxRecDepth 100000 in
theorem c_X7_isKey (l : Launch) (D : va_G) (cy : Nat → ClassId) (w : va_W) (q1 : Int32) : GMi l yX7_isKey wsX7_isKey rmX7_isKey D cy [.int q1] (w) (fun (r : Int32) (_ : Unit) => r = F_X7_isKey q1 ∧ (r = 0 ∨ r = 1)) (fun _ => w) := by
  refine GMz.intro cX7_isKey 1 RX7 (by decide) rfl rfl (Nat.le_of_ble_eq_true rfl) ?_
  intro p e s m args below meth c A Q ls X hret hl hw
  have hx := X.1
  have hb := X.2.1
  have hl : lv_has ls 1 [(0, .int q1)] := hl
  obtain ⟨sp, hsp⟩ : ∃ sp, sp = F_X7_isKey q1 := ⟨_, rfl⟩
  have hF := hsp.trans (F_X7_isKey.eq_1 q1)
  refine lv_iload_n hx hb dX7_isKey_0 rfl (lv_at hl 0 rfl) ?_
  refine lv_iconst (v := 0) hx hb dX7_isKey_1 (by decide) ?_
  refine lv_bipush (v := 7) hx hb dX7_isKey_2 (by decide) ?_
  refine gcS_i (rest := []) X (c_X7_in l D cy (w) q1 0 7) gy_X7_in gX7_isKey_X7_in ⟨rfl, rfl, Nat.le_of_ble_eq_true rfl, Nat.le_of_ble_eq_true rfl⟩ rfl hl rfl (Nat.le_of_ble_eq_true rfl) dX7_isKey_4 ⟨Nat.zero_le _, Nat.zero_le _⟩ hw (fun r1 _ H locs hr1 hw => ?_)
  obtain ⟨hr1, zr1⟩ : r1 = F_X7_in q1 0 7 ∧ (r1 = 0 ∨ r1 = 1) := hr1
  have hF := hF.trans (bnd_eq hr1)
  exact hret _ _ () _ _ _ dX7_isKey_7 zr1 ⟨hF.symm.trans hsp, zr1⟩ hw
theorem gy_X7_fails : gY yX7_fails RX7 cX7_fails 2 (some .int) wsX7_fails 1 := ⟨⟨_, rfl⟩, rfl, by decide +kernel, by decide +kernel, by decide +kernel⟩
def F_X7_fails (C : CS) (q1 : Int32) : Int32 × CS := (bnd (sI C 0 q1) (fun u1 => (0, u1)))
abbrev rmX7_fails : Room := { frames := 0, cells := 0, slots := 0, locals := 0 }
set_option maxHeartbeats 4000000 in
set_option maxRecDepth 100000 in
theorem c_X7_fails (l : Launch) (D : va_G) (cy : Nat → ClassId) (ad : Nat → Nat) (rest : va_W) (C : CS) (q1 : Int32) : GMi l yX7_fails wsX7_fails rmX7_fails D cy [.ref (ad 0), .int q1] (MW cy ad C ++ rest) (fun (r : Int32) (u : CS) => r = (F_X7_fails C q1).1 ∧ u = (F_X7_fails C q1).2) (fun u => MW cy ad u ++ rest) := by
  refine GMi.intro cX7_fails 2 RX7 (by decide) rfl rfl (Nat.le_of_ble_eq_true rfl) ?_
  intro p e s m args below meth c A Q ls X hret hl hw
  have hx := X.1
  have hb := X.2.1
  have hl : lv_has ls 2 [(0, .ref (ad 0)), (1, .int q1)] := hl
  have inX7 : ∀ w ∈ wsX70, w ∈ wsX7_fails := fun w h => List.mem_cons_of_mem _ (List.mem_append_right _ h)
  obtain ⟨sp, hsp⟩ : ∃ sp, sp = F_X7_fails C q1 := ⟨_, rfl⟩
  have hF := hsp.trans (F_X7_fails.eq_1 C q1)
  refine lv_aload_n hx hb dX7_fails_0 rfl (lv_at hl 0 rfl) ?_
  refine lv_iload_n hx hb dX7_fails_1 rfl (lv_at hl 1 rfl) ?_
  refine g_put (v := .int q1) (C := RX7) (T := TX7) (N := 16) (ci := 9) (w' := MW cy ad (sI C 0 q1) ++ rest) X inX7 tyX7 tyX7_ok nmX7 hw 0 rfl rfl 0 (by decide) (List.mem_of_getElem? (i := 1) rfl) rfl rfl rfl rfl (Nat.le_of_ble_eq_true rfl) rfl dX7_fails_2 (fun H locs hw => ?_)
  obtain ⟨u1, hu1⟩ : ∃ z, z = sI C 0 q1 := ⟨_, rfl⟩
  rw [← hu1] at hw
  have hF := hF.trans (bnd_eq hu1)
  try have hS := Eq.mp (bnd_eq hu1) hS
  refine lv_iconst (v := 0) hx hb dX7_fails_5 (by decide) ?_
  exact hret _ _ _ _ _ _ dX7_fails_6 ⟨congrArg Prod.fst (hF.symm.trans hsp), congrArg Prod.snd (hF.symm.trans hsp)⟩ hw
theorem gy_X7_done : gY yX7_done RX7 cX7_done 2 (some .int) wsX7_done 1 := ⟨⟨_, rfl⟩, rfl, by decide +kernel, by decide +kernel, by decide +kernel⟩
def F_X7_done (C : CS) (q1 : Int32) : Int32 × CS := (bnd (sI C 0 0) (fun u1 => (q1, u1)))
abbrev rmX7_done : Room := { frames := 0, cells := 0, slots := 0, locals := 0 }
set_option maxHeartbeats 4000000 in
set_option maxRecDepth 100000 in
theorem c_X7_done (l : Launch) (D : va_G) (cy : Nat → ClassId) (ad : Nat → Nat) (rest : va_W) (C : CS) (q1 : Int32) : GMi l yX7_done wsX7_done rmX7_done D cy [.ref (ad 0), .int q1] (MW cy ad C ++ rest) (fun (r : Int32) (u : CS) => r = (F_X7_done C q1).1 ∧ u = (F_X7_done C q1).2) (fun u => MW cy ad u ++ rest) := by
  refine GMi.intro cX7_done 2 RX7 (by decide) rfl rfl (Nat.le_of_ble_eq_true rfl) ?_
  intro p e s m args below meth c A Q ls X hret hl hw
  have hx := X.1
  have hb := X.2.1
  have hl : lv_has ls 2 [(0, .ref (ad 0)), (1, .int q1)] := hl
  have inX7 : ∀ w ∈ wsX70, w ∈ wsX7_done := fun w h => List.mem_cons_of_mem _ (List.mem_append_right _ h)
  obtain ⟨sp, hsp⟩ : ∃ sp, sp = F_X7_done C q1 := ⟨_, rfl⟩
  have hF := hsp.trans (F_X7_done.eq_1 C q1)
  refine lv_aload_n hx hb dX7_done_0 rfl (lv_at hl 0 rfl) ?_
  refine lv_iconst (v := 0) hx hb dX7_done_1 (by decide) ?_
  refine g_put (v := .int 0) (C := RX7) (T := TX7) (N := 16) (ci := 9) (w' := MW cy ad (sI C 0 0) ++ rest) X inX7 tyX7 tyX7_ok nmX7 hw 0 rfl rfl 0 (by decide) (List.mem_of_getElem? (i := 1) rfl) rfl rfl rfl rfl (Nat.le_of_ble_eq_true rfl) rfl dX7_done_2 (fun H locs hw => ?_)
  obtain ⟨u1, hu1⟩ : ∃ z, z = sI C 0 0 := ⟨_, rfl⟩
  rw [← hu1] at hw
  have hF := hF.trans (bnd_eq hu1)
  try have hS := Eq.mp (bnd_eq hu1) hS
  refine lv_iload_n hx hb dX7_done_5 rfl (lv_at hl 1 rfl) ?_
  exact hret _ _ _ _ _ _ dX7_done_6 ⟨congrArg Prod.fst (hF.symm.trans hsp), congrArg Prod.snd (hF.symm.trans hsp)⟩ hw
theorem gy_X7_of : gY yX7_of RX7 cX7_of 3 (some .int) wsX7_of 2 := ⟨⟨_, rfl⟩, rfl, by decide +kernel, by decide +kernel, by decide +kernel⟩
def F_X7_of (C : CS) (q1 : Int32) (q2 : Int32) : Int32 := (C.1 0 ((401 + (10 * q1)) + q2).toNatClampNeg)
def S_X7_of (C : CS) (q1 : Int32) (q2 : Int32) : Prop := (vp_in ((401 + (10 * q1)) + q2) 1787 ∧ True)
abbrev rmX7_of : Room := { frames := 0, cells := 0, slots := 0, locals := 0 }
set_option maxHeartbeats 4000000 in
set_option maxRecDepth 100000 in
theorem c_X7_of (l : Launch) (D : va_G) (cy : Nat → ClassId) (ad : Nat → Nat) (rest : va_W) (C : CS) (q1 : Int32) (q2 : Int32) (hS : S_X7_of C q1 q2) : GMi l yX7_of wsX7_of rmX7_of D cy [.ref (ad 0), .int q1, .int q2] (MW cy ad C ++ rest) (fun (r : Int32) (_ : Unit) => r = F_X7_of C q1 q2) (fun _ => MW cy ad C ++ rest) := by
  refine GMi.intro cX7_of 3 RX7 (by decide) rfl rfl (Nat.le_of_ble_eq_true rfl) ?_
  intro p e s m args below meth c A Q ls X hret hl hw
  have hx := X.1
  have hb := X.2.1
  have hl : lv_has ls 3 [(0, .ref (ad 0)), (1, .int q1), (2, .int q2)] := hl
  have inX7 : ∀ w ∈ wsX70, w ∈ wsX7_of := fun w h => List.mem_cons_of_mem _ (List.mem_append_left _ (List.mem_append_right _ h))
  obtain ⟨sp, hsp⟩ : ∃ sp, sp = F_X7_of C q1 q2 := ⟨_, rfl⟩
  have hF := hsp.trans (F_X7_of.eq_1 C q1 q2)
  have hS := Eq.mp (S_X7_of.eq_1 C q1 q2) hS
  refine lv_aload_n hx hb dX7_of_0 rfl (lv_at hl 0 rfl) ?_
  refine g_get (v := .ref (ad 1)) (C := RX7) (T := TX7) (N := 16) (ci := 9) X inX7 hw 0 rfl rfl 1 (by decide) (List.mem_of_getElem? (i := 1) rfl) rfl rfl dX7_of_1 ?_
  refine lv_sipush (v := 401) hx hb dX7_of_4 (by decide) ?_
  refine lv_bipush (v := 10) hx hb dX7_of_7 (by decide) ?_
  refine lv_iload_n hx hb dX7_of_9 rfl (lv_at hl 1 rfl) ?_
  refine lv_imul hx hb dX7_of_10 ?_
  refine lv_iadd hx hb dX7_of_11 ?_
  refine lv_iload_n hx hb dX7_of_12 rfl (lv_at hl 2 rfl) ?_
  refine lv_iadd hx hb dX7_of_13 ?_
  refine g_iald X hw 1 rfl hS.1 dX7_of_14 ?_
  have hS := hS.2
  exact hret _ _ () _ _ _ dX7_of_15 (hF.symm.trans hsp) hw
theorem gy_X7_sets : gY yX7_sets RX7 cX7_sets 4 none wsX7_sets 3 := ⟨⟨_, rfl⟩, rfl, by decide +kernel, by decide +kernel, by decide +kernel⟩
def F_X7_sets (C : CS) (q1 : Int32) (q2 : Int32) (q3 : Int32) : CS := (bnd (sR C 0 (upd (C.1 0) ((401 + (10 * q1)) + q2).toNatClampNeg q3)) (fun u1 => u1))
def S_X7_sets (C : CS) (q1 : Int32) (q2 : Int32) (q3 : Int32) : Prop := (vp_in ((401 + (10 * q1)) + q2) 1787 ∧ True)
abbrev rmX7_sets : Room := { frames := 0, cells := 0, slots := 0, locals := 0 }
set_option maxHeartbeats 4000000 in
set_option maxRecDepth 100000 in
theorem c_X7_sets (l : Launch) (D : va_G) (cy : Nat → ClassId) (ad : Nat → Nat) (rest : va_W) (C : CS) (q1 : Int32) (q2 : Int32) (q3 : Int32) (hS : S_X7_sets C q1 q2 q3) : GMv l yX7_sets wsX7_sets rmX7_sets D cy [.ref (ad 0), .int q1, .int q2, .int q3] (MW cy ad C ++ rest) (fun (u : CS) => u = F_X7_sets C q1 q2 q3) (fun u => MW cy ad u ++ rest) := by
  refine GMv.intro cX7_sets 4 RX7 (by decide) rfl rfl (Nat.le_of_ble_eq_true rfl) ?_
  intro p e s m args below meth c A Q ls X hret hl hw
  have hx := X.1
  have hb := X.2.1
  have hl : lv_has ls 4 [(0, .ref (ad 0)), (1, .int q1), (2, .int q2), (3, .int q3)] := hl
  have inX7 : ∀ w ∈ wsX70, w ∈ wsX7_sets := fun w h => List.mem_cons_of_mem _ (List.mem_append_left _ (List.mem_append_right _ h))
  obtain ⟨sp, hsp⟩ : ∃ sp, sp = F_X7_sets C q1 q2 q3 := ⟨_, rfl⟩
  have hF := hsp.trans (F_X7_sets.eq_1 C q1 q2 q3)
  have hS := Eq.mp (S_X7_sets.eq_1 C q1 q2 q3) hS
  refine lv_aload_n hx hb dX7_sets_0 rfl (lv_at hl 0 rfl) ?_
  refine g_get (v := .ref (ad 1)) (C := RX7) (T := TX7) (N := 16) (ci := 9) X inX7 hw 0 rfl rfl 1 (by decide) (List.mem_of_getElem? (i := 1) rfl) rfl rfl dX7_sets_1 ?_
  refine lv_sipush (v := 401) hx hb dX7_sets_4 (by decide) ?_
  refine lv_bipush (v := 10) hx hb dX7_sets_7 (by decide) ?_
  refine lv_iload_n hx hb dX7_sets_9 rfl (lv_at hl 1 rfl) ?_
  refine lv_imul hx hb dX7_sets_10 ?_
  refine lv_iadd hx hb dX7_sets_11 ?_
  refine lv_iload_n hx hb dX7_sets_12 rfl (lv_at hl 2 rfl) ?_
  refine lv_iadd hx hb dX7_sets_13 ?_
  refine lv_iload_n hx hb dX7_sets_14 rfl (lv_at hl 3 rfl) ?_
  refine g_iast (w' := MW cy ad (sR C 0 (upd (C.1 0) ((401 + (10 * q1)) + q2).toNatClampNeg q3)) ++ rest) X hw 1 rfl hS.1 rfl dX7_sets_15 (fun H locs hw => ?_)
  have hS := hS.2
  obtain ⟨u1, hu1⟩ : ∃ z, z = sR C 0 (upd (C.1 0) ((401 + (10 * q1)) + q2).toNatClampNeg q3) := ⟨_, rfl⟩
  rw [← hu1] at hw
  have hF := hF.trans (bnd_eq hu1)
  try have hS := Eq.mp (bnd_eq hu1) hS
  exact hret _ _ _ _ _ dX7_sets_16 (hF.symm.trans hsp) hw
theorem gy_X7_isBurst : gY yX7_isBurst RX7 cX7_isBurst 2 (some .boolean) wsX7_isBurst 1 := ⟨⟨_, rfl⟩, rfl, by decide +kernel, by decide +kernel, by decide +kernel⟩
def F_X7_isBurst (C : CS) (q1 : Int32) : Int32 := (bnd (F_X7_in q1 0 ((C.1 0 1401) - 1)) (fun r1 => (if r1 = 0 then 0 else (bnd (F_X7_of C q1 0) (fun r4 => (if r4 = 1 then 1 else 0))))))
def S_X7_isBurst (C : CS) (q1 : Int32) : Prop := (bnd (F_X7_in q1 0 ((C.1 0 1401) - 1)) (fun r1 => (if r1 = 0 then True else (S_X7_of C q1 0 ∧ True))))
abbrev rmX7_isBurst : Room := { frames := 1, cells := 0, slots := 0, locals := 22 }
set_option maxHeartbeats 4000000 in
set_option maxRecDepth 100000 in
theorem c_X7_isBurst (l : Launch) (D : va_G) (cy : Nat → ClassId) (ad : Nat → Nat) (rest : va_W) (C : CS) (q1 : Int32) (hS : S_X7_isBurst C q1) : GMi l yX7_isBurst wsX7_isBurst rmX7_isBurst D cy [.ref (ad 0), .int q1] (MW cy ad C ++ rest) (fun (r : Int32) (_ : Unit) => r = F_X7_isBurst C q1 ∧ (r = 0 ∨ r = 1)) (fun _ => MW cy ad C ++ rest) := by
  refine GMz.intro cX7_isBurst 2 RX7 (by decide) rfl rfl (Nat.le_of_ble_eq_true rfl) ?_
  intro p e s m args below meth c A Q ls X hret hl hw
  have hx := X.1
  have hb := X.2.1
  have hl : lv_has ls 2 [(0, .ref (ad 0)), (1, .int q1)] := hl
  have inX7 : ∀ w ∈ wsX70, w ∈ wsX7_isBurst := fun w h => List.mem_cons_of_mem _ (List.mem_append_left _ (List.mem_append_right _ h))
  obtain ⟨sp, hsp⟩ : ∃ sp, sp = F_X7_isBurst C q1 := ⟨_, rfl⟩
  have hF := hsp.trans (F_X7_isBurst.eq_1 C q1)
  have hS := Eq.mp (S_X7_isBurst.eq_1 C q1) hS
  refine lv_iload_n hx hb dX7_isBurst_0 rfl (lv_at hl 1 rfl) ?_
  refine lv_iconst (v := 0) hx hb dX7_isBurst_1 (by decide) ?_
  refine lv_aload_n hx hb dX7_isBurst_2 rfl (lv_at hl 0 rfl) ?_
  refine g_get (v := .ref (ad 1)) (C := RX7) (T := TX7) (N := 16) (ci := 9) X inX7 hw 0 rfl rfl 1 (by decide) (List.mem_of_getElem? (i := 1) rfl) rfl rfl dX7_isBurst_3 ?_
  refine lv_sipush (v := 1401) hx hb dX7_isBurst_6 (by decide) ?_
  refine g_ialdk (k := 1401) rfl X hw 1 rfl (vk rfl) dX7_isBurst_9 ?_
  refine lv_iconst (v := 1) hx hb dX7_isBurst_10 (by decide) ?_
  refine lv_isub hx hb dX7_isBurst_11 ?_
  refine gcS_i (rest := []) X (c_X7_in l D cy (MW cy ad C ++ rest) q1 0 ((C.1 0 1401) - 1)) gy_X7_in gX7_isBurst_X7_in ⟨rfl, rfl, Nat.le_of_ble_eq_true rfl, Nat.le_of_ble_eq_true rfl⟩ rfl hl rfl (Nat.le_of_ble_eq_true rfl) dX7_isBurst_12 ⟨Nat.zero_le _, Nat.zero_le _⟩ hw (fun r1 _ H locs hr1 hw => ?_)
  obtain ⟨hr1, zr1⟩ : r1 = F_X7_in q1 0 ((C.1 0 1401) - 1) ∧ (r1 = 0 ∨ r1 = 1) := hr1
  have hF := hF.trans (bnd_eq hr1)
  try have hS := Eq.mp (bnd_eq hr1) hS
  refine lv_if_eq (tgt := 32) hx hb dX7_isBurst_15 (by decide) (fun c3 => ?_) (fun c3 => ?_)
  · skip
    have hF := hF.trans (if_pos c3)
    try have hS := Eq.mp (if_pos c3) hS
    refine lv_iconst (v := 0) hx hb dX7_isBurst_32 (by decide) ?_
    exact hret _ _ () _ _ _ dX7_isBurst_33 (Or.inl rfl) ⟨hF.symm.trans hsp, (Or.inl rfl)⟩ hw
  · skip
    have hF := hF.trans (if_neg c3)
    try have hS := Eq.mp (if_neg c3) hS
    refine lv_aload_n hx hb dX7_isBurst_18 rfl (lv_at hl 0 rfl) ?_
    refine lv_iload_n hx hb dX7_isBurst_19 rfl (lv_at hl 1 rfl) ?_
    refine lv_iconst (v := 0) hx hb dX7_isBurst_20 (by decide) ?_
    have hSc : S_X7_of C q1 0 := hS.1
    have hS := hS.2
    refine gcV_i (rest := []) X (c_X7_of l D cy ad rest C q1 0 hSc) gy_X7_of gX7_isBurst_X7_of ⟨rfl, rfl, Nat.le_of_ble_eq_true rfl, Nat.le_of_ble_eq_true rfl⟩ 0 rfl rfl rfl hl rfl (Nat.le_of_ble_eq_true rfl) dX7_isBurst_21 ⟨Nat.zero_le _, Nat.zero_le _⟩ hw (fun r4 _ H locs hr4 hw => ?_)
    have hr4 : r4 = F_X7_of C q1 0 := hr4
    have hF := hF.trans (bnd_eq hr4)
    try have hS := Eq.mp (bnd_eq hr4) hS
    refine lv_iconst (v := 1) hx hb dX7_isBurst_24 (by decide) ?_
    refine lv_icmp_ne (tgt := 32) hx hb dX7_isBurst_25 (by decide) (fun c6 => ?_) (fun c6 => ?_)
    · skip
      have hF := hF.trans (if_neg c6)
      try have hS := Eq.mp (if_neg c6) hS
      refine lv_iconst (v := 0) hx hb dX7_isBurst_32 (by decide) ?_
      exact hret _ _ () _ _ _ dX7_isBurst_33 (Or.inl rfl) ⟨hF.symm.trans hsp, (Or.inl rfl)⟩ hw
    · skip
      have hF := hF.trans (if_pos c6)
      try have hS := Eq.mp (if_pos c6) hS
      refine lv_iconst (v := 1) hx hb dX7_isBurst_28 (by decide) ?_
      refine lv_goto (tgt := 33) hx hb dX7_isBurst_29 (by decide) ?_
      exact hret _ _ () _ _ _ dX7_isBurst_33 (Or.inr rfl) ⟨hF.symm.trans hsp, (Or.inr rfl)⟩ hw
theorem gy_X7_isOpen : gY yX7_isOpen RX7 cX7_isOpen 2 (some .boolean) wsX7_isOpen 1 := ⟨⟨_, rfl⟩, rfl, by decide +kernel, by decide +kernel, by decide +kernel⟩
def F_X7_isOpen (C : CS) (q1 : Int32) : Int32 := (bnd (F_X7_isBurst C q1) (fun r1 => (if r1 = 0 then 0 else (bnd (F_X7_of C q1 4) (fun r4 => (if r4 = 0 then 1 else 0))))))
def S_X7_isOpen (C : CS) (q1 : Int32) : Prop := (S_X7_isBurst C q1 ∧ (bnd (F_X7_isBurst C q1) (fun r1 => (if r1 = 0 then True else (S_X7_of C q1 4 ∧ True)))))
abbrev rmX7_isOpen : Room := { frames := 2, cells := 0, slots := 0, locals := 43 }
set_option maxHeartbeats 4000000 in
set_option maxRecDepth 100000 in
theorem c_X7_isOpen (l : Launch) (D : va_G) (cy : Nat → ClassId) (ad : Nat → Nat) (rest : va_W) (C : CS) (q1 : Int32) (hS : S_X7_isOpen C q1) : GMi l yX7_isOpen wsX7_isOpen rmX7_isOpen D cy [.ref (ad 0), .int q1] (MW cy ad C ++ rest) (fun (r : Int32) (_ : Unit) => r = F_X7_isOpen C q1 ∧ (r = 0 ∨ r = 1)) (fun _ => MW cy ad C ++ rest) := by
  refine GMz.intro cX7_isOpen 2 RX7 (by decide) rfl rfl (Nat.le_of_ble_eq_true rfl) ?_
  intro p e s m args below meth c A Q ls X hret hl hw
  have hx := X.1
  have hb := X.2.1
  have hl : lv_has ls 2 [(0, .ref (ad 0)), (1, .int q1)] := hl
  obtain ⟨sp, hsp⟩ : ∃ sp, sp = F_X7_isOpen C q1 := ⟨_, rfl⟩
  have hF := hsp.trans (F_X7_isOpen.eq_1 C q1)
  have hS := Eq.mp (S_X7_isOpen.eq_1 C q1) hS
  refine lv_aload_n hx hb dX7_isOpen_0 rfl (lv_at hl 0 rfl) ?_
  refine lv_iload_n hx hb dX7_isOpen_1 rfl (lv_at hl 1 rfl) ?_
  have hSc : S_X7_isBurst C q1 := hS.1
  have hS := hS.2
  refine gcV_i (rest := []) X (c_X7_isBurst l D cy ad rest C q1 hSc) gy_X7_isBurst gX7_isOpen_X7_isBurst ⟨rfl, rfl, Nat.le_of_ble_eq_true rfl, Nat.le_of_ble_eq_true rfl⟩ 0 rfl rfl rfl hl rfl (Nat.le_of_ble_eq_true rfl) dX7_isOpen_2 ⟨Nat.zero_le _, Nat.zero_le _⟩ hw (fun r1 _ H locs hr1 hw => ?_)
  obtain ⟨hr1, zr1⟩ : r1 = F_X7_isBurst C q1 ∧ (r1 = 0 ∨ r1 = 1) := hr1
  have hF := hF.trans (bnd_eq hr1)
  try have hS := Eq.mp (bnd_eq hr1) hS
  refine lv_if_eq (tgt := 21) hx hb dX7_isOpen_5 (by decide) (fun c3 => ?_) (fun c3 => ?_)
  · skip
    have hF := hF.trans (if_pos c3)
    try have hS := Eq.mp (if_pos c3) hS
    refine lv_iconst (v := 0) hx hb dX7_isOpen_21 (by decide) ?_
    exact hret _ _ () _ _ _ dX7_isOpen_22 (Or.inl rfl) ⟨hF.symm.trans hsp, (Or.inl rfl)⟩ hw
  · skip
    have hF := hF.trans (if_neg c3)
    try have hS := Eq.mp (if_neg c3) hS
    refine lv_aload_n hx hb dX7_isOpen_8 rfl (lv_at hl 0 rfl) ?_
    refine lv_iload_n hx hb dX7_isOpen_9 rfl (lv_at hl 1 rfl) ?_
    refine lv_iconst (v := 4) hx hb dX7_isOpen_10 (by decide) ?_
    have hSc : S_X7_of C q1 4 := hS.1
    have hS := hS.2
    refine gcV_i (rest := []) X (c_X7_of l D cy ad rest C q1 4 hSc) gy_X7_of gX7_isOpen_X7_of ⟨rfl, rfl, Nat.le_of_ble_eq_true rfl, Nat.le_of_ble_eq_true rfl⟩ 0 rfl rfl rfl hl rfl (Nat.le_of_ble_eq_true rfl) dX7_isOpen_11 ⟨Nat.zero_le _, Nat.zero_le _⟩ hw (fun r4 _ H locs hr4 hw => ?_)
    have hr4 : r4 = F_X7_of C q1 4 := hr4
    have hF := hF.trans (bnd_eq hr4)
    try have hS := Eq.mp (bnd_eq hr4) hS
    refine lv_if_ne (tgt := 21) hx hb dX7_isOpen_14 (by decide) (fun c6 => ?_) (fun c6 => ?_)
    · skip
      have hF := hF.trans (if_neg c6)
      try have hS := Eq.mp (if_neg c6) hS
      refine lv_iconst (v := 0) hx hb dX7_isOpen_21 (by decide) ?_
      exact hret _ _ () _ _ _ dX7_isOpen_22 (Or.inl rfl) ⟨hF.symm.trans hsp, (Or.inl rfl)⟩ hw
    · skip
      have hF := hF.trans (if_pos c6)
      try have hS := Eq.mp (if_pos c6) hS
      refine lv_iconst (v := 1) hx hb dX7_isOpen_17 (by decide) ?_
      refine lv_goto (tgt := 22) hx hb dX7_isOpen_18 (by decide) ?_
      exact hret _ _ () _ _ _ dX7_isOpen_22 (Or.inr rfl) ⟨hF.symm.trans hsp, (Or.inr rfl)⟩ hw
theorem gy_X7_gapOf : gY yX7_gapOf RX7 cX7_gapOf 2 (some .int) wsX7_gapOf 1 := ⟨⟨_, rfl⟩, rfl, by decide +kernel, by decide +kernel, by decide +kernel⟩
def F_X7_gapOf (C : CS) (q1 : Int32) : Int32 := (bnd (F_X7_of C q1 1) (fun r1 => (C.1 0 (1402 + r1).toNatClampNeg)))
def S_X7_gapOf (C : CS) (q1 : Int32) : Prop := (S_X7_of C q1 1 ∧ (bnd (F_X7_of C q1 1) (fun r1 => (vp_in (1402 + r1) 1787 ∧ True))))
abbrev rmX7_gapOf : Room := { frames := 1, cells := 0, slots := 0, locals := 22 }
set_option maxHeartbeats 4000000 in
set_option maxRecDepth 100000 in
theorem c_X7_gapOf (l : Launch) (D : va_G) (cy : Nat → ClassId) (ad : Nat → Nat) (rest : va_W) (C : CS) (q1 : Int32) (hS : S_X7_gapOf C q1) : GMi l yX7_gapOf wsX7_gapOf rmX7_gapOf D cy [.ref (ad 0), .int q1] (MW cy ad C ++ rest) (fun (r : Int32) (_ : Unit) => r = F_X7_gapOf C q1) (fun _ => MW cy ad C ++ rest) := by
  refine GMi.intro cX7_gapOf 2 RX7 (by decide) rfl rfl (Nat.le_of_ble_eq_true rfl) ?_
  intro p e s m args below meth c A Q ls X hret hl hw
  have hx := X.1
  have hb := X.2.1
  have hl : lv_has ls 2 [(0, .ref (ad 0)), (1, .int q1)] := hl
  have inX7 : ∀ w ∈ wsX70, w ∈ wsX7_gapOf := fun w h => List.mem_cons_of_mem _ (List.mem_append_left _ (List.mem_append_right _ h))
  obtain ⟨sp, hsp⟩ : ∃ sp, sp = F_X7_gapOf C q1 := ⟨_, rfl⟩
  have hF := hsp.trans (F_X7_gapOf.eq_1 C q1)
  have hS := Eq.mp (S_X7_gapOf.eq_1 C q1) hS
  refine lv_aload_n hx hb dX7_gapOf_0 rfl (lv_at hl 0 rfl) ?_
  refine g_get (v := .ref (ad 1)) (C := RX7) (T := TX7) (N := 16) (ci := 9) X inX7 hw 0 rfl rfl 1 (by decide) (List.mem_of_getElem? (i := 1) rfl) rfl rfl dX7_gapOf_1 ?_
  refine lv_sipush (v := 1402) hx hb dX7_gapOf_4 (by decide) ?_
  refine lv_aload_n hx hb dX7_gapOf_7 rfl (lv_at hl 0 rfl) ?_
  refine lv_iload_n hx hb dX7_gapOf_8 rfl (lv_at hl 1 rfl) ?_
  refine lv_iconst (v := 1) hx hb dX7_gapOf_9 (by decide) ?_
  have hSc : S_X7_of C q1 1 := hS.1
  have hS := hS.2
  refine gcV_i (rest := [.int 1402, .ref (ad 1)]) X (c_X7_of l D cy ad rest C q1 1 hSc) gy_X7_of gX7_gapOf_X7_of ⟨rfl, rfl, Nat.le_of_ble_eq_true rfl, Nat.le_of_ble_eq_true rfl⟩ 0 rfl rfl rfl hl rfl (Nat.le_of_ble_eq_true rfl) dX7_gapOf_10 ⟨Nat.zero_le _, Nat.zero_le _⟩ hw (fun r1 _ H locs hr1 hw => ?_)
  have hr1 : r1 = F_X7_of C q1 1 := hr1
  have hF := hF.trans (bnd_eq hr1)
  try have hS := Eq.mp (bnd_eq hr1) hS
  refine lv_iadd hx hb dX7_gapOf_13 ?_
  refine g_iald X hw 1 rfl hS.1 dX7_gapOf_14 ?_
  have hS := hS.2
  exact hret _ _ () _ _ _ dX7_gapOf_15 (hF.symm.trans hsp) hw
theorem gy_X7_puts : gY yX7_puts RX7 cX7_puts 4 (some .int) wsX7_puts 2 := ⟨⟨_, rfl⟩, rfl, by decide +kernel, by decide +kernel, by decide +kernel⟩
def F_X7_puts (C : CS) (q1 : Int32) (q2 : Int32) : Int32 × CS := (bnd (sR C 0 (upd (C.1 0) q1.toNatClampNeg q2)) (fun u1 => (bnd ((F_X7_done u1 (C.1 0 q1.toNatClampNeg)).2) (fun u3 => (bnd ((F_X7_done u1 (C.1 0 q1.toNatClampNeg)).1) (fun r2 => (r2, u3)))))))
def S_X7_puts (C : CS) (q1 : Int32) (q2 : Int32) : Prop := (vp_in q1 1787 ∧ (vp_in q1 1787 ∧ True))
abbrev rmX7_puts : Room := { frames := 1, cells := 0, slots := 0, locals := 21 }
set_option maxHeartbeats 4000000 in
set_option maxRecDepth 100000 in
theorem c_X7_puts (l : Launch) (D : va_G) (cy : Nat → ClassId) (ad : Nat → Nat) (rest : va_W) (C : CS) (q1 : Int32) (q2 : Int32) (hS : S_X7_puts C q1 q2) : GMi l yX7_puts wsX7_puts rmX7_puts D cy [.ref (ad 0), .int q1, .int q2] (MW cy ad C ++ rest) (fun (r : Int32) (u : CS) => r = (F_X7_puts C q1 q2).1 ∧ u = (F_X7_puts C q1 q2).2) (fun u => MW cy ad u ++ rest) := by
  refine GMi.intro cX7_puts 4 RX7 (by decide) rfl rfl (Nat.le_of_ble_eq_true rfl) ?_
  intro p e s m args below meth c A Q ls X hret hl hw
  have hx := X.1
  have hb := X.2.1
  have hl : lv_has ls 4 [(0, .ref (ad 0)), (1, .int q1), (2, .int q2)] := hl
  have inX7 : ∀ w ∈ wsX70, w ∈ wsX7_puts := fun w h => List.mem_cons_of_mem _ (List.mem_append_left _ (List.mem_append_right _ h))
  obtain ⟨sp, hsp⟩ : ∃ sp, sp = F_X7_puts C q1 q2 := ⟨_, rfl⟩
  have hF := hsp.trans (F_X7_puts.eq_1 C q1 q2)
  have hS := Eq.mp (S_X7_puts.eq_1 C q1 q2) hS
  refine lv_aload_n hx hb dX7_puts_0 rfl (lv_at hl 0 rfl) ?_
  refine g_get (v := .ref (ad 1)) (C := RX7) (T := TX7) (N := 16) (ci := 9) X inX7 hw 0 rfl rfl 1 (by decide) (List.mem_of_getElem? (i := 1) rfl) rfl rfl dX7_puts_1 ?_
  refine lv_iload_n hx hb dX7_puts_4 rfl (lv_at hl 1 rfl) ?_
  refine g_iald X hw 1 rfl hS.1 dX7_puts_5 ?_
  have hS := hS.2
  refine lv_istore_n (lv' := [(3, .int (C.1 0 q1.toNatClampNeg)), (0, .ref (ad 0)), (1, .int q1), (2, .int q2)]) hx hb dX7_puts_6 rfl hl (by decide) rfl (fun ls hl => ?_)
  refine lv_aload_n hx hb dX7_puts_7 rfl (lv_at hl 1 rfl) ?_
  refine g_get (v := .ref (ad 1)) (C := RX7) (T := TX7) (N := 16) (ci := 9) X inX7 hw 0 rfl rfl 1 (by decide) (List.mem_of_getElem? (i := 1) rfl) rfl rfl dX7_puts_8 ?_
  refine lv_iload_n hx hb dX7_puts_11 rfl (lv_at hl 2 rfl) ?_
  refine lv_iload_n hx hb dX7_puts_12 rfl (lv_at hl 3 rfl) ?_
  refine g_iast (w' := MW cy ad (sR C 0 (upd (C.1 0) q1.toNatClampNeg q2)) ++ rest) X hw 1 rfl hS.1 rfl dX7_puts_13 (fun H locs hw => ?_)
  have hS := hS.2
  obtain ⟨u1, hu1⟩ : ∃ z, z = sR C 0 (upd (C.1 0) q1.toNatClampNeg q2) := ⟨_, rfl⟩
  rw [← hu1] at hw
  have hF := hF.trans (bnd_eq hu1)
  try have hS := Eq.mp (bnd_eq hu1) hS
  refine lv_aload_n hx hb dX7_puts_14 rfl (lv_at hl 1 rfl) ?_
  refine lv_iload_n hx hb dX7_puts_15 rfl (lv_at hl 0 rfl) ?_
  refine gcV_i (rest := []) X (c_X7_done l D cy ad rest u1 (C.1 0 q1.toNatClampNeg)) gy_X7_done gX7_puts_X7_done ⟨rfl, rfl, Nat.le_of_ble_eq_true rfl, Nat.le_of_ble_eq_true rfl⟩ 0 rfl rfl rfl hl rfl (Nat.le_of_ble_eq_true rfl) dX7_puts_16 ⟨Nat.zero_le _, Nat.zero_le _⟩ hw (fun r2 u3 H locs hr2 hw => ?_)
  obtain ⟨hr2, hu3⟩ : r2 = (F_X7_done u1 (C.1 0 q1.toNatClampNeg)).1 ∧ u3 = (F_X7_done u1 (C.1 0 q1.toNatClampNeg)).2 := hr2
  have hF := hF.trans (bnd_eq hu3)
  try have hS := Eq.mp (bnd_eq hu3) hS
  have hF := hF.trans (bnd_eq hr2)
  try have hS := Eq.mp (bnd_eq hr2) hS
  exact hret _ _ _ _ _ _ dX7_puts_19 ⟨congrArg Prod.fst (hF.symm.trans hsp), congrArg Prod.snd (hF.symm.trans hsp)⟩ hw
theorem gy_X7_setGap : gY yX7_setGap RX7 cX7_setGap 3 (some .int) wsX7_setGap 2 := ⟨⟨_, rfl⟩, rfl, by decide +kernel, by decide +kernel, by decide +kernel⟩
def F_X7_setGap (C : CS) (q1 : Int32) (q2 : Int32) : Int32 × CS := (bnd (F_X7_isKey q1) (fun r1 => (if r1 = 0 then (bnd ((F_X7_fails C 1).2) (fun u12 => (bnd ((F_X7_fails C 1).1) (fun r11 => (r11, u12))))) else (bnd (F_X7_in q2 1 50) (fun r4 => (if r4 = 0 then (bnd ((F_X7_fails C 2).2) (fun u8 => (bnd ((F_X7_fails C 2).1) (fun r7 => (r7, u8))))) else (bnd ((F_X7_puts C (1402 + q1) q2).2) (fun u10 => (bnd ((F_X7_puts C (1402 + q1) q2).1) (fun r9 => (r9, u10)))))))))))
def S_X7_setGap (C : CS) (q1 : Int32) (q2 : Int32) : Prop := (bnd (F_X7_isKey q1) (fun r1 => (if r1 = 0 then True else (bnd (F_X7_in q2 1 50) (fun r4 => (if r4 = 0 then True else (S_X7_puts C (1402 + q1) q2 ∧ True)))))))
abbrev rmX7_setGap : Room := { frames := 2, cells := 0, slots := 0, locals := 44 }
set_option maxHeartbeats 4000000 in
set_option maxRecDepth 100000 in
theorem c_X7_setGap (l : Launch) (D : va_G) (cy : Nat → ClassId) (ad : Nat → Nat) (rest : va_W) (C : CS) (q1 : Int32) (q2 : Int32) (hS : S_X7_setGap C q1 q2) : GMi l yX7_setGap wsX7_setGap rmX7_setGap D cy [.ref (ad 0), .int q1, .int q2] (MW cy ad C ++ rest) (fun (r : Int32) (u : CS) => r = (F_X7_setGap C q1 q2).1 ∧ u = (F_X7_setGap C q1 q2).2) (fun u => MW cy ad u ++ rest) := by
  refine GMi.intro cX7_setGap 3 RX7 (by decide) rfl rfl (Nat.le_of_ble_eq_true rfl) ?_
  intro p e s m args below meth c A Q ls X hret hl hw
  have hx := X.1
  have hb := X.2.1
  have hl : lv_has ls 3 [(0, .ref (ad 0)), (1, .int q1), (2, .int q2)] := hl
  obtain ⟨sp, hsp⟩ : ∃ sp, sp = F_X7_setGap C q1 q2 := ⟨_, rfl⟩
  have hF := hsp.trans (F_X7_setGap.eq_1 C q1 q2)
  have hS := Eq.mp (S_X7_setGap.eq_1 C q1 q2) hS
  refine lv_iload_n hx hb dX7_setGap_0 rfl (lv_at hl 1 rfl) ?_
  refine gcS_i (rest := []) X (c_X7_isKey l D cy (MW cy ad C ++ rest) q1) gy_X7_isKey gX7_setGap_X7_isKey ⟨rfl, rfl, Nat.le_of_ble_eq_true rfl, Nat.le_of_ble_eq_true rfl⟩ rfl hl rfl (Nat.le_of_ble_eq_true rfl) dX7_setGap_1 ⟨Nat.zero_le _, Nat.zero_le _⟩ hw (fun r1 _ H locs hr1 hw => ?_)
  obtain ⟨hr1, zr1⟩ : r1 = F_X7_isKey q1 ∧ (r1 = 0 ∨ r1 = 1) := hr1
  have hF := hF.trans (bnd_eq hr1)
  try have hS := Eq.mp (bnd_eq hr1) hS
  refine lv_if_ne (tgt := 13) hx hb dX7_setGap_4 (by decide) (fun c3 => ?_) (fun c3 => ?_)
  · skip
    have hF := hF.trans (if_neg c3)
    try have hS := Eq.mp (if_neg c3) hS
    refine lv_iload_n hx hb dX7_setGap_13 rfl (lv_at hl 2 rfl) ?_
    refine lv_iconst (v := 1) hx hb dX7_setGap_14 (by decide) ?_
    refine lv_bipush (v := 50) hx hb dX7_setGap_15 (by decide) ?_
    refine gcS_i (rest := []) X (c_X7_in l D cy (MW cy ad C ++ rest) q2 1 50) gy_X7_in gX7_setGap_X7_in ⟨rfl, rfl, Nat.le_of_ble_eq_true rfl, Nat.le_of_ble_eq_true rfl⟩ rfl hl rfl (Nat.le_of_ble_eq_true rfl) dX7_setGap_17 ⟨Nat.zero_le _, Nat.zero_le _⟩ hw (fun r4 _ H locs hr4 hw => ?_)
    obtain ⟨hr4, zr4⟩ : r4 = F_X7_in q2 1 50 ∧ (r4 = 0 ∨ r4 = 1) := hr4
    have hF := hF.trans (bnd_eq hr4)
    try have hS := Eq.mp (bnd_eq hr4) hS
    refine lv_if_eq (tgt := 36) hx hb dX7_setGap_20 (by decide) (fun c6 => ?_) (fun c6 => ?_)
    · skip
      have hF := hF.trans (if_pos c6)
      try have hS := Eq.mp (if_pos c6) hS
      refine lv_aload_n hx hb dX7_setGap_36 rfl (lv_at hl 0 rfl) ?_
      refine lv_iconst (v := 2) hx hb dX7_setGap_37 (by decide) ?_
      refine gcV_i (rest := []) X (c_X7_fails l D cy ad rest C 2) gy_X7_fails gX7_setGap_X7_fails ⟨rfl, rfl, Nat.le_of_ble_eq_true rfl, Nat.le_of_ble_eq_true rfl⟩ 0 rfl rfl rfl hl rfl (Nat.le_of_ble_eq_true rfl) dX7_setGap_38 ⟨Nat.zero_le _, Nat.zero_le _⟩ hw (fun r7 u8 H locs hr7 hw => ?_)
      obtain ⟨hr7, hu8⟩ : r7 = (F_X7_fails C 2).1 ∧ u8 = (F_X7_fails C 2).2 := hr7
      have hF := hF.trans (bnd_eq hu8)
      try have hS := Eq.mp (bnd_eq hu8) hS
      have hF := hF.trans (bnd_eq hr7)
      try have hS := Eq.mp (bnd_eq hr7) hS
      exact hret _ _ _ _ _ _ dX7_setGap_41 ⟨congrArg Prod.fst (hF.symm.trans hsp), congrArg Prod.snd (hF.symm.trans hsp)⟩ hw
    · skip
      have hF := hF.trans (if_neg c6)
      try have hS := Eq.mp (if_neg c6) hS
      refine lv_aload_n hx hb dX7_setGap_23 rfl (lv_at hl 0 rfl) ?_
      refine lv_sipush (v := 1402) hx hb dX7_setGap_24 (by decide) ?_
      refine lv_iload_n hx hb dX7_setGap_27 rfl (lv_at hl 1 rfl) ?_
      refine lv_iadd hx hb dX7_setGap_28 ?_
      refine lv_iload_n hx hb dX7_setGap_29 rfl (lv_at hl 2 rfl) ?_
      have hSc : S_X7_puts C (1402 + q1) q2 := hS.1
      have hS := hS.2
      refine gcV_i (rest := []) X (c_X7_puts l D cy ad rest C (1402 + q1) q2 hSc) gy_X7_puts gX7_setGap_X7_puts ⟨rfl, rfl, Nat.le_of_ble_eq_true rfl, Nat.le_of_ble_eq_true rfl⟩ 0 rfl rfl rfl hl rfl (Nat.le_of_ble_eq_true rfl) dX7_setGap_30 ⟨Nat.zero_le _, Nat.zero_le _⟩ hw (fun r9 u10 H locs hr9 hw => ?_)
      obtain ⟨hr9, hu10⟩ : r9 = (F_X7_puts C (1402 + q1) q2).1 ∧ u10 = (F_X7_puts C (1402 + q1) q2).2 := hr9
      have hF := hF.trans (bnd_eq hu10)
      try have hS := Eq.mp (bnd_eq hu10) hS
      have hF := hF.trans (bnd_eq hr9)
      try have hS := Eq.mp (bnd_eq hr9) hS
      refine lv_goto (tgt := 41) hx hb dX7_setGap_33 (by decide) ?_
      exact hret _ _ _ _ _ _ dX7_setGap_41 ⟨congrArg Prod.fst (hF.symm.trans hsp), congrArg Prod.snd (hF.symm.trans hsp)⟩ hw
  · skip
    have hF := hF.trans (if_pos c3)
    try have hS := Eq.mp (if_pos c3) hS
    refine lv_aload_n hx hb dX7_setGap_7 rfl (lv_at hl 0 rfl) ?_
    refine lv_iconst (v := 1) hx hb dX7_setGap_8 (by decide) ?_
    refine gcV_i (rest := []) X (c_X7_fails l D cy ad rest C 1) gy_X7_fails gX7_setGap_X7_fails ⟨rfl, rfl, Nat.le_of_ble_eq_true rfl, Nat.le_of_ble_eq_true rfl⟩ 0 rfl rfl rfl hl rfl (Nat.le_of_ble_eq_true rfl) dX7_setGap_9 ⟨Nat.zero_le _, Nat.zero_le _⟩ hw (fun r11 u12 H locs hr11 hw => ?_)
    obtain ⟨hr11, hu12⟩ : r11 = (F_X7_fails C 1).1 ∧ u12 = (F_X7_fails C 1).2 := hr11
    have hF := hF.trans (bnd_eq hu12)
    try have hS := Eq.mp (bnd_eq hu12) hS
    have hF := hF.trans (bnd_eq hr11)
    try have hS := Eq.mp (bnd_eq hr11) hS
    exact hret _ _ _ _ _ _ dX7_setGap_12 ⟨congrArg Prod.fst (hF.symm.trans hsp), congrArg Prod.snd (hF.symm.trans hsp)⟩ hw
theorem gy_X7_setFold : gY yX7_setFold RX7 cX7_setFold 3 (some .int) wsX7_setFold 2 := ⟨⟨_, rfl⟩, rfl, by decide +kernel, by decide +kernel, by decide +kernel⟩
def F_X7_setFold (C : CS) (q1 : Int32) (q2 : Int32) : Int32 × CS := (bnd (F_X7_isKey q1) (fun r1 => (if r1 = 0 then (bnd ((F_X7_fails C 1).2) (fun u12 => (bnd ((F_X7_fails C 1).1) (fun r11 => (r11, u12))))) else (bnd (F_X7_in q2 0 3) (fun r4 => (if r4 = 0 then (bnd ((F_X7_fails C 2).2) (fun u8 => (bnd ((F_X7_fails C 2).1) (fun r7 => (r7, u8))))) else (bnd ((F_X7_puts C (1410 + q1) q2).2) (fun u10 => (bnd ((F_X7_puts C (1410 + q1) q2).1) (fun r9 => (r9, u10)))))))))))
def S_X7_setFold (C : CS) (q1 : Int32) (q2 : Int32) : Prop := (bnd (F_X7_isKey q1) (fun r1 => (if r1 = 0 then True else (bnd (F_X7_in q2 0 3) (fun r4 => (if r4 = 0 then True else (S_X7_puts C (1410 + q1) q2 ∧ True)))))))
abbrev rmX7_setFold : Room := { frames := 2, cells := 0, slots := 0, locals := 44 }
set_option maxHeartbeats 4000000 in
set_option maxRecDepth 100000 in
theorem c_X7_setFold (l : Launch) (D : va_G) (cy : Nat → ClassId) (ad : Nat → Nat) (rest : va_W) (C : CS) (q1 : Int32) (q2 : Int32) (hS : S_X7_setFold C q1 q2) : GMi l yX7_setFold wsX7_setFold rmX7_setFold D cy [.ref (ad 0), .int q1, .int q2] (MW cy ad C ++ rest) (fun (r : Int32) (u : CS) => r = (F_X7_setFold C q1 q2).1 ∧ u = (F_X7_setFold C q1 q2).2) (fun u => MW cy ad u ++ rest) := by
  refine GMi.intro cX7_setFold 3 RX7 (by decide) rfl rfl (Nat.le_of_ble_eq_true rfl) ?_
  intro p e s m args below meth c A Q ls X hret hl hw
  have hx := X.1
  have hb := X.2.1
  have hl : lv_has ls 3 [(0, .ref (ad 0)), (1, .int q1), (2, .int q2)] := hl
  obtain ⟨sp, hsp⟩ : ∃ sp, sp = F_X7_setFold C q1 q2 := ⟨_, rfl⟩
  have hF := hsp.trans (F_X7_setFold.eq_1 C q1 q2)
  have hS := Eq.mp (S_X7_setFold.eq_1 C q1 q2) hS
  refine lv_iload_n hx hb dX7_setFold_0 rfl (lv_at hl 1 rfl) ?_
  refine gcS_i (rest := []) X (c_X7_isKey l D cy (MW cy ad C ++ rest) q1) gy_X7_isKey gX7_setFold_X7_isKey ⟨rfl, rfl, Nat.le_of_ble_eq_true rfl, Nat.le_of_ble_eq_true rfl⟩ rfl hl rfl (Nat.le_of_ble_eq_true rfl) dX7_setFold_1 ⟨Nat.zero_le _, Nat.zero_le _⟩ hw (fun r1 _ H locs hr1 hw => ?_)
  obtain ⟨hr1, zr1⟩ : r1 = F_X7_isKey q1 ∧ (r1 = 0 ∨ r1 = 1) := hr1
  have hF := hF.trans (bnd_eq hr1)
  try have hS := Eq.mp (bnd_eq hr1) hS
  refine lv_if_ne (tgt := 13) hx hb dX7_setFold_4 (by decide) (fun c3 => ?_) (fun c3 => ?_)
  · skip
    have hF := hF.trans (if_neg c3)
    try have hS := Eq.mp (if_neg c3) hS
    refine lv_iload_n hx hb dX7_setFold_13 rfl (lv_at hl 2 rfl) ?_
    refine lv_iconst (v := 0) hx hb dX7_setFold_14 (by decide) ?_
    refine lv_iconst (v := 3) hx hb dX7_setFold_15 (by decide) ?_
    refine gcS_i (rest := []) X (c_X7_in l D cy (MW cy ad C ++ rest) q2 0 3) gy_X7_in gX7_setFold_X7_in ⟨rfl, rfl, Nat.le_of_ble_eq_true rfl, Nat.le_of_ble_eq_true rfl⟩ rfl hl rfl (Nat.le_of_ble_eq_true rfl) dX7_setFold_16 ⟨Nat.zero_le _, Nat.zero_le _⟩ hw (fun r4 _ H locs hr4 hw => ?_)
    obtain ⟨hr4, zr4⟩ : r4 = F_X7_in q2 0 3 ∧ (r4 = 0 ∨ r4 = 1) := hr4
    have hF := hF.trans (bnd_eq hr4)
    try have hS := Eq.mp (bnd_eq hr4) hS
    refine lv_if_eq (tgt := 35) hx hb dX7_setFold_19 (by decide) (fun c6 => ?_) (fun c6 => ?_)
    · skip
      have hF := hF.trans (if_pos c6)
      try have hS := Eq.mp (if_pos c6) hS
      refine lv_aload_n hx hb dX7_setFold_35 rfl (lv_at hl 0 rfl) ?_
      refine lv_iconst (v := 2) hx hb dX7_setFold_36 (by decide) ?_
      refine gcV_i (rest := []) X (c_X7_fails l D cy ad rest C 2) gy_X7_fails gX7_setFold_X7_fails ⟨rfl, rfl, Nat.le_of_ble_eq_true rfl, Nat.le_of_ble_eq_true rfl⟩ 0 rfl rfl rfl hl rfl (Nat.le_of_ble_eq_true rfl) dX7_setFold_37 ⟨Nat.zero_le _, Nat.zero_le _⟩ hw (fun r7 u8 H locs hr7 hw => ?_)
      obtain ⟨hr7, hu8⟩ : r7 = (F_X7_fails C 2).1 ∧ u8 = (F_X7_fails C 2).2 := hr7
      have hF := hF.trans (bnd_eq hu8)
      try have hS := Eq.mp (bnd_eq hu8) hS
      have hF := hF.trans (bnd_eq hr7)
      try have hS := Eq.mp (bnd_eq hr7) hS
      exact hret _ _ _ _ _ _ dX7_setFold_40 ⟨congrArg Prod.fst (hF.symm.trans hsp), congrArg Prod.snd (hF.symm.trans hsp)⟩ hw
    · skip
      have hF := hF.trans (if_neg c6)
      try have hS := Eq.mp (if_neg c6) hS
      refine lv_aload_n hx hb dX7_setFold_22 rfl (lv_at hl 0 rfl) ?_
      refine lv_sipush (v := 1410) hx hb dX7_setFold_23 (by decide) ?_
      refine lv_iload_n hx hb dX7_setFold_26 rfl (lv_at hl 1 rfl) ?_
      refine lv_iadd hx hb dX7_setFold_27 ?_
      refine lv_iload_n hx hb dX7_setFold_28 rfl (lv_at hl 2 rfl) ?_
      have hSc : S_X7_puts C (1410 + q1) q2 := hS.1
      have hS := hS.2
      refine gcV_i (rest := []) X (c_X7_puts l D cy ad rest C (1410 + q1) q2 hSc) gy_X7_puts gX7_setFold_X7_puts ⟨rfl, rfl, Nat.le_of_ble_eq_true rfl, Nat.le_of_ble_eq_true rfl⟩ 0 rfl rfl rfl hl rfl (Nat.le_of_ble_eq_true rfl) dX7_setFold_29 ⟨Nat.zero_le _, Nat.zero_le _⟩ hw (fun r9 u10 H locs hr9 hw => ?_)
      obtain ⟨hr9, hu10⟩ : r9 = (F_X7_puts C (1410 + q1) q2).1 ∧ u10 = (F_X7_puts C (1410 + q1) q2).2 := hr9
      have hF := hF.trans (bnd_eq hu10)
      try have hS := Eq.mp (bnd_eq hu10) hS
      have hF := hF.trans (bnd_eq hr9)
      try have hS := Eq.mp (bnd_eq hr9) hS
      refine lv_goto (tgt := 40) hx hb dX7_setFold_32 (by decide) ?_
      exact hret _ _ _ _ _ _ dX7_setFold_40 ⟨congrArg Prod.fst (hF.symm.trans hsp), congrArg Prod.snd (hF.symm.trans hsp)⟩ hw
  · skip
    have hF := hF.trans (if_pos c3)
    try have hS := Eq.mp (if_pos c3) hS
    refine lv_aload_n hx hb dX7_setFold_7 rfl (lv_at hl 0 rfl) ?_
    refine lv_iconst (v := 1) hx hb dX7_setFold_8 (by decide) ?_
    refine gcV_i (rest := []) X (c_X7_fails l D cy ad rest C 1) gy_X7_fails gX7_setFold_X7_fails ⟨rfl, rfl, Nat.le_of_ble_eq_true rfl, Nat.le_of_ble_eq_true rfl⟩ 0 rfl rfl rfl hl rfl (Nat.le_of_ble_eq_true rfl) dX7_setFold_9 ⟨Nat.zero_le _, Nat.zero_le _⟩ hw (fun r11 u12 H locs hr11 hw => ?_)
    obtain ⟨hr11, hu12⟩ : r11 = (F_X7_fails C 1).1 ∧ u12 = (F_X7_fails C 1).2 := hr11
    have hF := hF.trans (bnd_eq hu12)
    try have hS := Eq.mp (bnd_eq hu12) hS
    have hF := hF.trans (bnd_eq hr11)
    try have hS := Eq.mp (bnd_eq hr11) hS
    exact hret _ _ _ _ _ _ dX7_setFold_12 ⟨congrArg Prod.fst (hF.symm.trans hsp), congrArg Prod.snd (hF.symm.trans hsp)⟩ hw
theorem gy_X7_setLateness : gY yX7_setLateness RX7 cX7_setLateness 2 (some .int) wsX7_setLateness 1 := ⟨⟨_, rfl⟩, rfl, by decide +kernel, by decide +kernel, by decide +kernel⟩
def F_X7_setLateness (C : CS) (q1 : Int32) : Int32 × CS := (bnd (F_X7_in q1 0 100) (fun r1 => (if r1 = 0 then (bnd ((F_X7_fails C 1).2) (fun u5 => (bnd ((F_X7_fails C 1).1) (fun r4 => (r4, u5))))) else (bnd ((F_X7_puts C 1419 q1).2) (fun u7 => (bnd ((F_X7_puts C 1419 q1).1) (fun r6 => (r6, u7))))))))
def S_X7_setLateness (C : CS) (q1 : Int32) : Prop := (bnd (F_X7_in q1 0 100) (fun r1 => (if r1 = 0 then True else (S_X7_puts C 1419 q1 ∧ True))))
abbrev rmX7_setLateness : Room := { frames := 2, cells := 0, slots := 0, locals := 44 }
set_option maxHeartbeats 4000000 in
set_option maxRecDepth 100000 in
theorem c_X7_setLateness (l : Launch) (D : va_G) (cy : Nat → ClassId) (ad : Nat → Nat) (rest : va_W) (C : CS) (q1 : Int32) (hS : S_X7_setLateness C q1) : GMi l yX7_setLateness wsX7_setLateness rmX7_setLateness D cy [.ref (ad 0), .int q1] (MW cy ad C ++ rest) (fun (r : Int32) (u : CS) => r = (F_X7_setLateness C q1).1 ∧ u = (F_X7_setLateness C q1).2) (fun u => MW cy ad u ++ rest) := by
  refine GMi.intro cX7_setLateness 2 RX7 (by decide) rfl rfl (Nat.le_of_ble_eq_true rfl) ?_
  intro p e s m args below meth c A Q ls X hret hl hw
  have hx := X.1
  have hb := X.2.1
  have hl : lv_has ls 2 [(0, .ref (ad 0)), (1, .int q1)] := hl
  obtain ⟨sp, hsp⟩ : ∃ sp, sp = F_X7_setLateness C q1 := ⟨_, rfl⟩
  have hF := hsp.trans (F_X7_setLateness.eq_1 C q1)
  have hS := Eq.mp (S_X7_setLateness.eq_1 C q1) hS
  refine lv_iload_n hx hb dX7_setLateness_0 rfl (lv_at hl 1 rfl) ?_
  refine lv_iconst (v := 0) hx hb dX7_setLateness_1 (by decide) ?_
  refine lv_bipush (v := 100) hx hb dX7_setLateness_2 (by decide) ?_
  refine gcS_i (rest := []) X (c_X7_in l D cy (MW cy ad C ++ rest) q1 0 100) gy_X7_in gX7_setLateness_X7_in ⟨rfl, rfl, Nat.le_of_ble_eq_true rfl, Nat.le_of_ble_eq_true rfl⟩ rfl hl rfl (Nat.le_of_ble_eq_true rfl) dX7_setLateness_4 ⟨Nat.zero_le _, Nat.zero_le _⟩ hw (fun r1 _ H locs hr1 hw => ?_)
  obtain ⟨hr1, zr1⟩ : r1 = F_X7_in q1 0 100 ∧ (r1 = 0 ∨ r1 = 1) := hr1
  have hF := hF.trans (bnd_eq hr1)
  try have hS := Eq.mp (bnd_eq hr1) hS
  refine lv_if_eq (tgt := 21) hx hb dX7_setLateness_7 (by decide) (fun c3 => ?_) (fun c3 => ?_)
  · skip
    have hF := hF.trans (if_pos c3)
    try have hS := Eq.mp (if_pos c3) hS
    refine lv_aload_n hx hb dX7_setLateness_21 rfl (lv_at hl 0 rfl) ?_
    refine lv_iconst (v := 1) hx hb dX7_setLateness_22 (by decide) ?_
    refine gcV_i (rest := []) X (c_X7_fails l D cy ad rest C 1) gy_X7_fails gX7_setLateness_X7_fails ⟨rfl, rfl, Nat.le_of_ble_eq_true rfl, Nat.le_of_ble_eq_true rfl⟩ 0 rfl rfl rfl hl rfl (Nat.le_of_ble_eq_true rfl) dX7_setLateness_23 ⟨Nat.zero_le _, Nat.zero_le _⟩ hw (fun r4 u5 H locs hr4 hw => ?_)
    obtain ⟨hr4, hu5⟩ : r4 = (F_X7_fails C 1).1 ∧ u5 = (F_X7_fails C 1).2 := hr4
    have hF := hF.trans (bnd_eq hu5)
    try have hS := Eq.mp (bnd_eq hu5) hS
    have hF := hF.trans (bnd_eq hr4)
    try have hS := Eq.mp (bnd_eq hr4) hS
    exact hret _ _ _ _ _ _ dX7_setLateness_26 ⟨congrArg Prod.fst (hF.symm.trans hsp), congrArg Prod.snd (hF.symm.trans hsp)⟩ hw
  · skip
    have hF := hF.trans (if_neg c3)
    try have hS := Eq.mp (if_neg c3) hS
    refine lv_aload_n hx hb dX7_setLateness_10 rfl (lv_at hl 0 rfl) ?_
    refine lv_sipush (v := 1419) hx hb dX7_setLateness_11 (by decide) ?_
    refine lv_iload_n hx hb dX7_setLateness_14 rfl (lv_at hl 1 rfl) ?_
    have hSc : S_X7_puts C 1419 q1 := hS.1
    have hS := hS.2
    refine gcV_i (rest := []) X (c_X7_puts l D cy ad rest C 1419 q1 hSc) gy_X7_puts gX7_setLateness_X7_puts ⟨rfl, rfl, Nat.le_of_ble_eq_true rfl, Nat.le_of_ble_eq_true rfl⟩ 0 rfl rfl rfl hl rfl (Nat.le_of_ble_eq_true rfl) dX7_setLateness_15 ⟨Nat.zero_le _, Nat.zero_le _⟩ hw (fun r6 u7 H locs hr6 hw => ?_)
    obtain ⟨hr6, hu7⟩ : r6 = (F_X7_puts C 1419 q1).1 ∧ u7 = (F_X7_puts C 1419 q1).2 := hr6
    have hF := hF.trans (bnd_eq hu7)
    try have hS := Eq.mp (bnd_eq hu7) hS
    have hF := hF.trans (bnd_eq hr6)
    try have hS := Eq.mp (bnd_eq hr6) hS
    refine lv_goto (tgt := 26) hx hb dX7_setLateness_18 (by decide) ?_
    exact hret _ _ _ _ _ _ dX7_setLateness_26 ⟨congrArg Prod.fst (hF.symm.trans hsp), congrArg Prod.snd (hF.symm.trans hsp)⟩ hw
theorem gy_X7_setTrigger : gY yX7_setTrigger RX7 cX7_setTrigger 2 (some .int) wsX7_setTrigger 1 := ⟨⟨_, rfl⟩, rfl, by decide +kernel, by decide +kernel, by decide +kernel⟩
def F_X7_setTrigger (C : CS) (q1 : Int32) : Int32 × CS := (bnd (F_X7_in q1 0 10) (fun r1 => (if r1 = 0 then (bnd ((F_X7_fails C 1).2) (fun u5 => (bnd ((F_X7_fails C 1).1) (fun r4 => (r4, u5))))) else (bnd ((F_X7_puts C 1420 q1).2) (fun u7 => (bnd ((F_X7_puts C 1420 q1).1) (fun r6 => (r6, u7))))))))
def S_X7_setTrigger (C : CS) (q1 : Int32) : Prop := (bnd (F_X7_in q1 0 10) (fun r1 => (if r1 = 0 then True else (S_X7_puts C 1420 q1 ∧ True))))
abbrev rmX7_setTrigger : Room := { frames := 2, cells := 0, slots := 0, locals := 44 }
set_option maxHeartbeats 4000000 in
set_option maxRecDepth 100000 in
theorem c_X7_setTrigger (l : Launch) (D : va_G) (cy : Nat → ClassId) (ad : Nat → Nat) (rest : va_W) (C : CS) (q1 : Int32) (hS : S_X7_setTrigger C q1) : GMi l yX7_setTrigger wsX7_setTrigger rmX7_setTrigger D cy [.ref (ad 0), .int q1] (MW cy ad C ++ rest) (fun (r : Int32) (u : CS) => r = (F_X7_setTrigger C q1).1 ∧ u = (F_X7_setTrigger C q1).2) (fun u => MW cy ad u ++ rest) := by
  refine GMi.intro cX7_setTrigger 2 RX7 (by decide) rfl rfl (Nat.le_of_ble_eq_true rfl) ?_
  intro p e s m args below meth c A Q ls X hret hl hw
  have hx := X.1
  have hb := X.2.1
  have hl : lv_has ls 2 [(0, .ref (ad 0)), (1, .int q1)] := hl
  obtain ⟨sp, hsp⟩ : ∃ sp, sp = F_X7_setTrigger C q1 := ⟨_, rfl⟩
  have hF := hsp.trans (F_X7_setTrigger.eq_1 C q1)
  have hS := Eq.mp (S_X7_setTrigger.eq_1 C q1) hS
  refine lv_iload_n hx hb dX7_setTrigger_0 rfl (lv_at hl 1 rfl) ?_
  refine lv_iconst (v := 0) hx hb dX7_setTrigger_1 (by decide) ?_
  refine lv_bipush (v := 10) hx hb dX7_setTrigger_2 (by decide) ?_
  refine gcS_i (rest := []) X (c_X7_in l D cy (MW cy ad C ++ rest) q1 0 10) gy_X7_in gX7_setTrigger_X7_in ⟨rfl, rfl, Nat.le_of_ble_eq_true rfl, Nat.le_of_ble_eq_true rfl⟩ rfl hl rfl (Nat.le_of_ble_eq_true rfl) dX7_setTrigger_4 ⟨Nat.zero_le _, Nat.zero_le _⟩ hw (fun r1 _ H locs hr1 hw => ?_)
  obtain ⟨hr1, zr1⟩ : r1 = F_X7_in q1 0 10 ∧ (r1 = 0 ∨ r1 = 1) := hr1
  have hF := hF.trans (bnd_eq hr1)
  try have hS := Eq.mp (bnd_eq hr1) hS
  refine lv_if_eq (tgt := 21) hx hb dX7_setTrigger_7 (by decide) (fun c3 => ?_) (fun c3 => ?_)
  · skip
    have hF := hF.trans (if_pos c3)
    try have hS := Eq.mp (if_pos c3) hS
    refine lv_aload_n hx hb dX7_setTrigger_21 rfl (lv_at hl 0 rfl) ?_
    refine lv_iconst (v := 1) hx hb dX7_setTrigger_22 (by decide) ?_
    refine gcV_i (rest := []) X (c_X7_fails l D cy ad rest C 1) gy_X7_fails gX7_setTrigger_X7_fails ⟨rfl, rfl, Nat.le_of_ble_eq_true rfl, Nat.le_of_ble_eq_true rfl⟩ 0 rfl rfl rfl hl rfl (Nat.le_of_ble_eq_true rfl) dX7_setTrigger_23 ⟨Nat.zero_le _, Nat.zero_le _⟩ hw (fun r4 u5 H locs hr4 hw => ?_)
    obtain ⟨hr4, hu5⟩ : r4 = (F_X7_fails C 1).1 ∧ u5 = (F_X7_fails C 1).2 := hr4
    have hF := hF.trans (bnd_eq hu5)
    try have hS := Eq.mp (bnd_eq hu5) hS
    have hF := hF.trans (bnd_eq hr4)
    try have hS := Eq.mp (bnd_eq hr4) hS
    exact hret _ _ _ _ _ _ dX7_setTrigger_26 ⟨congrArg Prod.fst (hF.symm.trans hsp), congrArg Prod.snd (hF.symm.trans hsp)⟩ hw
  · skip
    have hF := hF.trans (if_neg c3)
    try have hS := Eq.mp (if_neg c3) hS
    refine lv_aload_n hx hb dX7_setTrigger_10 rfl (lv_at hl 0 rfl) ?_
    refine lv_sipush (v := 1420) hx hb dX7_setTrigger_11 (by decide) ?_
    refine lv_iload_n hx hb dX7_setTrigger_14 rfl (lv_at hl 1 rfl) ?_
    have hSc : S_X7_puts C 1420 q1 := hS.1
    have hS := hS.2
    refine gcV_i (rest := []) X (c_X7_puts l D cy ad rest C 1420 q1 hSc) gy_X7_puts gX7_setTrigger_X7_puts ⟨rfl, rfl, Nat.le_of_ble_eq_true rfl, Nat.le_of_ble_eq_true rfl⟩ 0 rfl rfl rfl hl rfl (Nat.le_of_ble_eq_true rfl) dX7_setTrigger_15 ⟨Nat.zero_le _, Nat.zero_le _⟩ hw (fun r6 u7 H locs hr6 hw => ?_)
    obtain ⟨hr6, hu7⟩ : r6 = (F_X7_puts C 1420 q1).1 ∧ u7 = (F_X7_puts C 1420 q1).2 := hr6
    have hF := hF.trans (bnd_eq hu7)
    try have hS := Eq.mp (bnd_eq hu7) hS
    have hF := hF.trans (bnd_eq hr6)
    try have hS := Eq.mp (bnd_eq hr6) hS
    refine lv_goto (tgt := 26) hx hb dX7_setTrigger_18 (by decide) ?_
    exact hret _ _ _ _ _ _ dX7_setTrigger_26 ⟨congrArg Prod.fst (hF.symm.trans hsp), congrArg Prod.snd (hF.symm.trans hsp)⟩ hw
theorem gy_X7_starts : gY yX7_starts RX7 cX7_starts 2 none wsX7_starts 0 := ⟨⟨_, rfl⟩, rfl, by decide +kernel, by decide +kernel, by decide +kernel⟩
def st_X7_starts_24 (v3_1 : Int32) (w3 : CS) : (Int32 × CS) ⊕ ((Int32 × CS) ⊕ CS) := (if 8 ≤ v3_1 then (bnd (sL w3 0 0) (fun u5 => .inr (.inr (u5)))) else (bnd (sR w3 0 (upd (w3.1 0) (1402 + v3_1).toNatClampNeg 10)) (fun u6 => .inl ((v3_1 + 1), u6))))
def Sst_X7_starts_24 (v3_1 : Int32) (w3 : CS) : Prop := (if 8 ≤ v3_1 then True else (vp_in (1402 + v3_1) 1787 ∧ True))
def st_X7_starts_2 (C : CS) (v1_1 : Int32) (w1 : CS) : (Int32 × CS) ⊕ CS := (if 1787 ≤ v1_1 then lp (fun (z : Int32 × CS) => st_X7_starts_24 z.1 z.2) (.inr C) (((8 : Int32).toInt - (0 : Int32).toInt).toNat + 1) (0, w1) else (bnd (sR w1 0 (upd (w1.1 0) v1_1.toNatClampNeg 0)) (fun u7 => .inl ((v1_1 + 1), u7))))
def Sst_X7_starts_2 (C : CS) (v1_1 : Int32) (w1 : CS) : Prop := (if 1787 ≤ v1_1 then lpS (fun (z : Int32 × CS) => st_X7_starts_24 z.1 z.2) (fun (z : Int32 × CS) => Sst_X7_starts_24 z.1 z.2) (((8 : Int32).toInt - (0 : Int32).toInt).toNat + 1) (0, w1) else (vp_in v1_1 1787 ∧ True))
def F_X7_starts (C : CS) : CS := lp (fun (z : Int32 × CS) => st_X7_starts_2 C z.1 z.2) C (((1787 : Int32).toInt - (0 : Int32).toInt).toNat + 1) (0, C)
def S_X7_starts (C : CS) : Prop := lpS (fun (z : Int32 × CS) => st_X7_starts_2 C z.1 z.2) (fun (z : Int32 × CS) => Sst_X7_starts_2 C z.1 z.2) (((1787 : Int32).toInt - (0 : Int32).toInt).toNat + 1) (0, C)
abbrev rmX7_starts : Room := { frames := 0, cells := 0, slots := 0, locals := 0 }
set_option maxHeartbeats 4000000 in
set_option maxRecDepth 100000 in
theorem c_X7_starts (l : Launch) (D : va_G) (cy : Nat → ClassId) (ad : Nat → Nat) (rest : va_W) (C : CS) (hS : S_X7_starts C) : GMv l yX7_starts wsX7_starts rmX7_starts D cy [.ref (ad 0)] (MW cy ad C ++ rest) (fun (u : CS) => u = F_X7_starts C) (fun u => MW cy ad u ++ rest) := by
  refine GMv.intro cX7_starts 2 RX7 (by decide) rfl rfl (Nat.le_of_ble_eq_true rfl) ?_
  intro p e s m args below meth c A Q ls X hret hl hw
  have hx := X.1
  have hb := X.2.1
  have hl : lv_has ls 2 [(0, .ref (ad 0))] := hl
  have inX7 : ∀ w ∈ wsX70, w ∈ wsX7_starts := fun w h => List.mem_cons_of_mem _ (List.mem_append_left _ (List.mem_append_right _ h))
  obtain ⟨sp, hsp⟩ : ∃ sp, sp = F_X7_starts C := ⟨_, rfl⟩
  have hF := hsp.trans (F_X7_starts.eq_1 C)
  have hS := Eq.mp (S_X7_starts.eq_1 C) hS
  refine lv_iconst (v := 0) hx hb dX7_starts_0 (by decide) ?_
  refine lv_istore_n (lv' := [(1, .int 0), (0, .ref (ad 0))]) hx hb dX7_starts_1 rfl hl (by decide) rfl (fun ls hl => ?_)
  have L1 : ∀ (n1 : Nat) (v1_1 : Int32) (w1 : CS), sp = lp (fun (z : Int32 × CS) => st_X7_starts_2 C z.1 z.2) C n1 (v1_1, w1) → lpS (fun (z : Int32 × CS) => st_X7_starts_2 C z.1 z.2) (fun (z : Int32 × CS) => Sst_X7_starts_2 C z.1 z.2) n1 (v1_1, w1) → ∀ (H : Heap) (locs : List Loc) (ls : Array Slot), lv_has ls 2 [(1, .int v1_1), (0, .ref (ad 0))] → gw D A s.heap (MW cy ad w1 ++ rest) H locs → W p l e rmX7_starts s m args below meth c H locs 0 0 Q (F0 m 2 ls []) := by
    intro n1
    induction n1 with
    | zero => intro v1_1 w1 hF hL; exact False.elim hL
    | succ n1 ih1 =>
      intro v1_1 w1 hF hL H locs ls hl hw
      have hT1 := st_X7_starts_2.eq_1 C v1_1 w1
      have hLn1 := hL.2
      have hS := Eq.mp (Sst_X7_starts_2.eq_1 C v1_1 w1) hL.1
      refine lv_iload_n hx hb dX7_starts_2 rfl (lv_at hl 0 rfl) ?_
      refine lv_sipush (v := 1787) hx hb dX7_starts_3 (by decide) ?_
      refine lv_icmp_ge (tgt := 22) hx hb dX7_starts_6 (by decide) (fun c2 => ?_) (fun c2 => ?_)
      · skip
        have hT1 := hT1.trans (if_pos c2)
        try have hS := Eq.mp (if_pos c2) hS
        refine lv_iconst (v := 0) hx hb dX7_starts_22 (by decide) ?_
        refine lv_istore_n (lv' := [(1, .int 0), (0, .ref (ad 0))]) hx hb dX7_starts_23 rfl hl (by decide) rfl (fun ls hl => ?_)
        have L3 : ∀ (n3 : Nat) (v3_1 : Int32) (w3 : CS), st_X7_starts_2 C v1_1 w1 = lp (fun (z : Int32 × CS) => st_X7_starts_24 z.1 z.2) (.inr C) n3 (v3_1, w3) → lpS (fun (z : Int32 × CS) => st_X7_starts_24 z.1 z.2) (fun (z : Int32 × CS) => Sst_X7_starts_24 z.1 z.2) n3 (v3_1, w3) → ∀ (H : Heap) (locs : List Loc) (ls : Array Slot), lv_has ls 2 [(1, .int v3_1), (0, .ref (ad 0))] → gw D A s.heap (MW cy ad w3 ++ rest) H locs → W p l e rmX7_starts s m args below meth c H locs 0 0 Q (F0 m 24 ls []) := by
          intro n3
          induction n3 with
          | zero => intro v3_1 w3 hT1 hL; exact False.elim hL
          | succ n3 ih3 =>
            intro v3_1 w3 hT1 hL H locs ls hl hw
            have hT3 := st_X7_starts_24.eq_1 v3_1 w3
            have hLn3 := hL.2
            have hS := Eq.mp (Sst_X7_starts_24.eq_1 v3_1 w3) hL.1
            refine lv_iload_n hx hb dX7_starts_24 rfl (lv_at hl 0 rfl) ?_
            refine lv_bipush (v := 8) hx hb dX7_starts_25 (by decide) ?_
            refine lv_icmp_ge (tgt := 48) hx hb dX7_starts_27 (by decide) (fun c4 => ?_) (fun c4 => ?_)
            · skip
              have hT3 := hT3.trans (if_pos c4)
              try have hS := Eq.mp (if_pos c4) hS
              refine lv_aload_n hx hb dX7_starts_48 rfl (lv_at hl 1 rfl) ?_
              refine lv_lconst (v := 0) hx hb dX7_starts_49 (by decide) ?_
              refine g_put (v := .long 0) (C := RX7) (T := TX7) (N := 16) (ci := 9) (w' := MW cy ad (sL w3 0 0) ++ rest) X inX7 tyX7 tyX7_ok nmX7 hw 0 rfl rfl 2 (by decide) (List.mem_of_getElem? (i := 2) rfl) rfl rfl rfl rfl (Nat.le_of_ble_eq_true rfl) rfl dX7_starts_50 (fun H locs hw => ?_)
              obtain ⟨u5, hu5⟩ : ∃ z, z = sL w3 0 0 := ⟨_, rfl⟩
              rw [← hu5] at hw
              have hT3 := hT3.trans (bnd_eq hu5)
              try have hS := Eq.mp (bnd_eq hu5) hS
              exact hret _ _ _ _ _ dX7_starts_53 ((hF.trans (lp_r (hT1.trans (lp_r hT3)))).symm.trans hsp) hw
            · skip
              have hT3 := hT3.trans (if_neg c4)
              try have hS := Eq.mp (if_neg c4) hS
              refine lv_aload_n hx hb dX7_starts_30 rfl (lv_at hl 1 rfl) ?_
              refine g_get (v := .ref (ad 1)) (C := RX7) (T := TX7) (N := 16) (ci := 9) X inX7 hw 0 rfl rfl 1 (by decide) (List.mem_of_getElem? (i := 1) rfl) rfl rfl dX7_starts_31 ?_
              refine lv_sipush (v := 1402) hx hb dX7_starts_34 (by decide) ?_
              refine lv_iload_n hx hb dX7_starts_37 rfl (lv_at hl 0 rfl) ?_
              refine lv_iadd hx hb dX7_starts_38 ?_
              refine lv_bipush (v := 10) hx hb dX7_starts_39 (by decide) ?_
              refine g_iast (w' := MW cy ad (sR w3 0 (upd (w3.1 0) (1402 + v3_1).toNatClampNeg 10)) ++ rest) X hw 1 rfl hS.1 rfl dX7_starts_41 (fun H locs hw => ?_)
              have hS := hS.2
              obtain ⟨u6, hu6⟩ : ∃ z, z = sR w3 0 (upd (w3.1 0) (1402 + v3_1).toNatClampNeg 10) := ⟨_, rfl⟩
              rw [← hu6] at hw
              have hT3 := hT3.trans (bnd_eq hu6)
              try have hS := Eq.mp (bnd_eq hu6) hS
              refine lv_iinc (v := (v3_1 + 1)) (lv' := [(1, .int (v3_1 + 1)), (0, .ref (ad 0))]) hx hb dX7_starts_42 hl (k := 0) rfl rfl (by decide) rfl (fun ls hl => ?_)
              refine lv_goto (tgt := 24) hx hb dX7_starts_45 (by decide) ?_
              exact ih3 (v3_1 + 1) u6 (hT1.trans (lp_l hT3)) (hLn3 _ hT3) _ _ ls (lv_sub hl [0, 1] rfl) hw
        exact L3 _ 0 w1 hT1 hS _ _ ls (lv_sub hl [0, 1] rfl) hw
      · skip
        have hT1 := hT1.trans (if_neg c2)
        try have hS := Eq.mp (if_neg c2) hS
        refine lv_aload_n hx hb dX7_starts_9 rfl (lv_at hl 1 rfl) ?_
        refine g_get (v := .ref (ad 1)) (C := RX7) (T := TX7) (N := 16) (ci := 9) X inX7 hw 0 rfl rfl 1 (by decide) (List.mem_of_getElem? (i := 1) rfl) rfl rfl dX7_starts_10 ?_
        refine lv_iload_n hx hb dX7_starts_13 rfl (lv_at hl 0 rfl) ?_
        refine lv_iconst (v := 0) hx hb dX7_starts_14 (by decide) ?_
        refine g_iast (w' := MW cy ad (sR w1 0 (upd (w1.1 0) v1_1.toNatClampNeg 0)) ++ rest) X hw 1 rfl hS.1 rfl dX7_starts_15 (fun H locs hw => ?_)
        have hS := hS.2
        obtain ⟨u7, hu7⟩ : ∃ z, z = sR w1 0 (upd (w1.1 0) v1_1.toNatClampNeg 0) := ⟨_, rfl⟩
        rw [← hu7] at hw
        have hT1 := hT1.trans (bnd_eq hu7)
        try have hS := Eq.mp (bnd_eq hu7) hS
        refine lv_iinc (v := (v1_1 + 1)) (lv' := [(1, .int (v1_1 + 1)), (0, .ref (ad 0))]) hx hb dX7_starts_16 hl (k := 0) rfl rfl (by decide) rfl (fun ls hl => ?_)
        refine lv_goto (tgt := 2) hx hb dX7_starts_19 (by decide) ?_
        exact ih1 (v1_1 + 1) u7 (hF.trans (lp_l hT1)) (hLn1 _ hT1) _ _ ls (lv_sub hl [0, 1] rfl) hw
  exact L1 _ 0 C hF hS _ _ ls (lv_sub hl [0, 1] rfl) hw
theorem gy_X7_reset : gY yX7_reset RX7 cX7_reset 2 (some .int) wsX7_reset 0 := ⟨⟨_, rfl⟩, rfl, by decide +kernel, by decide +kernel, by decide +kernel⟩
def F_X7_reset (C : CS) : Int32 × CS := (bnd (F_X7_starts C) (fun u2 => (bnd ((F_X7_done u2 (C.1 0 400)).2) (fun u4 => (bnd ((F_X7_done u2 (C.1 0 400)).1) (fun r3 => (r3, u4)))))))
def S_X7_reset (C : CS) : Prop := (S_X7_starts C ∧ True)
abbrev rmX7_reset : Room := { frames := 1, cells := 0, slots := 0, locals := 21 }
set_option maxHeartbeats 4000000 in
set_option maxRecDepth 100000 in
theorem c_X7_reset (l : Launch) (D : va_G) (cy : Nat → ClassId) (ad : Nat → Nat) (rest : va_W) (C : CS) (hS : S_X7_reset C) : GMi l yX7_reset wsX7_reset rmX7_reset D cy [.ref (ad 0)] (MW cy ad C ++ rest) (fun (r : Int32) (u : CS) => r = (F_X7_reset C).1 ∧ u = (F_X7_reset C).2) (fun u => MW cy ad u ++ rest) := by
  refine GMi.intro cX7_reset 2 RX7 (by decide) rfl rfl (Nat.le_of_ble_eq_true rfl) ?_
  intro p e s m args below meth c A Q ls X hret hl hw
  have hx := X.1
  have hb := X.2.1
  have hl : lv_has ls 2 [(0, .ref (ad 0))] := hl
  have inX7 : ∀ w ∈ wsX70, w ∈ wsX7_reset := fun w h => List.mem_cons_of_mem _ (List.mem_append_left _ (List.mem_append_right _ h))
  obtain ⟨sp, hsp⟩ : ∃ sp, sp = F_X7_reset C := ⟨_, rfl⟩
  have hF := hsp.trans (F_X7_reset.eq_1 C)
  have hS := Eq.mp (S_X7_reset.eq_1 C) hS
  refine lv_aload_n hx hb dX7_reset_0 rfl (lv_at hl 0 rfl) ?_
  refine g_get (v := .ref (ad 1)) (C := RX7) (T := TX7) (N := 16) (ci := 9) X inX7 hw 0 rfl rfl 1 (by decide) (List.mem_of_getElem? (i := 1) rfl) rfl rfl dX7_reset_1 ?_
  refine lv_sipush (v := 400) hx hb dX7_reset_4 (by decide) ?_
  refine g_ialdk (k := 400) rfl X hw 1 rfl (vk rfl) dX7_reset_7 ?_
  refine lv_istore_n (lv' := [(1, .int (C.1 0 400)), (0, .ref (ad 0))]) hx hb dX7_reset_8 rfl hl (by decide) rfl (fun ls hl => ?_)
  refine lv_aload_n hx hb dX7_reset_9 rfl (lv_at hl 1 rfl) ?_
  have hSc : S_X7_starts C := hS.1
  have hS := hS.2
  refine gcV_v (rest := []) X (c_X7_starts l D cy ad rest C  hSc) gy_X7_starts gX7_reset_X7_starts ⟨rfl, rfl, Nat.le_of_ble_eq_true rfl, Nat.le_of_ble_eq_true rfl⟩ 0 rfl rfl rfl hl rfl (Nat.le_of_ble_eq_true rfl) dX7_reset_10 ⟨Nat.zero_le _, Nat.zero_le _⟩ hw (fun u2 H locs hu2 hw => ?_)
  have hu2 : u2 = F_X7_starts C := hu2
  have hF := hF.trans (bnd_eq hu2)
  try have hS := Eq.mp (bnd_eq hu2) hS
  refine lv_aload_n hx hb dX7_reset_13 rfl (lv_at hl 1 rfl) ?_
  refine lv_iload_n hx hb dX7_reset_14 rfl (lv_at hl 0 rfl) ?_
  refine gcV_i (rest := []) X (c_X7_done l D cy ad rest u2 (C.1 0 400)) gy_X7_done gX7_reset_X7_done ⟨rfl, rfl, Nat.le_of_ble_eq_true rfl, Nat.le_of_ble_eq_true rfl⟩ 0 rfl rfl rfl hl rfl (Nat.le_of_ble_eq_true rfl) dX7_reset_15 ⟨Nat.zero_le _, Nat.zero_le _⟩ hw (fun r3 u4 H locs hr3 hw => ?_)
  obtain ⟨hr3, hu4⟩ : r3 = (F_X7_done u2 (C.1 0 400)).1 ∧ u4 = (F_X7_done u2 (C.1 0 400)).2 := hr3
  have hF := hF.trans (bnd_eq hu4)
  try have hS := Eq.mp (bnd_eq hu4) hS
  have hF := hF.trans (bnd_eq hr3)
  try have hS := Eq.mp (bnd_eq hr3) hS
  exact hret _ _ _ _ _ _ dX7_reset_18 ⟨congrArg Prod.fst (hF.symm.trans hsp), congrArg Prod.snd (hF.symm.trans hsp)⟩ hw
theorem gy_X7_many : gY yX7_many RX7 cX7_many 4 (some .int) wsX7_many 1 := ⟨⟨_, rfl⟩, rfl, by decide +kernel, by decide +kernel, by decide +kernel⟩
def st_X7_many_4 (q1 : Int32) (C : CS) (v1_3 : Int32) (v1_2 : Int32) : (Int32 × Int32) ⊕ Int32 := (if (C.1 0 400) ≤ v1_3 then .inr (v1_2) else (if (C.1 0 ((4 * v1_3) + 3).toNatClampNeg) = q1 then .inl ((v1_3 + 1), (v1_2 + 1)) else .inl ((v1_3 + 1), (v1_2 + 0))))
def Sst_X7_many_4 (q1 : Int32) (C : CS) (v1_3 : Int32) (v1_2 : Int32) : Prop := (if (C.1 0 400) ≤ v1_3 then True else (vp_in ((4 * v1_3) + 3) 1787 ∧ True))
def F_X7_many (C : CS) (q1 : Int32) : Int32 := lp (fun (z : Int32 × Int32) => st_X7_many_4 q1 C z.1 z.2) 0 (((C.1 0 400).toInt - (0 : Int32).toInt).toNat + 1) (0, 0)
def S_X7_many (C : CS) (q1 : Int32) : Prop := lpS (fun (z : Int32 × Int32) => st_X7_many_4 q1 C z.1 z.2) (fun (z : Int32 × Int32) => Sst_X7_many_4 q1 C z.1 z.2) (((C.1 0 400).toInt - (0 : Int32).toInt).toNat + 1) (0, 0)
abbrev rmX7_many : Room := { frames := 0, cells := 0, slots := 0, locals := 0 }
set_option maxHeartbeats 4000000 in
set_option maxRecDepth 100000 in
theorem c_X7_many (l : Launch) (D : va_G) (cy : Nat → ClassId) (ad : Nat → Nat) (rest : va_W) (C : CS) (q1 : Int32) (hS : S_X7_many C q1) : GMi l yX7_many wsX7_many rmX7_many D cy [.ref (ad 0), .int q1] (MW cy ad C ++ rest) (fun (r : Int32) (_ : Unit) => r = F_X7_many C q1) (fun _ => MW cy ad C ++ rest) := by
  refine GMi.intro cX7_many 4 RX7 (by decide) rfl rfl (Nat.le_of_ble_eq_true rfl) ?_
  intro p e s m args below meth c A Q ls X hret hl hw
  have hx := X.1
  have hb := X.2.1
  have hl : lv_has ls 4 [(0, .ref (ad 0)), (1, .int q1)] := hl
  have inX7 : ∀ w ∈ wsX70, w ∈ wsX7_many := fun w h => List.mem_cons_of_mem _ (List.mem_append_left _ (List.mem_append_right _ h))
  obtain ⟨sp, hsp⟩ : ∃ sp, sp = F_X7_many C q1 := ⟨_, rfl⟩
  have hF := hsp.trans (F_X7_many.eq_1 C q1)
  have hS := Eq.mp (S_X7_many.eq_1 C q1) hS
  refine lv_iconst (v := 0) hx hb dX7_many_0 (by decide) ?_
  refine lv_istore_n (lv' := [(2, .int 0), (0, .ref (ad 0)), (1, .int q1)]) hx hb dX7_many_1 rfl hl (by decide) rfl (fun ls hl => ?_)
  refine lv_iconst (v := 0) hx hb dX7_many_2 (by decide) ?_
  refine lv_istore_n (lv' := [(3, .int 0), (2, .int 0), (0, .ref (ad 0)), (1, .int q1)]) hx hb dX7_many_3 rfl hl (by decide) rfl (fun ls hl => ?_)
  have L1 : ∀ (n1 : Nat) (v1_3 : Int32) (v1_2 : Int32), sp = lp (fun (z : Int32 × Int32) => st_X7_many_4 q1 C z.1 z.2) 0 n1 (v1_3, v1_2) → lpS (fun (z : Int32 × Int32) => st_X7_many_4 q1 C z.1 z.2) (fun (z : Int32 × Int32) => Sst_X7_many_4 q1 C z.1 z.2) n1 (v1_3, v1_2) → ∀ (H : Heap) (locs : List Loc) (ls : Array Slot), lv_has ls 4 [(3, .int v1_3), (2, .int v1_2), (0, .ref (ad 0)), (1, .int q1)] → gw D A s.heap (MW cy ad C ++ rest) H locs → W p l e rmX7_many s m args below meth c H locs 0 0 Q (F0 m 4 ls []) := by
    intro n1
    induction n1 with
    | zero => intro v1_3 v1_2 hF hL; exact False.elim hL
    | succ n1 ih1 =>
      intro v1_3 v1_2 hF hL H locs ls hl hw
      have hT1 := st_X7_many_4.eq_1 q1 C v1_3 v1_2
      have hLn1 := hL.2
      have hS := Eq.mp (Sst_X7_many_4.eq_1 q1 C v1_3 v1_2) hL.1
      refine lv_iload_n hx hb dX7_many_4 rfl (lv_at hl 0 rfl) ?_
      refine lv_aload_n hx hb dX7_many_5 rfl (lv_at hl 2 rfl) ?_
      refine g_get (v := .ref (ad 1)) (C := RX7) (T := TX7) (N := 16) (ci := 9) X inX7 hw 0 rfl rfl 1 (by decide) (List.mem_of_getElem? (i := 1) rfl) rfl rfl dX7_many_6 ?_
      refine lv_sipush (v := 400) hx hb dX7_many_9 (by decide) ?_
      refine g_ialdk (k := 400) rfl X hw 1 rfl (vk rfl) dX7_many_12 ?_
      refine lv_icmp_ge (tgt := 44) hx hb dX7_many_13 (by decide) (fun c2 => ?_) (fun c2 => ?_)
      · skip
        have hT1 := hT1.trans (if_pos c2)
        try have hS := Eq.mp (if_pos c2) hS
        refine lv_iload_n hx hb dX7_many_44 rfl (lv_at hl 1 rfl) ?_
        exact hret _ _ () _ _ _ dX7_many_45 ((hF.trans (lp_r hT1)).symm.trans hsp) hw
      · skip
        have hT1 := hT1.trans (if_neg c2)
        try have hS := Eq.mp (if_neg c2) hS
        refine lv_iload_n hx hb dX7_many_16 rfl (lv_at hl 1 rfl) ?_
        refine lv_aload_n hx hb dX7_many_17 rfl (lv_at hl 2 rfl) ?_
        refine g_get (v := .ref (ad 1)) (C := RX7) (T := TX7) (N := 16) (ci := 9) X inX7 hw 0 rfl rfl 1 (by decide) (List.mem_of_getElem? (i := 1) rfl) rfl rfl dX7_many_18 ?_
        refine lv_iconst (v := 4) hx hb dX7_many_21 (by decide) ?_
        refine lv_iload_n hx hb dX7_many_22 rfl (lv_at hl 0 rfl) ?_
        refine lv_imul hx hb dX7_many_23 ?_
        refine lv_iconst (v := 3) hx hb dX7_many_24 (by decide) ?_
        refine lv_iadd hx hb dX7_many_25 ?_
        refine g_iald X hw 1 rfl hS.1 dX7_many_26 ?_
        have hS := hS.2
        refine lv_iload_n hx hb dX7_many_27 rfl (lv_at hl 3 rfl) ?_
        refine lv_icmp_ne (tgt := 35) hx hb dX7_many_28 (by decide) (fun c3 => ?_) (fun c3 => ?_)
        · skip
          have hT1 := hT1.trans (if_neg c3)
          try have hS := Eq.mp (if_neg c3) hS
          refine lv_iconst (v := 0) hx hb dX7_many_35 (by decide) ?_
          refine lv_iadd hx hb dX7_many_36 ?_
          refine lv_istore_n (lv' := [(2, .int (v1_2 + 0)), (3, .int v1_3), (0, .ref (ad 0)), (1, .int q1)]) hx hb dX7_many_37 rfl hl (by decide) rfl (fun ls hl => ?_)
          refine lv_iinc (v := (v1_3 + 1)) (lv' := [(3, .int (v1_3 + 1)), (2, .int (v1_2 + 0)), (0, .ref (ad 0)), (1, .int q1)]) hx hb dX7_many_38 hl (k := 1) rfl rfl (by decide) rfl (fun ls hl => ?_)
          refine lv_goto (tgt := 4) hx hb dX7_many_41 (by decide) ?_
          exact ih1 (v1_3 + 1) (v1_2 + 0) (hF.trans (lp_l hT1)) (hLn1 _ hT1) _ _ ls (lv_sub hl [0, 1, 2, 3] rfl) hw
        · skip
          have hT1 := hT1.trans (if_pos c3)
          try have hS := Eq.mp (if_pos c3) hS
          refine lv_iconst (v := 1) hx hb dX7_many_31 (by decide) ?_
          refine lv_goto (tgt := 36) hx hb dX7_many_32 (by decide) ?_
          refine lv_iadd hx hb dX7_many_36 ?_
          refine lv_istore_n (lv' := [(2, .int (v1_2 + 1)), (3, .int v1_3), (0, .ref (ad 0)), (1, .int q1)]) hx hb dX7_many_37 rfl hl (by decide) rfl (fun ls hl => ?_)
          refine lv_iinc (v := (v1_3 + 1)) (lv' := [(3, .int (v1_3 + 1)), (2, .int (v1_2 + 1)), (0, .ref (ad 0)), (1, .int q1)]) hx hb dX7_many_38 hl (k := 1) rfl rfl (by decide) rfl (fun ls hl => ?_)
          refine lv_goto (tgt := 4) hx hb dX7_many_41 (by decide) ?_
          exact ih1 (v1_3 + 1) (v1_2 + 1) (hF.trans (lp_l hT1)) (hLn1 _ hT1) _ _ ls (lv_sub hl [0, 1, 2, 3] rfl) hw
  exact L1 _ 0 0 hF hS _ _ ls (lv_sub hl [0, 1, 2, 3] rfl) hw
theorem gy_X7_resultOf : gY yX7_resultOf RX7 cX7_resultOf 7 (some .int) wsX7_resultOf 1 := ⟨⟨_, rfl⟩, rfl, by decide +kernel, by decide +kernel, by decide +kernel⟩
def st_X7_resultOf_24 (q1 : Int32) (C : CS) (r1 : Int32) (v3_5 : Int32) (v3_4 : Int32) (v3_3 : Int32) : (Int32 × Int32 × Int32) ⊕ Int32 := (if (C.1 0 400) ≤ v3_5 then (if (C.1 0 (1410 + r1).toNatClampNeg) = 3 then .inr (v3_3) else .inr (v3_4)) else (if (C.1 0 ((4 * v3_5) + 3).toNatClampNeg) = q1 then (if (C.1 0 (1410 + r1).toNatClampNeg) = 0 then .inl ((v3_5 + 1), (v3_4 + (C.1 0 ((4 * v3_5) + 2).toNatClampNeg)), (v3_3 + 1)) else (if v3_3 = 0 then .inl ((v3_5 + 1), (C.1 0 ((4 * v3_5) + 2).toNatClampNeg), (v3_3 + 1)) else (if (C.1 0 (1410 + r1).toNatClampNeg) = 1 then (if (C.1 0 ((4 * v3_5) + 2).toNatClampNeg) ≤ v3_4 then .inl ((v3_5 + 1), v3_4, (v3_3 + 1)) else .inl ((v3_5 + 1), (C.1 0 ((4 * v3_5) + 2).toNatClampNeg), (v3_3 + 1))) else (if v3_4 ≤ (C.1 0 ((4 * v3_5) + 2).toNatClampNeg) then .inl ((v3_5 + 1), v3_4, (v3_3 + 1)) else .inl ((v3_5 + 1), (C.1 0 ((4 * v3_5) + 2).toNatClampNeg), (v3_3 + 1)))))) else .inl ((v3_5 + 1), v3_4, v3_3)))
def Sst_X7_resultOf_24 (q1 : Int32) (C : CS) (r1 : Int32) (v3_5 : Int32) (v3_4 : Int32) (v3_3 : Int32) : Prop := (if (C.1 0 400) ≤ v3_5 then True else (vp_in ((4 * v3_5) + 3) 1787 ∧ (if (C.1 0 ((4 * v3_5) + 3).toNatClampNeg) = q1 then (vp_in ((4 * v3_5) + 2) 1787 ∧ True) else True)))
def F_X7_resultOf (C : CS) (q1 : Int32) : Int32 := (bnd (F_X7_of C q1 1) (fun r1 => lp (fun (z : Int32 × Int32 × Int32) => st_X7_resultOf_24 q1 C r1 z.1 z.2.1 z.2.2) 0 (((C.1 0 400).toInt - (0 : Int32).toInt).toNat + 1) (0, 0, 0)))
def S_X7_resultOf (C : CS) (q1 : Int32) : Prop := (S_X7_of C q1 1 ∧ (bnd (F_X7_of C q1 1) (fun r1 => (vp_in (1410 + r1) 1787 ∧ lpS (fun (z : Int32 × Int32 × Int32) => st_X7_resultOf_24 q1 C r1 z.1 z.2.1 z.2.2) (fun (z : Int32 × Int32 × Int32) => Sst_X7_resultOf_24 q1 C r1 z.1 z.2.1 z.2.2) (((C.1 0 400).toInt - (0 : Int32).toInt).toNat + 1) (0, 0, 0)))))
abbrev rmX7_resultOf : Room := { frames := 1, cells := 0, slots := 0, locals := 22 }
set_option maxHeartbeats 4000000 in
set_option maxRecDepth 100000 in
theorem c_X7_resultOf (l : Launch) (D : va_G) (cy : Nat → ClassId) (ad : Nat → Nat) (rest : va_W) (C : CS) (q1 : Int32) (hS : S_X7_resultOf C q1) : GMi l yX7_resultOf wsX7_resultOf rmX7_resultOf D cy [.ref (ad 0), .int q1] (MW cy ad C ++ rest) (fun (r : Int32) (_ : Unit) => r = F_X7_resultOf C q1) (fun _ => MW cy ad C ++ rest) := by
  refine GMi.intro cX7_resultOf 7 RX7 (by decide) rfl rfl (Nat.le_of_ble_eq_true rfl) ?_
  intro p e s m args below meth c A Q ls X hret hl hw
  have hx := X.1
  have hb := X.2.1
  have hl : lv_has ls 7 [(0, .ref (ad 0)), (1, .int q1)] := hl
  have inX7 : ∀ w ∈ wsX70, w ∈ wsX7_resultOf := fun w h => List.mem_cons_of_mem _ (List.mem_append_left _ (List.mem_append_right _ h))
  obtain ⟨sp, hsp⟩ : ∃ sp, sp = F_X7_resultOf C q1 := ⟨_, rfl⟩
  have hF := hsp.trans (F_X7_resultOf.eq_1 C q1)
  have hS := Eq.mp (S_X7_resultOf.eq_1 C q1) hS
  refine lv_aload_n hx hb dX7_resultOf_0 rfl (lv_at hl 0 rfl) ?_
  refine g_get (v := .ref (ad 1)) (C := RX7) (T := TX7) (N := 16) (ci := 9) X inX7 hw 0 rfl rfl 1 (by decide) (List.mem_of_getElem? (i := 1) rfl) rfl rfl dX7_resultOf_1 ?_
  refine lv_sipush (v := 1410) hx hb dX7_resultOf_4 (by decide) ?_
  refine lv_aload_n hx hb dX7_resultOf_7 rfl (lv_at hl 0 rfl) ?_
  refine lv_iload_n hx hb dX7_resultOf_8 rfl (lv_at hl 1 rfl) ?_
  refine lv_iconst (v := 1) hx hb dX7_resultOf_9 (by decide) ?_
  have hSc : S_X7_of C q1 1 := hS.1
  have hS := hS.2
  refine gcV_i (rest := [.int 1410, .ref (ad 1)]) X (c_X7_of l D cy ad rest C q1 1 hSc) gy_X7_of gX7_resultOf_X7_of ⟨rfl, rfl, Nat.le_of_ble_eq_true rfl, Nat.le_of_ble_eq_true rfl⟩ 0 rfl rfl rfl hl rfl (Nat.le_of_ble_eq_true rfl) dX7_resultOf_10 ⟨Nat.zero_le _, Nat.zero_le _⟩ hw (fun r1 _ H locs hr1 hw => ?_)
  have hr1 : r1 = F_X7_of C q1 1 := hr1
  have hF := hF.trans (bnd_eq hr1)
  try have hS := Eq.mp (bnd_eq hr1) hS
  refine lv_iadd hx hb dX7_resultOf_13 ?_
  refine g_iald X hw 1 rfl hS.1 dX7_resultOf_14 ?_
  have hS := hS.2
  refine lv_istore_n (lv' := [(2, .int (C.1 0 (1410 + r1).toNatClampNeg)), (0, .ref (ad 0)), (1, .int q1)]) hx hb dX7_resultOf_15 rfl hl (by decide) rfl (fun ls hl => ?_)
  refine lv_iconst (v := 0) hx hb dX7_resultOf_16 (by decide) ?_
  refine lv_istore_n (lv' := [(3, .int 0), (2, .int (C.1 0 (1410 + r1).toNatClampNeg)), (0, .ref (ad 0)), (1, .int q1)]) hx hb dX7_resultOf_17 rfl hl (by decide) rfl (fun ls hl => ?_)
  refine lv_iconst (v := 0) hx hb dX7_resultOf_18 (by decide) ?_
  refine lv_istore (lv' := [(4, .int 0), (3, .int 0), (2, .int (C.1 0 (1410 + r1).toNatClampNeg)), (0, .ref (ad 0)), (1, .int q1)]) hx hb dX7_resultOf_19 hl (by decide) rfl (fun ls hl => ?_)
  refine lv_iconst (v := 0) hx hb dX7_resultOf_21 (by decide) ?_
  refine lv_istore (lv' := [(5, .int 0), (4, .int 0), (3, .int 0), (2, .int (C.1 0 (1410 + r1).toNatClampNeg)), (0, .ref (ad 0)), (1, .int q1)]) hx hb dX7_resultOf_22 hl (by decide) rfl (fun ls hl => ?_)
  have L3 : ∀ (n3 : Nat) (v3_5 : Int32) (v3_4 : Int32) (v3_3 : Int32), sp = lp (fun (z : Int32 × Int32 × Int32) => st_X7_resultOf_24 q1 C r1 z.1 z.2.1 z.2.2) 0 n3 (v3_5, v3_4, v3_3) → lpS (fun (z : Int32 × Int32 × Int32) => st_X7_resultOf_24 q1 C r1 z.1 z.2.1 z.2.2) (fun (z : Int32 × Int32 × Int32) => Sst_X7_resultOf_24 q1 C r1 z.1 z.2.1 z.2.2) n3 (v3_5, v3_4, v3_3) → ∀ (H : Heap) (locs : List Loc) (ls : Array Slot), lv_has ls 7 [(5, .int v3_5), (4, .int v3_4), (3, .int v3_3), (2, .int (C.1 0 (1410 + r1).toNatClampNeg)), (0, .ref (ad 0)), (1, .int q1)] → gw D A s.heap (MW cy ad C ++ rest) H locs → W p l e rmX7_resultOf s m args below meth c H locs 0 0 Q (F0 m 24 ls []) := by
    intro n3
    induction n3 with
    | zero => intro v3_5 v3_4 v3_3 hF hL; exact False.elim hL
    | succ n3 ih3 =>
      intro v3_5 v3_4 v3_3 hF hL H locs ls hl hw
      have hT3 := st_X7_resultOf_24.eq_1 q1 C r1 v3_5 v3_4 v3_3
      have hLn3 := hL.2
      have hS := Eq.mp (Sst_X7_resultOf_24.eq_1 q1 C r1 v3_5 v3_4 v3_3) hL.1
      refine lv_iload hx hb dX7_resultOf_24 (lv_at hl 0 rfl) ?_
      refine lv_aload_n hx hb dX7_resultOf_26 rfl (lv_at hl 4 rfl) ?_
      refine g_get (v := .ref (ad 1)) (C := RX7) (T := TX7) (N := 16) (ci := 9) X inX7 hw 0 rfl rfl 1 (by decide) (List.mem_of_getElem? (i := 1) rfl) rfl rfl dX7_resultOf_27 ?_
      refine lv_sipush (v := 400) hx hb dX7_resultOf_30 (by decide) ?_
      refine g_ialdk (k := 400) rfl X hw 1 rfl (vk rfl) dX7_resultOf_33 ?_
      refine lv_icmp_ge (tgt := 121) hx hb dX7_resultOf_34 (by decide) (fun c4 => ?_) (fun c4 => ?_)
      · skip
        have hT3 := hT3.trans (if_pos c4)
        try have hS := Eq.mp (if_pos c4) hS
        refine lv_iload_n hx hb dX7_resultOf_121 rfl (lv_at hl 3 rfl) ?_
        refine lv_iconst (v := 3) hx hb dX7_resultOf_122 (by decide) ?_
        refine lv_icmp_ne (tgt := 130) hx hb dX7_resultOf_123 (by decide) (fun c5 => ?_) (fun c5 => ?_)
        · skip
          have hT3 := hT3.trans (if_neg c5)
          try have hS := Eq.mp (if_neg c5) hS
          refine lv_iload hx hb dX7_resultOf_130 (lv_at hl 1 rfl) ?_
          exact hret _ _ () _ _ _ dX7_resultOf_132 ((hF.trans (lp_r hT3)).symm.trans hsp) hw
        · skip
          have hT3 := hT3.trans (if_pos c5)
          try have hS := Eq.mp (if_pos c5) hS
          refine lv_iload_n hx hb dX7_resultOf_126 rfl (lv_at hl 2 rfl) ?_
          refine lv_goto (tgt := 132) hx hb dX7_resultOf_127 (by decide) ?_
          exact hret _ _ () _ _ _ dX7_resultOf_132 ((hF.trans (lp_r hT3)).symm.trans hsp) hw
      · skip
        have hT3 := hT3.trans (if_neg c4)
        try have hS := Eq.mp (if_neg c4) hS
        refine lv_aload_n hx hb dX7_resultOf_37 rfl (lv_at hl 4 rfl) ?_
        refine g_get (v := .ref (ad 1)) (C := RX7) (T := TX7) (N := 16) (ci := 9) X inX7 hw 0 rfl rfl 1 (by decide) (List.mem_of_getElem? (i := 1) rfl) rfl rfl dX7_resultOf_38 ?_
        refine lv_iconst (v := 4) hx hb dX7_resultOf_41 (by decide) ?_
        refine lv_iload hx hb dX7_resultOf_42 (lv_at hl 0 rfl) ?_
        refine lv_imul hx hb dX7_resultOf_44 ?_
        refine lv_iconst (v := 3) hx hb dX7_resultOf_45 (by decide) ?_
        refine lv_iadd hx hb dX7_resultOf_46 ?_
        refine g_iald X hw 1 rfl hS.1 dX7_resultOf_47 ?_
        have hS := hS.2
        refine lv_iload_n hx hb dX7_resultOf_48 rfl (lv_at hl 5 rfl) ?_
        refine lv_icmp_ne (tgt := 115) hx hb dX7_resultOf_49 (by decide) (fun c6 => ?_) (fun c6 => ?_)
        · skip
          have hT3 := hT3.trans (if_neg c6)
          try have hS := Eq.mp (if_neg c6) hS
          refine lv_iinc (v := (v3_5 + 1)) (lv' := [(5, .int (v3_5 + 1)), (4, .int v3_4), (3, .int v3_3), (2, .int (C.1 0 (1410 + r1).toNatClampNeg)), (0, .ref (ad 0)), (1, .int q1)]) hx hb dX7_resultOf_115 hl (k := 0) rfl rfl (by decide) rfl (fun ls hl => ?_)
          refine lv_goto (tgt := 24) hx hb dX7_resultOf_118 (by decide) ?_
          exact ih3 (v3_5 + 1) v3_4 v3_3 (hF.trans (lp_l hT3)) (hLn3 _ hT3) _ _ ls (lv_sub hl [0, 1, 2, 3, 4, 5] rfl) hw
        · skip
          have hT3 := hT3.trans (if_pos c6)
          try have hS := Eq.mp (if_pos c6) hS
          refine lv_aload_n hx hb dX7_resultOf_52 rfl (lv_at hl 4 rfl) ?_
          refine g_get (v := .ref (ad 1)) (C := RX7) (T := TX7) (N := 16) (ci := 9) X inX7 hw 0 rfl rfl 1 (by decide) (List.mem_of_getElem? (i := 1) rfl) rfl rfl dX7_resultOf_53 ?_
          refine lv_iconst (v := 4) hx hb dX7_resultOf_56 (by decide) ?_
          refine lv_iload hx hb dX7_resultOf_57 (lv_at hl 0 rfl) ?_
          refine lv_imul hx hb dX7_resultOf_59 ?_
          refine lv_iconst (v := 2) hx hb dX7_resultOf_60 (by decide) ?_
          refine lv_iadd hx hb dX7_resultOf_61 ?_
          refine g_iald X hw 1 rfl hS.1 dX7_resultOf_62 ?_
          have hS := hS.2
          refine lv_istore (lv' := [(6, .int (C.1 0 ((4 * v3_5) + 2).toNatClampNeg)), (5, .int v3_5), (4, .int v3_4), (3, .int v3_3), (2, .int (C.1 0 (1410 + r1).toNatClampNeg)), (0, .ref (ad 0)), (1, .int q1)]) hx hb dX7_resultOf_63 hl (by decide) rfl (fun ls hl => ?_)
          refine lv_iload_n hx hb dX7_resultOf_65 rfl (lv_at hl 4 rfl) ?_
          refine lv_if_ne (tgt := 77) hx hb dX7_resultOf_66 (by decide) (fun c7 => ?_) (fun c7 => ?_)
          · skip
            have hT3 := hT3.trans (if_neg c7)
            try have hS := Eq.mp (if_neg c7) hS
            refine lv_iload_n hx hb dX7_resultOf_77 rfl (lv_at hl 3 rfl) ?_
            refine lv_if_eq (tgt := 103) hx hb dX7_resultOf_78 (by decide) (fun c8 => ?_) (fun c8 => ?_)
            · skip
              have hT3 := hT3.trans (if_pos c8)
              try have hS := Eq.mp (if_pos c8) hS
              refine lv_iload hx hb dX7_resultOf_103 (lv_at hl 0 rfl) ?_
              refine lv_goto (tgt := 110) hx hb dX7_resultOf_105 (by decide) ?_
              refine lv_istore (lv' := [(4, .int (C.1 0 ((4 * v3_5) + 2).toNatClampNeg)), (6, .int (C.1 0 ((4 * v3_5) + 2).toNatClampNeg)), (5, .int v3_5), (3, .int v3_3), (2, .int (C.1 0 (1410 + r1).toNatClampNeg)), (0, .ref (ad 0)), (1, .int q1)]) hx hb dX7_resultOf_110 hl (by decide) rfl (fun ls hl => ?_)
              refine lv_iinc (v := (v3_3 + 1)) (lv' := [(3, .int (v3_3 + 1)), (4, .int (C.1 0 ((4 * v3_5) + 2).toNatClampNeg)), (6, .int (C.1 0 ((4 * v3_5) + 2).toNatClampNeg)), (5, .int v3_5), (2, .int (C.1 0 (1410 + r1).toNatClampNeg)), (0, .ref (ad 0)), (1, .int q1)]) hx hb dX7_resultOf_112 hl (k := 3) rfl rfl (by decide) rfl (fun ls hl => ?_)
              refine lv_iinc (v := (v3_5 + 1)) (lv' := [(5, .int (v3_5 + 1)), (3, .int (v3_3 + 1)), (4, .int (C.1 0 ((4 * v3_5) + 2).toNatClampNeg)), (6, .int (C.1 0 ((4 * v3_5) + 2).toNatClampNeg)), (2, .int (C.1 0 (1410 + r1).toNatClampNeg)), (0, .ref (ad 0)), (1, .int q1)]) hx hb dX7_resultOf_115 hl (k := 3) rfl rfl (by decide) rfl (fun ls hl => ?_)
              refine lv_goto (tgt := 24) hx hb dX7_resultOf_118 (by decide) ?_
              exact ih3 (v3_5 + 1) (C.1 0 ((4 * v3_5) + 2).toNatClampNeg) (v3_3 + 1) (hF.trans (lp_l hT3)) (hLn3 _ hT3) _ _ ls (lv_sub hl [0, 2, 1, 4, 5, 6] rfl) hw
            · skip
              have hT3 := hT3.trans (if_neg c8)
              try have hS := Eq.mp (if_neg c8) hS
              refine lv_iload_n hx hb dX7_resultOf_81 rfl (lv_at hl 4 rfl) ?_
              refine lv_iconst (v := 1) hx hb dX7_resultOf_82 (by decide) ?_
              refine lv_icmp_ne (tgt := 96) hx hb dX7_resultOf_83 (by decide) (fun c9 => ?_) (fun c9 => ?_)
              · skip
                have hT3 := hT3.trans (if_neg c9)
                try have hS := Eq.mp (if_neg c9) hS
                refine lv_iload hx hb dX7_resultOf_96 (lv_at hl 0 rfl) ?_
                refine lv_iload hx hb dX7_resultOf_98 (lv_at hl 2 rfl) ?_
                refine lv_icmp_ge (tgt := 108) hx hb dX7_resultOf_100 (by decide) (fun c10 => ?_) (fun c10 => ?_)
                · skip
                  have hT3 := hT3.trans (if_pos c10)
                  try have hS := Eq.mp (if_pos c10) hS
                  refine lv_iload hx hb dX7_resultOf_108 (lv_at hl 2 rfl) ?_
                  refine lv_istore (lv' := [(4, .int v3_4), (6, .int (C.1 0 ((4 * v3_5) + 2).toNatClampNeg)), (5, .int v3_5), (3, .int v3_3), (2, .int (C.1 0 (1410 + r1).toNatClampNeg)), (0, .ref (ad 0)), (1, .int q1)]) hx hb dX7_resultOf_110 hl (by decide) rfl (fun ls hl => ?_)
                  refine lv_iinc (v := (v3_3 + 1)) (lv' := [(3, .int (v3_3 + 1)), (4, .int v3_4), (6, .int (C.1 0 ((4 * v3_5) + 2).toNatClampNeg)), (5, .int v3_5), (2, .int (C.1 0 (1410 + r1).toNatClampNeg)), (0, .ref (ad 0)), (1, .int q1)]) hx hb dX7_resultOf_112 hl (k := 3) rfl rfl (by decide) rfl (fun ls hl => ?_)
                  refine lv_iinc (v := (v3_5 + 1)) (lv' := [(5, .int (v3_5 + 1)), (3, .int (v3_3 + 1)), (4, .int v3_4), (6, .int (C.1 0 ((4 * v3_5) + 2).toNatClampNeg)), (2, .int (C.1 0 (1410 + r1).toNatClampNeg)), (0, .ref (ad 0)), (1, .int q1)]) hx hb dX7_resultOf_115 hl (k := 3) rfl rfl (by decide) rfl (fun ls hl => ?_)
                  refine lv_goto (tgt := 24) hx hb dX7_resultOf_118 (by decide) ?_
                  exact ih3 (v3_5 + 1) v3_4 (v3_3 + 1) (hF.trans (lp_l hT3)) (hLn3 _ hT3) _ _ ls (lv_sub hl [0, 2, 1, 4, 5, 6] rfl) hw
                · skip
                  have hT3 := hT3.trans (if_neg c10)
                  try have hS := Eq.mp (if_neg c10) hS
                  refine lv_iload hx hb dX7_resultOf_103 (lv_at hl 0 rfl) ?_
                  refine lv_goto (tgt := 110) hx hb dX7_resultOf_105 (by decide) ?_
                  refine lv_istore (lv' := [(4, .int (C.1 0 ((4 * v3_5) + 2).toNatClampNeg)), (6, .int (C.1 0 ((4 * v3_5) + 2).toNatClampNeg)), (5, .int v3_5), (3, .int v3_3), (2, .int (C.1 0 (1410 + r1).toNatClampNeg)), (0, .ref (ad 0)), (1, .int q1)]) hx hb dX7_resultOf_110 hl (by decide) rfl (fun ls hl => ?_)
                  refine lv_iinc (v := (v3_3 + 1)) (lv' := [(3, .int (v3_3 + 1)), (4, .int (C.1 0 ((4 * v3_5) + 2).toNatClampNeg)), (6, .int (C.1 0 ((4 * v3_5) + 2).toNatClampNeg)), (5, .int v3_5), (2, .int (C.1 0 (1410 + r1).toNatClampNeg)), (0, .ref (ad 0)), (1, .int q1)]) hx hb dX7_resultOf_112 hl (k := 3) rfl rfl (by decide) rfl (fun ls hl => ?_)
                  refine lv_iinc (v := (v3_5 + 1)) (lv' := [(5, .int (v3_5 + 1)), (3, .int (v3_3 + 1)), (4, .int (C.1 0 ((4 * v3_5) + 2).toNatClampNeg)), (6, .int (C.1 0 ((4 * v3_5) + 2).toNatClampNeg)), (2, .int (C.1 0 (1410 + r1).toNatClampNeg)), (0, .ref (ad 0)), (1, .int q1)]) hx hb dX7_resultOf_115 hl (k := 3) rfl rfl (by decide) rfl (fun ls hl => ?_)
                  refine lv_goto (tgt := 24) hx hb dX7_resultOf_118 (by decide) ?_
                  exact ih3 (v3_5 + 1) (C.1 0 ((4 * v3_5) + 2).toNatClampNeg) (v3_3 + 1) (hF.trans (lp_l hT3)) (hLn3 _ hT3) _ _ ls (lv_sub hl [0, 2, 1, 4, 5, 6] rfl) hw
              · skip
                have hT3 := hT3.trans (if_pos c9)
                try have hS := Eq.mp (if_pos c9) hS
                refine lv_iload hx hb dX7_resultOf_86 (lv_at hl 0 rfl) ?_
                refine lv_iload hx hb dX7_resultOf_88 (lv_at hl 2 rfl) ?_
                refine lv_icmp_le (tgt := 108) hx hb dX7_resultOf_90 (by decide) (fun c11 => ?_) (fun c11 => ?_)
                · skip
                  have hT3 := hT3.trans (if_pos c11)
                  try have hS := Eq.mp (if_pos c11) hS
                  refine lv_iload hx hb dX7_resultOf_108 (lv_at hl 2 rfl) ?_
                  refine lv_istore (lv' := [(4, .int v3_4), (6, .int (C.1 0 ((4 * v3_5) + 2).toNatClampNeg)), (5, .int v3_5), (3, .int v3_3), (2, .int (C.1 0 (1410 + r1).toNatClampNeg)), (0, .ref (ad 0)), (1, .int q1)]) hx hb dX7_resultOf_110 hl (by decide) rfl (fun ls hl => ?_)
                  refine lv_iinc (v := (v3_3 + 1)) (lv' := [(3, .int (v3_3 + 1)), (4, .int v3_4), (6, .int (C.1 0 ((4 * v3_5) + 2).toNatClampNeg)), (5, .int v3_5), (2, .int (C.1 0 (1410 + r1).toNatClampNeg)), (0, .ref (ad 0)), (1, .int q1)]) hx hb dX7_resultOf_112 hl (k := 3) rfl rfl (by decide) rfl (fun ls hl => ?_)
                  refine lv_iinc (v := (v3_5 + 1)) (lv' := [(5, .int (v3_5 + 1)), (3, .int (v3_3 + 1)), (4, .int v3_4), (6, .int (C.1 0 ((4 * v3_5) + 2).toNatClampNeg)), (2, .int (C.1 0 (1410 + r1).toNatClampNeg)), (0, .ref (ad 0)), (1, .int q1)]) hx hb dX7_resultOf_115 hl (k := 3) rfl rfl (by decide) rfl (fun ls hl => ?_)
                  refine lv_goto (tgt := 24) hx hb dX7_resultOf_118 (by decide) ?_
                  exact ih3 (v3_5 + 1) v3_4 (v3_3 + 1) (hF.trans (lp_l hT3)) (hLn3 _ hT3) _ _ ls (lv_sub hl [0, 2, 1, 4, 5, 6] rfl) hw
                · skip
                  have hT3 := hT3.trans (if_neg c11)
                  try have hS := Eq.mp (if_neg c11) hS
                  refine lv_goto (tgt := 103) hx hb dX7_resultOf_93 (by decide) ?_
                  refine lv_iload hx hb dX7_resultOf_103 (lv_at hl 0 rfl) ?_
                  refine lv_goto (tgt := 110) hx hb dX7_resultOf_105 (by decide) ?_
                  refine lv_istore (lv' := [(4, .int (C.1 0 ((4 * v3_5) + 2).toNatClampNeg)), (6, .int (C.1 0 ((4 * v3_5) + 2).toNatClampNeg)), (5, .int v3_5), (3, .int v3_3), (2, .int (C.1 0 (1410 + r1).toNatClampNeg)), (0, .ref (ad 0)), (1, .int q1)]) hx hb dX7_resultOf_110 hl (by decide) rfl (fun ls hl => ?_)
                  refine lv_iinc (v := (v3_3 + 1)) (lv' := [(3, .int (v3_3 + 1)), (4, .int (C.1 0 ((4 * v3_5) + 2).toNatClampNeg)), (6, .int (C.1 0 ((4 * v3_5) + 2).toNatClampNeg)), (5, .int v3_5), (2, .int (C.1 0 (1410 + r1).toNatClampNeg)), (0, .ref (ad 0)), (1, .int q1)]) hx hb dX7_resultOf_112 hl (k := 3) rfl rfl (by decide) rfl (fun ls hl => ?_)
                  refine lv_iinc (v := (v3_5 + 1)) (lv' := [(5, .int (v3_5 + 1)), (3, .int (v3_3 + 1)), (4, .int (C.1 0 ((4 * v3_5) + 2).toNatClampNeg)), (6, .int (C.1 0 ((4 * v3_5) + 2).toNatClampNeg)), (2, .int (C.1 0 (1410 + r1).toNatClampNeg)), (0, .ref (ad 0)), (1, .int q1)]) hx hb dX7_resultOf_115 hl (k := 3) rfl rfl (by decide) rfl (fun ls hl => ?_)
                  refine lv_goto (tgt := 24) hx hb dX7_resultOf_118 (by decide) ?_
                  exact ih3 (v3_5 + 1) (C.1 0 ((4 * v3_5) + 2).toNatClampNeg) (v3_3 + 1) (hF.trans (lp_l hT3)) (hLn3 _ hT3) _ _ ls (lv_sub hl [0, 2, 1, 4, 5, 6] rfl) hw
          · skip
            have hT3 := hT3.trans (if_pos c7)
            try have hS := Eq.mp (if_pos c7) hS
            refine lv_iload hx hb dX7_resultOf_69 (lv_at hl 2 rfl) ?_
            refine lv_iload hx hb dX7_resultOf_71 (lv_at hl 0 rfl) ?_
            refine lv_iadd hx hb dX7_resultOf_73 ?_
            refine lv_goto (tgt := 110) hx hb dX7_resultOf_74 (by decide) ?_
            refine lv_istore (lv' := [(4, .int (v3_4 + (C.1 0 ((4 * v3_5) + 2).toNatClampNeg))), (6, .int (C.1 0 ((4 * v3_5) + 2).toNatClampNeg)), (5, .int v3_5), (3, .int v3_3), (2, .int (C.1 0 (1410 + r1).toNatClampNeg)), (0, .ref (ad 0)), (1, .int q1)]) hx hb dX7_resultOf_110 hl (by decide) rfl (fun ls hl => ?_)
            refine lv_iinc (v := (v3_3 + 1)) (lv' := [(3, .int (v3_3 + 1)), (4, .int (v3_4 + (C.1 0 ((4 * v3_5) + 2).toNatClampNeg))), (6, .int (C.1 0 ((4 * v3_5) + 2).toNatClampNeg)), (5, .int v3_5), (2, .int (C.1 0 (1410 + r1).toNatClampNeg)), (0, .ref (ad 0)), (1, .int q1)]) hx hb dX7_resultOf_112 hl (k := 3) rfl rfl (by decide) rfl (fun ls hl => ?_)
            refine lv_iinc (v := (v3_5 + 1)) (lv' := [(5, .int (v3_5 + 1)), (3, .int (v3_3 + 1)), (4, .int (v3_4 + (C.1 0 ((4 * v3_5) + 2).toNatClampNeg))), (6, .int (C.1 0 ((4 * v3_5) + 2).toNatClampNeg)), (2, .int (C.1 0 (1410 + r1).toNatClampNeg)), (0, .ref (ad 0)), (1, .int q1)]) hx hb dX7_resultOf_115 hl (k := 3) rfl rfl (by decide) rfl (fun ls hl => ?_)
            refine lv_goto (tgt := 24) hx hb dX7_resultOf_118 (by decide) ?_
            exact ih3 (v3_5 + 1) (v3_4 + (C.1 0 ((4 * v3_5) + 2).toNatClampNeg)) (v3_3 + 1) (hF.trans (lp_l hT3)) (hLn3 _ hT3) _ _ ls (lv_sub hl [0, 2, 1, 4, 5, 6] rfl) hw
  exact L3 _ 0 0 0 hF hS _ _ ls (lv_sub hl [0, 1, 2, 3, 4, 5] rfl) hw
theorem gy_X7_logs : gY yX7_logs RX7 cX7_logs 7 none wsX7_logs 5 := ⟨⟨_, rfl⟩, rfl, by decide +kernel, by decide +kernel, by decide +kernel⟩
def st_X7_logs_16 (q1 : Int32) (q2 : Int32) (q3 : Int32) (q4 : Int32) (q5 : Int32) (v15_6 : Int32) (w15 : CS) : (Int32 × CS) ⊕ CS := (if 354 ≤ v15_6 then (bnd (sR w15 0 (upd (w15.1 0) 1426 ((w15.1 0 1426) - 1))) (fun u17 => (bnd (sR u17 0 (upd (u17.1 0) (1427 + (6 * (u17.1 0 1426))).toNatClampNeg q1)) (fun u18 => (bnd (sR u18 0 (upd (u18.1 0) ((1427 + (6 * (u17.1 0 1426))) + 1).toNatClampNeg q2)) (fun u19 => (bnd (sR u19 0 (upd (u19.1 0) ((1427 + (6 * (u17.1 0 1426))) + 2).toNatClampNeg q3)) (fun u20 => (bnd (sR u20 0 (upd (u20.1 0) ((1427 + (6 * (u17.1 0 1426))) + 3).toNatClampNeg q4)) (fun u21 => (bnd (sR u21 0 (upd (u21.1 0) ((1427 + (6 * (u17.1 0 1426))) + 4).toNatClampNeg q5)) (fun u22 => (bnd (F_X7_of u22 q2 1) (fun r23 => (bnd (sR u22 0 (upd (u22.1 0) ((1427 + (6 * (u17.1 0 1426))) + 5).toNatClampNeg r23)) (fun u25 => (bnd (sR u25 0 (upd (u25.1 0) 1426 ((u25.1 0 1426) + 1))) (fun u26 => (bnd (sR u26 0 (upd (u26.1 0) (1423 + q1).toNatClampNeg ((u26.1 0 (1423 + q1).toNatClampNeg) + 1))) (fun u27 => (if q1 = 2 then (bnd (sL u27 0 (u27.2.2 0 + (-q3.toInt64))) (fun u30 => .inr (u30))) else (bnd (sL u27 0 (u27.2.2 0 + q3.toInt64)) (fun u29 => .inr (u29)))))))))))))))))))))))) else (bnd (sR w15 0 (upd (w15.1 0) (1427 + v15_6).toNatClampNeg (w15.1 0 ((1427 + v15_6) + 6).toNatClampNeg))) (fun u31 => .inl ((v15_6 + 1), u31))))
def Sst_X7_logs_16 (q1 : Int32) (q2 : Int32) (q3 : Int32) (q4 : Int32) (q5 : Int32) (v15_6 : Int32) (w15 : CS) : Prop := (if 354 ≤ v15_6 then (bnd (sR w15 0 (upd (w15.1 0) 1426 ((w15.1 0 1426) - 1))) (fun u17 => (vp_in (1427 + (6 * (u17.1 0 1426))) 1787 ∧ (bnd (sR u17 0 (upd (u17.1 0) (1427 + (6 * (u17.1 0 1426))).toNatClampNeg q1)) (fun u18 => (vp_in ((1427 + (6 * (u17.1 0 1426))) + 1) 1787 ∧ (bnd (sR u18 0 (upd (u18.1 0) ((1427 + (6 * (u17.1 0 1426))) + 1).toNatClampNeg q2)) (fun u19 => (vp_in ((1427 + (6 * (u17.1 0 1426))) + 2) 1787 ∧ (bnd (sR u19 0 (upd (u19.1 0) ((1427 + (6 * (u17.1 0 1426))) + 2).toNatClampNeg q3)) (fun u20 => (vp_in ((1427 + (6 * (u17.1 0 1426))) + 3) 1787 ∧ (bnd (sR u20 0 (upd (u20.1 0) ((1427 + (6 * (u17.1 0 1426))) + 3).toNatClampNeg q4)) (fun u21 => (vp_in ((1427 + (6 * (u17.1 0 1426))) + 4) 1787 ∧ (bnd (sR u21 0 (upd (u21.1 0) ((1427 + (6 * (u17.1 0 1426))) + 4).toNatClampNeg q5)) (fun u22 => (S_X7_of u22 q2 1 ∧ (bnd (F_X7_of u22 q2 1) (fun r23 => (vp_in ((1427 + (6 * (u17.1 0 1426))) + 5) 1787 ∧ (bnd (sR u22 0 (upd (u22.1 0) ((1427 + (6 * (u17.1 0 1426))) + 5).toNatClampNeg r23)) (fun u25 => (bnd (sR u25 0 (upd (u25.1 0) 1426 ((u25.1 0 1426) + 1))) (fun u26 => (vp_in (1423 + q1) 1787 ∧ (vp_in (1423 + q1) 1787 ∧ True))))))))))))))))))))))))))) else (vp_in ((1427 + v15_6) + 6) 1787 ∧ (vp_in (1427 + v15_6) 1787 ∧ True)))
def F_X7_logs (C : CS) (q1 : Int32) (q2 : Int32) (q3 : Int32) (q4 : Int32) (q5 : Int32) : CS := (if (C.1 0 1426) = 60 then lp (fun (z : Int32 × CS) => st_X7_logs_16 q1 q2 q3 q4 q5 z.1 z.2) C (((354 : Int32).toInt - (0 : Int32).toInt).toNat + 1) (0, C) else (bnd (sR C 0 (upd (C.1 0) (1427 + (6 * (C.1 0 1426))).toNatClampNeg q1)) (fun u2 => (bnd (sR u2 0 (upd (u2.1 0) ((1427 + (6 * (C.1 0 1426))) + 1).toNatClampNeg q2)) (fun u3 => (bnd (sR u3 0 (upd (u3.1 0) ((1427 + (6 * (C.1 0 1426))) + 2).toNatClampNeg q3)) (fun u4 => (bnd (sR u4 0 (upd (u4.1 0) ((1427 + (6 * (C.1 0 1426))) + 3).toNatClampNeg q4)) (fun u5 => (bnd (sR u5 0 (upd (u5.1 0) ((1427 + (6 * (C.1 0 1426))) + 4).toNatClampNeg q5)) (fun u6 => (bnd (F_X7_of u6 q2 1) (fun r7 => (bnd (sR u6 0 (upd (u6.1 0) ((1427 + (6 * (C.1 0 1426))) + 5).toNatClampNeg r7)) (fun u9 => (bnd (sR u9 0 (upd (u9.1 0) 1426 ((u9.1 0 1426) + 1))) (fun u10 => (bnd (sR u10 0 (upd (u10.1 0) (1423 + q1).toNatClampNeg ((u10.1 0 (1423 + q1).toNatClampNeg) + 1))) (fun u11 => (if q1 = 2 then (bnd (sL u11 0 (u11.2.2 0 + (-q3.toInt64))) (fun u14 => u14)) else (bnd (sL u11 0 (u11.2.2 0 + q3.toInt64)) (fun u13 => u13))))))))))))))))))))))
def S_X7_logs (C : CS) (q1 : Int32) (q2 : Int32) (q3 : Int32) (q4 : Int32) (q5 : Int32) : Prop := (if (C.1 0 1426) = 60 then lpS (fun (z : Int32 × CS) => st_X7_logs_16 q1 q2 q3 q4 q5 z.1 z.2) (fun (z : Int32 × CS) => Sst_X7_logs_16 q1 q2 q3 q4 q5 z.1 z.2) (((354 : Int32).toInt - (0 : Int32).toInt).toNat + 1) (0, C) else (vp_in (1427 + (6 * (C.1 0 1426))) 1787 ∧ (bnd (sR C 0 (upd (C.1 0) (1427 + (6 * (C.1 0 1426))).toNatClampNeg q1)) (fun u2 => (vp_in ((1427 + (6 * (C.1 0 1426))) + 1) 1787 ∧ (bnd (sR u2 0 (upd (u2.1 0) ((1427 + (6 * (C.1 0 1426))) + 1).toNatClampNeg q2)) (fun u3 => (vp_in ((1427 + (6 * (C.1 0 1426))) + 2) 1787 ∧ (bnd (sR u3 0 (upd (u3.1 0) ((1427 + (6 * (C.1 0 1426))) + 2).toNatClampNeg q3)) (fun u4 => (vp_in ((1427 + (6 * (C.1 0 1426))) + 3) 1787 ∧ (bnd (sR u4 0 (upd (u4.1 0) ((1427 + (6 * (C.1 0 1426))) + 3).toNatClampNeg q4)) (fun u5 => (vp_in ((1427 + (6 * (C.1 0 1426))) + 4) 1787 ∧ (bnd (sR u5 0 (upd (u5.1 0) ((1427 + (6 * (C.1 0 1426))) + 4).toNatClampNeg q5)) (fun u6 => (S_X7_of u6 q2 1 ∧ (bnd (F_X7_of u6 q2 1) (fun r7 => (vp_in ((1427 + (6 * (C.1 0 1426))) + 5) 1787 ∧ (bnd (sR u6 0 (upd (u6.1 0) ((1427 + (6 * (C.1 0 1426))) + 5).toNatClampNeg r7)) (fun u9 => (bnd (sR u9 0 (upd (u9.1 0) 1426 ((u9.1 0 1426) + 1))) (fun u10 => (vp_in (1423 + q1) 1787 ∧ (vp_in (1423 + q1) 1787 ∧ True))))))))))))))))))))))))))
abbrev rmX7_logs : Room := { frames := 1, cells := 0, slots := 0, locals := 22 }
set_option maxHeartbeats 4000000 in
set_option maxRecDepth 100000 in
theorem c_X7_logs (l : Launch) (D : va_G) (cy : Nat → ClassId) (ad : Nat → Nat) (rest : va_W) (C : CS) (q1 : Int32) (q2 : Int32) (q3 : Int32) (q4 : Int32) (q5 : Int32) (hS : S_X7_logs C q1 q2 q3 q4 q5) : GMv l yX7_logs wsX7_logs rmX7_logs D cy [.ref (ad 0), .int q1, .int q2, .int q3, .int q4, .int q5] (MW cy ad C ++ rest) (fun (u : CS) => u = F_X7_logs C q1 q2 q3 q4 q5) (fun u => MW cy ad u ++ rest) := by
  refine GMv.intro cX7_logs 7 RX7 (by decide) rfl rfl (Nat.le_of_ble_eq_true rfl) ?_
  intro p e s m args below meth c A Q ls X hret hl hw
  have hx := X.1
  have hb := X.2.1
  have hl : lv_has ls 7 [(0, .ref (ad 0)), (1, .int q1), (2, .int q2), (3, .int q3), (4, .int q4), (5, .int q5)] := hl
  have inX7 : ∀ w ∈ wsX70, w ∈ wsX7_logs := fun w h => List.mem_cons_of_mem _ (List.mem_append_left _ (List.mem_append_right _ h))
  obtain ⟨sp, hsp⟩ : ∃ sp, sp = F_X7_logs C q1 q2 q3 q4 q5 := ⟨_, rfl⟩
  have hF := hsp.trans (F_X7_logs.eq_1 C q1 q2 q3 q4 q5)
  have hS := Eq.mp (S_X7_logs.eq_1 C q1 q2 q3 q4 q5) hS
  refine lv_aload_n hx hb dX7_logs_0 rfl (lv_at hl 0 rfl) ?_
  refine g_get (v := .ref (ad 1)) (C := RX7) (T := TX7) (N := 16) (ci := 9) X inX7 hw 0 rfl rfl 1 (by decide) (List.mem_of_getElem? (i := 1) rfl) rfl rfl dX7_logs_1 ?_
  refine lv_sipush (v := 1426) hx hb dX7_logs_4 (by decide) ?_
  refine g_ialdk (k := 1426) rfl X hw 1 rfl (vk rfl) dX7_logs_7 ?_
  refine lv_bipush (v := 60) hx hb dX7_logs_8 (by decide) ?_
  refine lv_icmp_ne (tgt := 67) hx hb dX7_logs_10 (by decide) (fun c1 => ?_) (fun c1 => ?_)
  · skip
    have hF := hF.trans (if_neg c1)
    try have hS := Eq.mp (if_neg c1) hS
    refine lv_sipush (v := 1427) hx hb dX7_logs_67 (by decide) ?_
    refine lv_bipush (v := 6) hx hb dX7_logs_70 (by decide) ?_
    refine lv_aload_n hx hb dX7_logs_72 rfl (lv_at hl 0 rfl) ?_
    refine g_get (v := .ref (ad 1)) (C := RX7) (T := TX7) (N := 16) (ci := 9) X inX7 hw 0 rfl rfl 1 (by decide) (List.mem_of_getElem? (i := 1) rfl) rfl rfl dX7_logs_73 ?_
    refine lv_sipush (v := 1426) hx hb dX7_logs_76 (by decide) ?_
    refine g_ialdk (k := 1426) rfl X hw 1 rfl (vk rfl) dX7_logs_79 ?_
    refine lv_imul hx hb dX7_logs_80 ?_
    refine lv_iadd hx hb dX7_logs_81 ?_
    refine lv_istore (lv' := [(6, .int (1427 + (6 * (C.1 0 1426)))), (0, .ref (ad 0)), (1, .int q1), (2, .int q2), (3, .int q3), (4, .int q4), (5, .int q5)]) hx hb dX7_logs_82 hl (by decide) rfl (fun ls hl => ?_)
    refine lv_aload_n hx hb dX7_logs_84 rfl (lv_at hl 1 rfl) ?_
    refine g_get (v := .ref (ad 1)) (C := RX7) (T := TX7) (N := 16) (ci := 9) X inX7 hw 0 rfl rfl 1 (by decide) (List.mem_of_getElem? (i := 1) rfl) rfl rfl dX7_logs_85 ?_
    refine lv_iload hx hb dX7_logs_88 (lv_at hl 0 rfl) ?_
    refine lv_iload_n hx hb dX7_logs_90 rfl (lv_at hl 2 rfl) ?_
    refine g_iast (w' := MW cy ad (sR C 0 (upd (C.1 0) (1427 + (6 * (C.1 0 1426))).toNatClampNeg q1)) ++ rest) X hw 1 rfl hS.1 rfl dX7_logs_91 (fun H locs hw => ?_)
    have hS := hS.2
    obtain ⟨u2, hu2⟩ : ∃ z, z = sR C 0 (upd (C.1 0) (1427 + (6 * (C.1 0 1426))).toNatClampNeg q1) := ⟨_, rfl⟩
    rw [← hu2] at hw
    have hF := hF.trans (bnd_eq hu2)
    try have hS := Eq.mp (bnd_eq hu2) hS
    refine lv_aload_n hx hb dX7_logs_92 rfl (lv_at hl 1 rfl) ?_
    refine g_get (v := .ref (ad 1)) (C := RX7) (T := TX7) (N := 16) (ci := 9) X inX7 hw 0 rfl rfl 1 (by decide) (List.mem_of_getElem? (i := 1) rfl) rfl rfl dX7_logs_93 ?_
    refine lv_iload hx hb dX7_logs_96 (lv_at hl 0 rfl) ?_
    refine lv_iconst (v := 1) hx hb dX7_logs_98 (by decide) ?_
    refine lv_iadd hx hb dX7_logs_99 ?_
    refine lv_iload_n hx hb dX7_logs_100 rfl (lv_at hl 3 rfl) ?_
    refine g_iast (w' := MW cy ad (sR u2 0 (upd (u2.1 0) ((1427 + (6 * (C.1 0 1426))) + 1).toNatClampNeg q2)) ++ rest) X hw 1 rfl hS.1 rfl dX7_logs_101 (fun H locs hw => ?_)
    have hS := hS.2
    obtain ⟨u3, hu3⟩ : ∃ z, z = sR u2 0 (upd (u2.1 0) ((1427 + (6 * (C.1 0 1426))) + 1).toNatClampNeg q2) := ⟨_, rfl⟩
    rw [← hu3] at hw
    have hF := hF.trans (bnd_eq hu3)
    try have hS := Eq.mp (bnd_eq hu3) hS
    refine lv_aload_n hx hb dX7_logs_102 rfl (lv_at hl 1 rfl) ?_
    refine g_get (v := .ref (ad 1)) (C := RX7) (T := TX7) (N := 16) (ci := 9) X inX7 hw 0 rfl rfl 1 (by decide) (List.mem_of_getElem? (i := 1) rfl) rfl rfl dX7_logs_103 ?_
    refine lv_iload hx hb dX7_logs_106 (lv_at hl 0 rfl) ?_
    refine lv_iconst (v := 2) hx hb dX7_logs_108 (by decide) ?_
    refine lv_iadd hx hb dX7_logs_109 ?_
    refine lv_iload_n hx hb dX7_logs_110 rfl (lv_at hl 4 rfl) ?_
    refine g_iast (w' := MW cy ad (sR u3 0 (upd (u3.1 0) ((1427 + (6 * (C.1 0 1426))) + 2).toNatClampNeg q3)) ++ rest) X hw 1 rfl hS.1 rfl dX7_logs_111 (fun H locs hw => ?_)
    have hS := hS.2
    obtain ⟨u4, hu4⟩ : ∃ z, z = sR u3 0 (upd (u3.1 0) ((1427 + (6 * (C.1 0 1426))) + 2).toNatClampNeg q3) := ⟨_, rfl⟩
    rw [← hu4] at hw
    have hF := hF.trans (bnd_eq hu4)
    try have hS := Eq.mp (bnd_eq hu4) hS
    refine lv_aload_n hx hb dX7_logs_112 rfl (lv_at hl 1 rfl) ?_
    refine g_get (v := .ref (ad 1)) (C := RX7) (T := TX7) (N := 16) (ci := 9) X inX7 hw 0 rfl rfl 1 (by decide) (List.mem_of_getElem? (i := 1) rfl) rfl rfl dX7_logs_113 ?_
    refine lv_iload hx hb dX7_logs_116 (lv_at hl 0 rfl) ?_
    refine lv_iconst (v := 3) hx hb dX7_logs_118 (by decide) ?_
    refine lv_iadd hx hb dX7_logs_119 ?_
    refine lv_iload hx hb dX7_logs_120 (lv_at hl 5 rfl) ?_
    refine g_iast (w' := MW cy ad (sR u4 0 (upd (u4.1 0) ((1427 + (6 * (C.1 0 1426))) + 3).toNatClampNeg q4)) ++ rest) X hw 1 rfl hS.1 rfl dX7_logs_122 (fun H locs hw => ?_)
    have hS := hS.2
    obtain ⟨u5, hu5⟩ : ∃ z, z = sR u4 0 (upd (u4.1 0) ((1427 + (6 * (C.1 0 1426))) + 3).toNatClampNeg q4) := ⟨_, rfl⟩
    rw [← hu5] at hw
    have hF := hF.trans (bnd_eq hu5)
    try have hS := Eq.mp (bnd_eq hu5) hS
    refine lv_aload_n hx hb dX7_logs_123 rfl (lv_at hl 1 rfl) ?_
    refine g_get (v := .ref (ad 1)) (C := RX7) (T := TX7) (N := 16) (ci := 9) X inX7 hw 0 rfl rfl 1 (by decide) (List.mem_of_getElem? (i := 1) rfl) rfl rfl dX7_logs_124 ?_
    refine lv_iload hx hb dX7_logs_127 (lv_at hl 0 rfl) ?_
    refine lv_iconst (v := 4) hx hb dX7_logs_129 (by decide) ?_
    refine lv_iadd hx hb dX7_logs_130 ?_
    refine lv_iload hx hb dX7_logs_131 (lv_at hl 6 rfl) ?_
    refine g_iast (w' := MW cy ad (sR u5 0 (upd (u5.1 0) ((1427 + (6 * (C.1 0 1426))) + 4).toNatClampNeg q5)) ++ rest) X hw 1 rfl hS.1 rfl dX7_logs_133 (fun H locs hw => ?_)
    have hS := hS.2
    obtain ⟨u6, hu6⟩ : ∃ z, z = sR u5 0 (upd (u5.1 0) ((1427 + (6 * (C.1 0 1426))) + 4).toNatClampNeg q5) := ⟨_, rfl⟩
    rw [← hu6] at hw
    have hF := hF.trans (bnd_eq hu6)
    try have hS := Eq.mp (bnd_eq hu6) hS
    refine lv_aload_n hx hb dX7_logs_134 rfl (lv_at hl 1 rfl) ?_
    refine g_get (v := .ref (ad 1)) (C := RX7) (T := TX7) (N := 16) (ci := 9) X inX7 hw 0 rfl rfl 1 (by decide) (List.mem_of_getElem? (i := 1) rfl) rfl rfl dX7_logs_135 ?_
    refine lv_iload hx hb dX7_logs_138 (lv_at hl 0 rfl) ?_
    refine lv_iconst (v := 5) hx hb dX7_logs_140 (by decide) ?_
    refine lv_iadd hx hb dX7_logs_141 ?_
    refine lv_aload_n hx hb dX7_logs_142 rfl (lv_at hl 1 rfl) ?_
    refine lv_iload_n hx hb dX7_logs_143 rfl (lv_at hl 3 rfl) ?_
    refine lv_iconst (v := 1) hx hb dX7_logs_144 (by decide) ?_
    have hSc : S_X7_of u6 q2 1 := hS.1
    have hS := hS.2
    refine gcV_i (rest := [.int ((1427 + (6 * (C.1 0 1426))) + 5), .ref (ad 1)]) X (c_X7_of l D cy ad rest u6 q2 1 hSc) gy_X7_of gX7_logs_X7_of ⟨rfl, rfl, Nat.le_of_ble_eq_true rfl, Nat.le_of_ble_eq_true rfl⟩ 0 rfl rfl rfl hl rfl (Nat.le_of_ble_eq_true rfl) dX7_logs_145 ⟨Nat.zero_le _, Nat.zero_le _⟩ hw (fun r7 _ H locs hr7 hw => ?_)
    have hr7 : r7 = F_X7_of u6 q2 1 := hr7
    have hF := hF.trans (bnd_eq hr7)
    try have hS := Eq.mp (bnd_eq hr7) hS
    refine g_iast (w' := MW cy ad (sR u6 0 (upd (u6.1 0) ((1427 + (6 * (C.1 0 1426))) + 5).toNatClampNeg r7)) ++ rest) X hw 1 rfl hS.1 rfl dX7_logs_148 (fun H locs hw => ?_)
    have hS := hS.2
    obtain ⟨u9, hu9⟩ : ∃ z, z = sR u6 0 (upd (u6.1 0) ((1427 + (6 * (C.1 0 1426))) + 5).toNatClampNeg r7) := ⟨_, rfl⟩
    rw [← hu9] at hw
    have hF := hF.trans (bnd_eq hu9)
    try have hS := Eq.mp (bnd_eq hu9) hS
    refine lv_aload_n hx hb dX7_logs_149 rfl (lv_at hl 1 rfl) ?_
    refine g_get (v := .ref (ad 1)) (C := RX7) (T := TX7) (N := 16) (ci := 9) X inX7 hw 0 rfl rfl 1 (by decide) (List.mem_of_getElem? (i := 1) rfl) rfl rfl dX7_logs_150 ?_
    refine lv_sipush (v := 1426) hx hb dX7_logs_153 (by decide) ?_
    refine lv_dup2_11 hx hb dX7_logs_156 rfl rfl ?_
    refine g_ialdk (k := 1426) rfl X hw 1 rfl (vk rfl) dX7_logs_157 ?_
    refine lv_iconst (v := 1) hx hb dX7_logs_158 (by decide) ?_
    refine lv_iadd hx hb dX7_logs_159 ?_
    refine g_iastk (k := 1426) rfl (w' := MW cy ad (sR u9 0 (upd (u9.1 0) 1426 ((u9.1 0 1426) + 1))) ++ rest) X hw 1 rfl (vk rfl) rfl dX7_logs_160 (fun H locs hw => ?_)
    obtain ⟨u10, hu10⟩ : ∃ z, z = sR u9 0 (upd (u9.1 0) 1426 ((u9.1 0 1426) + 1)) := ⟨_, rfl⟩
    rw [← hu10] at hw
    have hF := hF.trans (bnd_eq hu10)
    try have hS := Eq.mp (bnd_eq hu10) hS
    refine lv_aload_n hx hb dX7_logs_161 rfl (lv_at hl 1 rfl) ?_
    refine g_get (v := .ref (ad 1)) (C := RX7) (T := TX7) (N := 16) (ci := 9) X inX7 hw 0 rfl rfl 1 (by decide) (List.mem_of_getElem? (i := 1) rfl) rfl rfl dX7_logs_162 ?_
    refine lv_sipush (v := 1423) hx hb dX7_logs_165 (by decide) ?_
    refine lv_iload_n hx hb dX7_logs_168 rfl (lv_at hl 2 rfl) ?_
    refine lv_iadd hx hb dX7_logs_169 ?_
    refine lv_dup2_11 hx hb dX7_logs_170 rfl rfl ?_
    refine g_iald X hw 1 rfl hS.1 dX7_logs_171 ?_
    have hS := hS.2
    refine lv_iconst (v := 1) hx hb dX7_logs_172 (by decide) ?_
    refine lv_iadd hx hb dX7_logs_173 ?_
    refine g_iast (w' := MW cy ad (sR u10 0 (upd (u10.1 0) (1423 + q1).toNatClampNeg ((u10.1 0 (1423 + q1).toNatClampNeg) + 1))) ++ rest) X hw 1 rfl hS.1 rfl dX7_logs_174 (fun H locs hw => ?_)
    have hS := hS.2
    obtain ⟨u11, hu11⟩ : ∃ z, z = sR u10 0 (upd (u10.1 0) (1423 + q1).toNatClampNeg ((u10.1 0 (1423 + q1).toNatClampNeg) + 1)) := ⟨_, rfl⟩
    rw [← hu11] at hw
    have hF := hF.trans (bnd_eq hu11)
    try have hS := Eq.mp (bnd_eq hu11) hS
    refine lv_aload_n hx hb dX7_logs_175 rfl (lv_at hl 1 rfl) ?_
    refine lv_dup hx hb dX7_logs_176 rfl ?_
    refine g_get (v := .long (u11.2.2 0)) (C := RX7) (T := TX7) (N := 16) (ci := 9) X inX7 hw 0 rfl rfl 2 (by decide) (List.mem_of_getElem? (i := 2) rfl) rfl rfl dX7_logs_177 ?_
    refine lv_iload_n hx hb dX7_logs_180 rfl (lv_at hl 2 rfl) ?_
    refine lv_iconst (v := 2) hx hb dX7_logs_181 (by decide) ?_
    refine lv_icmp_ne (tgt := 191) hx hb dX7_logs_182 (by decide) (fun c12 => ?_) (fun c12 => ?_)
    · skip
      have hF := hF.trans (if_neg c12)
      try have hS := Eq.mp (if_neg c12) hS
      refine lv_iload_n hx hb dX7_logs_191 rfl (lv_at hl 4 rfl) ?_
      refine lv_i2l (v := q3.toInt64) hx hb dX7_logs_192 rfl ?_
      refine lv_ladd hx hb dX7_logs_193 ?_
      refine g_put (v := .long (u11.2.2 0 + q3.toInt64)) (C := RX7) (T := TX7) (N := 16) (ci := 9) (w' := MW cy ad (sL u11 0 (u11.2.2 0 + q3.toInt64)) ++ rest) X inX7 tyX7 tyX7_ok nmX7 hw 0 rfl rfl 2 (by decide) (List.mem_of_getElem? (i := 2) rfl) rfl rfl rfl rfl (Nat.le_of_ble_eq_true rfl) rfl dX7_logs_194 (fun H locs hw => ?_)
      obtain ⟨u13, hu13⟩ : ∃ z, z = sL u11 0 (u11.2.2 0 + q3.toInt64) := ⟨_, rfl⟩
      rw [← hu13] at hw
      have hF := hF.trans (bnd_eq hu13)
      try have hS := Eq.mp (bnd_eq hu13) hS
      exact hret _ _ _ _ _ dX7_logs_197 (hF.symm.trans hsp) hw
    · skip
      have hF := hF.trans (if_pos c12)
      try have hS := Eq.mp (if_pos c12) hS
      refine lv_iload_n hx hb dX7_logs_185 rfl (lv_at hl 4 rfl) ?_
      refine lv_i2l (v := q3.toInt64) hx hb dX7_logs_186 rfl ?_
      refine lv_lneg hx hb dX7_logs_187 ?_
      refine lv_goto (tgt := 193) hx hb dX7_logs_188 (by decide) ?_
      refine lv_ladd hx hb dX7_logs_193 ?_
      refine g_put (v := .long (u11.2.2 0 + (-q3.toInt64))) (C := RX7) (T := TX7) (N := 16) (ci := 9) (w' := MW cy ad (sL u11 0 (u11.2.2 0 + (-q3.toInt64))) ++ rest) X inX7 tyX7 tyX7_ok nmX7 hw 0 rfl rfl 2 (by decide) (List.mem_of_getElem? (i := 2) rfl) rfl rfl rfl rfl (Nat.le_of_ble_eq_true rfl) rfl dX7_logs_194 (fun H locs hw => ?_)
      obtain ⟨u14, hu14⟩ : ∃ z, z = sL u11 0 (u11.2.2 0 + (-q3.toInt64)) := ⟨_, rfl⟩
      rw [← hu14] at hw
      have hF := hF.trans (bnd_eq hu14)
      try have hS := Eq.mp (bnd_eq hu14) hS
      exact hret _ _ _ _ _ dX7_logs_197 (hF.symm.trans hsp) hw
  · skip
    have hF := hF.trans (if_pos c1)
    try have hS := Eq.mp (if_pos c1) hS
    refine lv_iconst (v := 0) hx hb dX7_logs_13 (by decide) ?_
    refine lv_istore (lv' := [(6, .int 0), (0, .ref (ad 0)), (1, .int q1), (2, .int q2), (3, .int q3), (4, .int q4), (5, .int q5)]) hx hb dX7_logs_14 hl (by decide) rfl (fun ls hl => ?_)
    have L15 : ∀ (n15 : Nat) (v15_6 : Int32) (w15 : CS), sp = lp (fun (z : Int32 × CS) => st_X7_logs_16 q1 q2 q3 q4 q5 z.1 z.2) C n15 (v15_6, w15) → lpS (fun (z : Int32 × CS) => st_X7_logs_16 q1 q2 q3 q4 q5 z.1 z.2) (fun (z : Int32 × CS) => Sst_X7_logs_16 q1 q2 q3 q4 q5 z.1 z.2) n15 (v15_6, w15) → ∀ (H : Heap) (locs : List Loc) (ls : Array Slot), lv_has ls 7 [(6, .int v15_6), (0, .ref (ad 0)), (1, .int q1), (2, .int q2), (3, .int q3), (4, .int q4), (5, .int q5)] → gw D A s.heap (MW cy ad w15 ++ rest) H locs → W p l e rmX7_logs s m args below meth c H locs 0 0 Q (F0 m 16 ls []) := by
      intro n15
      induction n15 with
      | zero => intro v15_6 w15 hF hL; exact False.elim hL
      | succ n15 ih15 =>
        intro v15_6 w15 hF hL H locs ls hl hw
        have hT15 := st_X7_logs_16.eq_1 q1 q2 q3 q4 q5 v15_6 w15
        have hLn15 := hL.2
        have hS := Eq.mp (Sst_X7_logs_16.eq_1 q1 q2 q3 q4 q5 v15_6 w15) hL.1
        refine lv_iload hx hb dX7_logs_16 (lv_at hl 0 rfl) ?_
        refine lv_sipush (v := 354) hx hb dX7_logs_18 (by decide) ?_
        refine lv_icmp_ge (tgt := 55) hx hb dX7_logs_21 (by decide) (fun c16 => ?_) (fun c16 => ?_)
        · skip
          have hT15 := hT15.trans (if_pos c16)
          try have hS := Eq.mp (if_pos c16) hS
          refine lv_aload_n hx hb dX7_logs_55 rfl (lv_at hl 1 rfl) ?_
          refine g_get (v := .ref (ad 1)) (C := RX7) (T := TX7) (N := 16) (ci := 9) X inX7 hw 0 rfl rfl 1 (by decide) (List.mem_of_getElem? (i := 1) rfl) rfl rfl dX7_logs_56 ?_
          refine lv_sipush (v := 1426) hx hb dX7_logs_59 (by decide) ?_
          refine lv_dup2_11 hx hb dX7_logs_62 rfl rfl ?_
          refine g_ialdk (k := 1426) rfl X hw 1 rfl (vk rfl) dX7_logs_63 ?_
          refine lv_iconst (v := 1) hx hb dX7_logs_64 (by decide) ?_
          refine lv_isub hx hb dX7_logs_65 ?_
          refine g_iastk (k := 1426) rfl (w' := MW cy ad (sR w15 0 (upd (w15.1 0) 1426 ((w15.1 0 1426) - 1))) ++ rest) X hw 1 rfl (vk rfl) rfl dX7_logs_66 (fun H locs hw => ?_)
          obtain ⟨u17, hu17⟩ : ∃ z, z = sR w15 0 (upd (w15.1 0) 1426 ((w15.1 0 1426) - 1)) := ⟨_, rfl⟩
          rw [← hu17] at hw
          have hT15 := hT15.trans (bnd_eq hu17)
          try have hS := Eq.mp (bnd_eq hu17) hS
          refine lv_sipush (v := 1427) hx hb dX7_logs_67 (by decide) ?_
          refine lv_bipush (v := 6) hx hb dX7_logs_70 (by decide) ?_
          refine lv_aload_n hx hb dX7_logs_72 rfl (lv_at hl 1 rfl) ?_
          refine g_get (v := .ref (ad 1)) (C := RX7) (T := TX7) (N := 16) (ci := 9) X inX7 hw 0 rfl rfl 1 (by decide) (List.mem_of_getElem? (i := 1) rfl) rfl rfl dX7_logs_73 ?_
          refine lv_sipush (v := 1426) hx hb dX7_logs_76 (by decide) ?_
          refine g_ialdk (k := 1426) rfl X hw 1 rfl (vk rfl) dX7_logs_79 ?_
          refine lv_imul hx hb dX7_logs_80 ?_
          refine lv_iadd hx hb dX7_logs_81 ?_
          refine lv_istore (lv' := [(6, .int (1427 + (6 * (u17.1 0 1426)))), (0, .ref (ad 0)), (1, .int q1), (2, .int q2), (3, .int q3), (4, .int q4), (5, .int q5)]) hx hb dX7_logs_82 hl (by decide) rfl (fun ls hl => ?_)
          refine lv_aload_n hx hb dX7_logs_84 rfl (lv_at hl 1 rfl) ?_
          refine g_get (v := .ref (ad 1)) (C := RX7) (T := TX7) (N := 16) (ci := 9) X inX7 hw 0 rfl rfl 1 (by decide) (List.mem_of_getElem? (i := 1) rfl) rfl rfl dX7_logs_85 ?_
          refine lv_iload hx hb dX7_logs_88 (lv_at hl 0 rfl) ?_
          refine lv_iload_n hx hb dX7_logs_90 rfl (lv_at hl 2 rfl) ?_
          refine g_iast (w' := MW cy ad (sR u17 0 (upd (u17.1 0) (1427 + (6 * (u17.1 0 1426))).toNatClampNeg q1)) ++ rest) X hw 1 rfl hS.1 rfl dX7_logs_91 (fun H locs hw => ?_)
          have hS := hS.2
          obtain ⟨u18, hu18⟩ : ∃ z, z = sR u17 0 (upd (u17.1 0) (1427 + (6 * (u17.1 0 1426))).toNatClampNeg q1) := ⟨_, rfl⟩
          rw [← hu18] at hw
          have hT15 := hT15.trans (bnd_eq hu18)
          try have hS := Eq.mp (bnd_eq hu18) hS
          refine lv_aload_n hx hb dX7_logs_92 rfl (lv_at hl 1 rfl) ?_
          refine g_get (v := .ref (ad 1)) (C := RX7) (T := TX7) (N := 16) (ci := 9) X inX7 hw 0 rfl rfl 1 (by decide) (List.mem_of_getElem? (i := 1) rfl) rfl rfl dX7_logs_93 ?_
          refine lv_iload hx hb dX7_logs_96 (lv_at hl 0 rfl) ?_
          refine lv_iconst (v := 1) hx hb dX7_logs_98 (by decide) ?_
          refine lv_iadd hx hb dX7_logs_99 ?_
          refine lv_iload_n hx hb dX7_logs_100 rfl (lv_at hl 3 rfl) ?_
          refine g_iast (w' := MW cy ad (sR u18 0 (upd (u18.1 0) ((1427 + (6 * (u17.1 0 1426))) + 1).toNatClampNeg q2)) ++ rest) X hw 1 rfl hS.1 rfl dX7_logs_101 (fun H locs hw => ?_)
          have hS := hS.2
          obtain ⟨u19, hu19⟩ : ∃ z, z = sR u18 0 (upd (u18.1 0) ((1427 + (6 * (u17.1 0 1426))) + 1).toNatClampNeg q2) := ⟨_, rfl⟩
          rw [← hu19] at hw
          have hT15 := hT15.trans (bnd_eq hu19)
          try have hS := Eq.mp (bnd_eq hu19) hS
          refine lv_aload_n hx hb dX7_logs_102 rfl (lv_at hl 1 rfl) ?_
          refine g_get (v := .ref (ad 1)) (C := RX7) (T := TX7) (N := 16) (ci := 9) X inX7 hw 0 rfl rfl 1 (by decide) (List.mem_of_getElem? (i := 1) rfl) rfl rfl dX7_logs_103 ?_
          refine lv_iload hx hb dX7_logs_106 (lv_at hl 0 rfl) ?_
          refine lv_iconst (v := 2) hx hb dX7_logs_108 (by decide) ?_
          refine lv_iadd hx hb dX7_logs_109 ?_
          refine lv_iload_n hx hb dX7_logs_110 rfl (lv_at hl 4 rfl) ?_
          refine g_iast (w' := MW cy ad (sR u19 0 (upd (u19.1 0) ((1427 + (6 * (u17.1 0 1426))) + 2).toNatClampNeg q3)) ++ rest) X hw 1 rfl hS.1 rfl dX7_logs_111 (fun H locs hw => ?_)
          have hS := hS.2
          obtain ⟨u20, hu20⟩ : ∃ z, z = sR u19 0 (upd (u19.1 0) ((1427 + (6 * (u17.1 0 1426))) + 2).toNatClampNeg q3) := ⟨_, rfl⟩
          rw [← hu20] at hw
          have hT15 := hT15.trans (bnd_eq hu20)
          try have hS := Eq.mp (bnd_eq hu20) hS
          refine lv_aload_n hx hb dX7_logs_112 rfl (lv_at hl 1 rfl) ?_
          refine g_get (v := .ref (ad 1)) (C := RX7) (T := TX7) (N := 16) (ci := 9) X inX7 hw 0 rfl rfl 1 (by decide) (List.mem_of_getElem? (i := 1) rfl) rfl rfl dX7_logs_113 ?_
          refine lv_iload hx hb dX7_logs_116 (lv_at hl 0 rfl) ?_
          refine lv_iconst (v := 3) hx hb dX7_logs_118 (by decide) ?_
          refine lv_iadd hx hb dX7_logs_119 ?_
          refine lv_iload hx hb dX7_logs_120 (lv_at hl 5 rfl) ?_
          refine g_iast (w' := MW cy ad (sR u20 0 (upd (u20.1 0) ((1427 + (6 * (u17.1 0 1426))) + 3).toNatClampNeg q4)) ++ rest) X hw 1 rfl hS.1 rfl dX7_logs_122 (fun H locs hw => ?_)
          have hS := hS.2
          obtain ⟨u21, hu21⟩ : ∃ z, z = sR u20 0 (upd (u20.1 0) ((1427 + (6 * (u17.1 0 1426))) + 3).toNatClampNeg q4) := ⟨_, rfl⟩
          rw [← hu21] at hw
          have hT15 := hT15.trans (bnd_eq hu21)
          try have hS := Eq.mp (bnd_eq hu21) hS
          refine lv_aload_n hx hb dX7_logs_123 rfl (lv_at hl 1 rfl) ?_
          refine g_get (v := .ref (ad 1)) (C := RX7) (T := TX7) (N := 16) (ci := 9) X inX7 hw 0 rfl rfl 1 (by decide) (List.mem_of_getElem? (i := 1) rfl) rfl rfl dX7_logs_124 ?_
          refine lv_iload hx hb dX7_logs_127 (lv_at hl 0 rfl) ?_
          refine lv_iconst (v := 4) hx hb dX7_logs_129 (by decide) ?_
          refine lv_iadd hx hb dX7_logs_130 ?_
          refine lv_iload hx hb dX7_logs_131 (lv_at hl 6 rfl) ?_
          refine g_iast (w' := MW cy ad (sR u21 0 (upd (u21.1 0) ((1427 + (6 * (u17.1 0 1426))) + 4).toNatClampNeg q5)) ++ rest) X hw 1 rfl hS.1 rfl dX7_logs_133 (fun H locs hw => ?_)
          have hS := hS.2
          obtain ⟨u22, hu22⟩ : ∃ z, z = sR u21 0 (upd (u21.1 0) ((1427 + (6 * (u17.1 0 1426))) + 4).toNatClampNeg q5) := ⟨_, rfl⟩
          rw [← hu22] at hw
          have hT15 := hT15.trans (bnd_eq hu22)
          try have hS := Eq.mp (bnd_eq hu22) hS
          refine lv_aload_n hx hb dX7_logs_134 rfl (lv_at hl 1 rfl) ?_
          refine g_get (v := .ref (ad 1)) (C := RX7) (T := TX7) (N := 16) (ci := 9) X inX7 hw 0 rfl rfl 1 (by decide) (List.mem_of_getElem? (i := 1) rfl) rfl rfl dX7_logs_135 ?_
          refine lv_iload hx hb dX7_logs_138 (lv_at hl 0 rfl) ?_
          refine lv_iconst (v := 5) hx hb dX7_logs_140 (by decide) ?_
          refine lv_iadd hx hb dX7_logs_141 ?_
          refine lv_aload_n hx hb dX7_logs_142 rfl (lv_at hl 1 rfl) ?_
          refine lv_iload_n hx hb dX7_logs_143 rfl (lv_at hl 3 rfl) ?_
          refine lv_iconst (v := 1) hx hb dX7_logs_144 (by decide) ?_
          have hSc : S_X7_of u22 q2 1 := hS.1
          have hS := hS.2
          refine gcV_i (rest := [.int ((1427 + (6 * (u17.1 0 1426))) + 5), .ref (ad 1)]) X (c_X7_of l D cy ad rest u22 q2 1 hSc) gy_X7_of gX7_logs_X7_of ⟨rfl, rfl, Nat.le_of_ble_eq_true rfl, Nat.le_of_ble_eq_true rfl⟩ 0 rfl rfl rfl hl rfl (Nat.le_of_ble_eq_true rfl) dX7_logs_145 ⟨Nat.zero_le _, Nat.zero_le _⟩ hw (fun r23 _ H locs hr23 hw => ?_)
          have hr23 : r23 = F_X7_of u22 q2 1 := hr23
          have hT15 := hT15.trans (bnd_eq hr23)
          try have hS := Eq.mp (bnd_eq hr23) hS
          refine g_iast (w' := MW cy ad (sR u22 0 (upd (u22.1 0) ((1427 + (6 * (u17.1 0 1426))) + 5).toNatClampNeg r23)) ++ rest) X hw 1 rfl hS.1 rfl dX7_logs_148 (fun H locs hw => ?_)
          have hS := hS.2
          obtain ⟨u25, hu25⟩ : ∃ z, z = sR u22 0 (upd (u22.1 0) ((1427 + (6 * (u17.1 0 1426))) + 5).toNatClampNeg r23) := ⟨_, rfl⟩
          rw [← hu25] at hw
          have hT15 := hT15.trans (bnd_eq hu25)
          try have hS := Eq.mp (bnd_eq hu25) hS
          refine lv_aload_n hx hb dX7_logs_149 rfl (lv_at hl 1 rfl) ?_
          refine g_get (v := .ref (ad 1)) (C := RX7) (T := TX7) (N := 16) (ci := 9) X inX7 hw 0 rfl rfl 1 (by decide) (List.mem_of_getElem? (i := 1) rfl) rfl rfl dX7_logs_150 ?_
          refine lv_sipush (v := 1426) hx hb dX7_logs_153 (by decide) ?_
          refine lv_dup2_11 hx hb dX7_logs_156 rfl rfl ?_
          refine g_ialdk (k := 1426) rfl X hw 1 rfl (vk rfl) dX7_logs_157 ?_
          refine lv_iconst (v := 1) hx hb dX7_logs_158 (by decide) ?_
          refine lv_iadd hx hb dX7_logs_159 ?_
          refine g_iastk (k := 1426) rfl (w' := MW cy ad (sR u25 0 (upd (u25.1 0) 1426 ((u25.1 0 1426) + 1))) ++ rest) X hw 1 rfl (vk rfl) rfl dX7_logs_160 (fun H locs hw => ?_)
          obtain ⟨u26, hu26⟩ : ∃ z, z = sR u25 0 (upd (u25.1 0) 1426 ((u25.1 0 1426) + 1)) := ⟨_, rfl⟩
          rw [← hu26] at hw
          have hT15 := hT15.trans (bnd_eq hu26)
          try have hS := Eq.mp (bnd_eq hu26) hS
          refine lv_aload_n hx hb dX7_logs_161 rfl (lv_at hl 1 rfl) ?_
          refine g_get (v := .ref (ad 1)) (C := RX7) (T := TX7) (N := 16) (ci := 9) X inX7 hw 0 rfl rfl 1 (by decide) (List.mem_of_getElem? (i := 1) rfl) rfl rfl dX7_logs_162 ?_
          refine lv_sipush (v := 1423) hx hb dX7_logs_165 (by decide) ?_
          refine lv_iload_n hx hb dX7_logs_168 rfl (lv_at hl 2 rfl) ?_
          refine lv_iadd hx hb dX7_logs_169 ?_
          refine lv_dup2_11 hx hb dX7_logs_170 rfl rfl ?_
          refine g_iald X hw 1 rfl hS.1 dX7_logs_171 ?_
          have hS := hS.2
          refine lv_iconst (v := 1) hx hb dX7_logs_172 (by decide) ?_
          refine lv_iadd hx hb dX7_logs_173 ?_
          refine g_iast (w' := MW cy ad (sR u26 0 (upd (u26.1 0) (1423 + q1).toNatClampNeg ((u26.1 0 (1423 + q1).toNatClampNeg) + 1))) ++ rest) X hw 1 rfl hS.1 rfl dX7_logs_174 (fun H locs hw => ?_)
          have hS := hS.2
          obtain ⟨u27, hu27⟩ : ∃ z, z = sR u26 0 (upd (u26.1 0) (1423 + q1).toNatClampNeg ((u26.1 0 (1423 + q1).toNatClampNeg) + 1)) := ⟨_, rfl⟩
          rw [← hu27] at hw
          have hT15 := hT15.trans (bnd_eq hu27)
          try have hS := Eq.mp (bnd_eq hu27) hS
          refine lv_aload_n hx hb dX7_logs_175 rfl (lv_at hl 1 rfl) ?_
          refine lv_dup hx hb dX7_logs_176 rfl ?_
          refine g_get (v := .long (u27.2.2 0)) (C := RX7) (T := TX7) (N := 16) (ci := 9) X inX7 hw 0 rfl rfl 2 (by decide) (List.mem_of_getElem? (i := 2) rfl) rfl rfl dX7_logs_177 ?_
          refine lv_iload_n hx hb dX7_logs_180 rfl (lv_at hl 2 rfl) ?_
          refine lv_iconst (v := 2) hx hb dX7_logs_181 (by decide) ?_
          refine lv_icmp_ne (tgt := 191) hx hb dX7_logs_182 (by decide) (fun c28 => ?_) (fun c28 => ?_)
          · skip
            have hT15 := hT15.trans (if_neg c28)
            try have hS := Eq.mp (if_neg c28) hS
            refine lv_iload_n hx hb dX7_logs_191 rfl (lv_at hl 4 rfl) ?_
            refine lv_i2l (v := q3.toInt64) hx hb dX7_logs_192 rfl ?_
            refine lv_ladd hx hb dX7_logs_193 ?_
            refine g_put (v := .long (u27.2.2 0 + q3.toInt64)) (C := RX7) (T := TX7) (N := 16) (ci := 9) (w' := MW cy ad (sL u27 0 (u27.2.2 0 + q3.toInt64)) ++ rest) X inX7 tyX7 tyX7_ok nmX7 hw 0 rfl rfl 2 (by decide) (List.mem_of_getElem? (i := 2) rfl) rfl rfl rfl rfl (Nat.le_of_ble_eq_true rfl) rfl dX7_logs_194 (fun H locs hw => ?_)
            obtain ⟨u29, hu29⟩ : ∃ z, z = sL u27 0 (u27.2.2 0 + q3.toInt64) := ⟨_, rfl⟩
            rw [← hu29] at hw
            have hT15 := hT15.trans (bnd_eq hu29)
            try have hS := Eq.mp (bnd_eq hu29) hS
            exact hret _ _ _ _ _ dX7_logs_197 ((hF.trans (lp_r hT15)).symm.trans hsp) hw
          · skip
            have hT15 := hT15.trans (if_pos c28)
            try have hS := Eq.mp (if_pos c28) hS
            refine lv_iload_n hx hb dX7_logs_185 rfl (lv_at hl 4 rfl) ?_
            refine lv_i2l (v := q3.toInt64) hx hb dX7_logs_186 rfl ?_
            refine lv_lneg hx hb dX7_logs_187 ?_
            refine lv_goto (tgt := 193) hx hb dX7_logs_188 (by decide) ?_
            refine lv_ladd hx hb dX7_logs_193 ?_
            refine g_put (v := .long (u27.2.2 0 + (-q3.toInt64))) (C := RX7) (T := TX7) (N := 16) (ci := 9) (w' := MW cy ad (sL u27 0 (u27.2.2 0 + (-q3.toInt64))) ++ rest) X inX7 tyX7 tyX7_ok nmX7 hw 0 rfl rfl 2 (by decide) (List.mem_of_getElem? (i := 2) rfl) rfl rfl rfl rfl (Nat.le_of_ble_eq_true rfl) rfl dX7_logs_194 (fun H locs hw => ?_)
            obtain ⟨u30, hu30⟩ : ∃ z, z = sL u27 0 (u27.2.2 0 + (-q3.toInt64)) := ⟨_, rfl⟩
            rw [← hu30] at hw
            have hT15 := hT15.trans (bnd_eq hu30)
            try have hS := Eq.mp (bnd_eq hu30) hS
            exact hret _ _ _ _ _ dX7_logs_197 ((hF.trans (lp_r hT15)).symm.trans hsp) hw
        · skip
          have hT15 := hT15.trans (if_neg c16)
          try have hS := Eq.mp (if_neg c16) hS
          refine lv_aload_n hx hb dX7_logs_24 rfl (lv_at hl 1 rfl) ?_
          refine g_get (v := .ref (ad 1)) (C := RX7) (T := TX7) (N := 16) (ci := 9) X inX7 hw 0 rfl rfl 1 (by decide) (List.mem_of_getElem? (i := 1) rfl) rfl rfl dX7_logs_25 ?_
          refine lv_sipush (v := 1427) hx hb dX7_logs_28 (by decide) ?_
          refine lv_iload hx hb dX7_logs_31 (lv_at hl 0 rfl) ?_
          refine lv_iadd hx hb dX7_logs_33 ?_
          refine lv_aload_n hx hb dX7_logs_34 rfl (lv_at hl 1 rfl) ?_
          refine g_get (v := .ref (ad 1)) (C := RX7) (T := TX7) (N := 16) (ci := 9) X inX7 hw 0 rfl rfl 1 (by decide) (List.mem_of_getElem? (i := 1) rfl) rfl rfl dX7_logs_35 ?_
          refine lv_sipush (v := 1427) hx hb dX7_logs_38 (by decide) ?_
          refine lv_iload hx hb dX7_logs_41 (lv_at hl 0 rfl) ?_
          refine lv_iadd hx hb dX7_logs_43 ?_
          refine lv_bipush (v := 6) hx hb dX7_logs_44 (by decide) ?_
          refine lv_iadd hx hb dX7_logs_46 ?_
          refine g_iald X hw 1 rfl hS.1 dX7_logs_47 ?_
          have hS := hS.2
          refine g_iast (w' := MW cy ad (sR w15 0 (upd (w15.1 0) (1427 + v15_6).toNatClampNeg (w15.1 0 ((1427 + v15_6) + 6).toNatClampNeg))) ++ rest) X hw 1 rfl hS.1 rfl dX7_logs_48 (fun H locs hw => ?_)
          have hS := hS.2
          obtain ⟨u31, hu31⟩ : ∃ z, z = sR w15 0 (upd (w15.1 0) (1427 + v15_6).toNatClampNeg (w15.1 0 ((1427 + v15_6) + 6).toNatClampNeg)) := ⟨_, rfl⟩
          rw [← hu31] at hw
          have hT15 := hT15.trans (bnd_eq hu31)
          try have hS := Eq.mp (bnd_eq hu31) hS
          refine lv_iinc (v := (v15_6 + 1)) (lv' := [(6, .int (v15_6 + 1)), (0, .ref (ad 0)), (1, .int q1), (2, .int q2), (3, .int q3), (4, .int q4), (5, .int q5)]) hx hb dX7_logs_49 hl (k := 0) rfl rfl (by decide) rfl (fun ls hl => ?_)
          refine lv_goto (tgt := 16) hx hb dX7_logs_52 (by decide) ?_
          exact ih15 (v15_6 + 1) u31 (hF.trans (lp_l hT15)) (hLn15 _ hT15) _ _ ls (lv_sub hl [0, 1, 2, 3, 4, 5, 6] rfl) hw
    exact L15 _ 0 C hF hS _ _ ls (lv_sub hl [0, 1, 2, 3, 4, 5, 6] rfl) hw
theorem gy_X7_takesBack : gY yX7_takesBack RX7 cX7_takesBack 2 none wsX7_takesBack 1 := ⟨⟨_, rfl⟩, rfl, by decide +kernel, by decide +kernel, by decide +kernel⟩
def F_X7_takesBack (C : CS) (q1 : Int32) : CS := (bnd (F_X7_of C q1 6) (fun r1 => (bnd (F_X7_of C q1 7) (fun r3 => (bnd (F_X7_of C q1 8) (fun r5 => (bnd (F_X7_logs C 2 q1 r1 r3 r5) (fun u8 => (bnd (F_X7_sets u8 q1 5 0) (fun u10 => u10))))))))))
def S_X7_takesBack (C : CS) (q1 : Int32) : Prop := (S_X7_of C q1 6 ∧ (bnd (F_X7_of C q1 6) (fun r1 => (S_X7_of C q1 7 ∧ (bnd (F_X7_of C q1 7) (fun r3 => (S_X7_of C q1 8 ∧ (bnd (F_X7_of C q1 8) (fun r5 => (S_X7_logs C 2 q1 r1 r3 r5 ∧ (bnd (F_X7_logs C 2 q1 r1 r3 r5) (fun u8 => (S_X7_sets u8 q1 5 0 ∧ True)))))))))))))
abbrev rmX7_takesBack : Room := { frames := 2, cells := 0, slots := 0, locals := 48 }
set_option maxHeartbeats 4000000 in
set_option maxRecDepth 100000 in
theorem c_X7_takesBack (l : Launch) (D : va_G) (cy : Nat → ClassId) (ad : Nat → Nat) (rest : va_W) (C : CS) (q1 : Int32) (hS : S_X7_takesBack C q1) : GMv l yX7_takesBack wsX7_takesBack rmX7_takesBack D cy [.ref (ad 0), .int q1] (MW cy ad C ++ rest) (fun (u : CS) => u = F_X7_takesBack C q1) (fun u => MW cy ad u ++ rest) := by
  refine GMv.intro cX7_takesBack 2 RX7 (by decide) rfl rfl (Nat.le_of_ble_eq_true rfl) ?_
  intro p e s m args below meth c A Q ls X hret hl hw
  have hx := X.1
  have hb := X.2.1
  have hl : lv_has ls 2 [(0, .ref (ad 0)), (1, .int q1)] := hl
  obtain ⟨sp, hsp⟩ : ∃ sp, sp = F_X7_takesBack C q1 := ⟨_, rfl⟩
  have hF := hsp.trans (F_X7_takesBack.eq_1 C q1)
  have hS := Eq.mp (S_X7_takesBack.eq_1 C q1) hS
  refine lv_aload_n hx hb dX7_takesBack_0 rfl (lv_at hl 0 rfl) ?_
  refine lv_iconst (v := 2) hx hb dX7_takesBack_1 (by decide) ?_
  refine lv_iload_n hx hb dX7_takesBack_2 rfl (lv_at hl 1 rfl) ?_
  refine lv_aload_n hx hb dX7_takesBack_3 rfl (lv_at hl 0 rfl) ?_
  refine lv_iload_n hx hb dX7_takesBack_4 rfl (lv_at hl 1 rfl) ?_
  refine lv_bipush (v := 6) hx hb dX7_takesBack_5 (by decide) ?_
  have hSc : S_X7_of C q1 6 := hS.1
  have hS := hS.2
  refine gcV_i (rest := [.int q1, .int 2, .ref (ad 0)]) X (c_X7_of l D cy ad rest C q1 6 hSc) gy_X7_of gX7_takesBack_X7_of ⟨rfl, rfl, Nat.le_of_ble_eq_true rfl, Nat.le_of_ble_eq_true rfl⟩ 0 rfl rfl rfl hl rfl (Nat.le_of_ble_eq_true rfl) dX7_takesBack_7 ⟨Nat.zero_le _, Nat.zero_le _⟩ hw (fun r1 _ H locs hr1 hw => ?_)
  have hr1 : r1 = F_X7_of C q1 6 := hr1
  have hF := hF.trans (bnd_eq hr1)
  try have hS := Eq.mp (bnd_eq hr1) hS
  refine lv_aload_n hx hb dX7_takesBack_10 rfl (lv_at hl 0 rfl) ?_
  refine lv_iload_n hx hb dX7_takesBack_11 rfl (lv_at hl 1 rfl) ?_
  refine lv_bipush (v := 7) hx hb dX7_takesBack_12 (by decide) ?_
  have hSc : S_X7_of C q1 7 := hS.1
  have hS := hS.2
  refine gcV_i (rest := [.int r1, .int q1, .int 2, .ref (ad 0)]) X (c_X7_of l D cy ad rest C q1 7 hSc) gy_X7_of gX7_takesBack_X7_of ⟨rfl, rfl, Nat.le_of_ble_eq_true rfl, Nat.le_of_ble_eq_true rfl⟩ 0 rfl rfl rfl hl rfl (Nat.le_of_ble_eq_true rfl) dX7_takesBack_14 ⟨Nat.zero_le _, Nat.zero_le _⟩ hw (fun r3 _ H locs hr3 hw => ?_)
  have hr3 : r3 = F_X7_of C q1 7 := hr3
  have hF := hF.trans (bnd_eq hr3)
  try have hS := Eq.mp (bnd_eq hr3) hS
  refine lv_aload_n hx hb dX7_takesBack_17 rfl (lv_at hl 0 rfl) ?_
  refine lv_iload_n hx hb dX7_takesBack_18 rfl (lv_at hl 1 rfl) ?_
  refine lv_bipush (v := 8) hx hb dX7_takesBack_19 (by decide) ?_
  have hSc : S_X7_of C q1 8 := hS.1
  have hS := hS.2
  refine gcV_i (rest := [.int r3, .int r1, .int q1, .int 2, .ref (ad 0)]) X (c_X7_of l D cy ad rest C q1 8 hSc) gy_X7_of gX7_takesBack_X7_of ⟨rfl, rfl, Nat.le_of_ble_eq_true rfl, Nat.le_of_ble_eq_true rfl⟩ 0 rfl rfl rfl hl rfl (Nat.le_of_ble_eq_true rfl) dX7_takesBack_21 ⟨Nat.zero_le _, Nat.zero_le _⟩ hw (fun r5 _ H locs hr5 hw => ?_)
  have hr5 : r5 = F_X7_of C q1 8 := hr5
  have hF := hF.trans (bnd_eq hr5)
  try have hS := Eq.mp (bnd_eq hr5) hS
  have hSc : S_X7_logs C 2 q1 r1 r3 r5 := hS.1
  have hS := hS.2
  refine gcV_v (rest := []) X (c_X7_logs l D cy ad rest C 2 q1 r1 r3 r5 hSc) gy_X7_logs gX7_takesBack_X7_logs ⟨rfl, rfl, Nat.le_of_ble_eq_true rfl, Nat.le_of_ble_eq_true rfl⟩ 0 rfl rfl rfl hl rfl (Nat.le_of_ble_eq_true rfl) dX7_takesBack_24 ⟨Nat.zero_le _, Nat.zero_le _⟩ hw (fun u8 H locs hu8 hw => ?_)
  have hu8 : u8 = F_X7_logs C 2 q1 r1 r3 r5 := hu8
  have hF := hF.trans (bnd_eq hu8)
  try have hS := Eq.mp (bnd_eq hu8) hS
  refine lv_aload_n hx hb dX7_takesBack_27 rfl (lv_at hl 0 rfl) ?_
  refine lv_iload_n hx hb dX7_takesBack_28 rfl (lv_at hl 1 rfl) ?_
  refine lv_iconst (v := 5) hx hb dX7_takesBack_29 (by decide) ?_
  refine lv_iconst (v := 0) hx hb dX7_takesBack_30 (by decide) ?_
  have hSc : S_X7_sets u8 q1 5 0 := hS.1
  have hS := hS.2
  refine gcV_v (rest := []) X (c_X7_sets l D cy ad rest u8 q1 5 0 hSc) gy_X7_sets gX7_takesBack_X7_sets ⟨rfl, rfl, Nat.le_of_ble_eq_true rfl, Nat.le_of_ble_eq_true rfl⟩ 0 rfl rfl rfl hl rfl (Nat.le_of_ble_eq_true rfl) dX7_takesBack_31 ⟨Nat.zero_le _, Nat.zero_le _⟩ hw (fun u10 H locs hu10 hw => ?_)
  have hu10 : u10 = F_X7_sets u8 q1 5 0 := hu10
  have hF := hF.trans (bnd_eq hu10)
  try have hS := Eq.mp (bnd_eq hu10) hS
  exact hret _ _ _ _ _ dX7_takesBack_34 (hF.symm.trans hsp) hw
theorem gy_X7_isOther : gY yX7_isOther RX7 cX7_isOther 2 (some .boolean) wsX7_isOther 1 := ⟨⟨_, rfl⟩, rfl, by decide +kernel, by decide +kernel, by decide +kernel⟩
def F_X7_isOther (C : CS) (q1 : Int32) : Int32 := (bnd (F_X7_of C q1 6) (fun r1 => (bnd (F_X7_resultOf C q1) (fun r3 => (if r1 = r3 then (bnd (F_X7_of C q1 7) (fun r6 => (bnd (F_X7_of C q1 2) (fun r8 => (if r6 = r8 then (bnd (F_X7_of C q1 8) (fun r11 => (bnd (F_X7_of C q1 3) (fun r13 => (if r11 = r13 then 0 else 1))))) else 1))))) else 1)))))
def S_X7_isOther (C : CS) (q1 : Int32) : Prop := (S_X7_of C q1 6 ∧ (bnd (F_X7_of C q1 6) (fun r1 => (S_X7_resultOf C q1 ∧ (bnd (F_X7_resultOf C q1) (fun r3 => (if r1 = r3 then (S_X7_of C q1 7 ∧ (bnd (F_X7_of C q1 7) (fun r6 => (S_X7_of C q1 2 ∧ (bnd (F_X7_of C q1 2) (fun r8 => (if r6 = r8 then (S_X7_of C q1 8 ∧ (bnd (F_X7_of C q1 8) (fun r11 => (S_X7_of C q1 3 ∧ True)))) else True))))))) else True)))))))
abbrev rmX7_isOther : Room := { frames := 2, cells := 0, slots := 0, locals := 48 }
set_option maxHeartbeats 4000000 in
set_option maxRecDepth 100000 in
theorem c_X7_isOther (l : Launch) (D : va_G) (cy : Nat → ClassId) (ad : Nat → Nat) (rest : va_W) (C : CS) (q1 : Int32) (hS : S_X7_isOther C q1) : GMi l yX7_isOther wsX7_isOther rmX7_isOther D cy [.ref (ad 0), .int q1] (MW cy ad C ++ rest) (fun (r : Int32) (_ : Unit) => r = F_X7_isOther C q1 ∧ (r = 0 ∨ r = 1)) (fun _ => MW cy ad C ++ rest) := by
  refine GMz.intro cX7_isOther 2 RX7 (by decide) rfl rfl (Nat.le_of_ble_eq_true rfl) ?_
  intro p e s m args below meth c A Q ls X hret hl hw
  have hx := X.1
  have hb := X.2.1
  have hl : lv_has ls 2 [(0, .ref (ad 0)), (1, .int q1)] := hl
  obtain ⟨sp, hsp⟩ : ∃ sp, sp = F_X7_isOther C q1 := ⟨_, rfl⟩
  have hF := hsp.trans (F_X7_isOther.eq_1 C q1)
  have hS := Eq.mp (S_X7_isOther.eq_1 C q1) hS
  refine lv_aload_n hx hb dX7_isOther_0 rfl (lv_at hl 0 rfl) ?_
  refine lv_iload_n hx hb dX7_isOther_1 rfl (lv_at hl 1 rfl) ?_
  refine lv_bipush (v := 6) hx hb dX7_isOther_2 (by decide) ?_
  have hSc : S_X7_of C q1 6 := hS.1
  have hS := hS.2
  refine gcV_i (rest := []) X (c_X7_of l D cy ad rest C q1 6 hSc) gy_X7_of gX7_isOther_X7_of ⟨rfl, rfl, Nat.le_of_ble_eq_true rfl, Nat.le_of_ble_eq_true rfl⟩ 0 rfl rfl rfl hl rfl (Nat.le_of_ble_eq_true rfl) dX7_isOther_4 ⟨Nat.zero_le _, Nat.zero_le _⟩ hw (fun r1 _ H locs hr1 hw => ?_)
  have hr1 : r1 = F_X7_of C q1 6 := hr1
  have hF := hF.trans (bnd_eq hr1)
  try have hS := Eq.mp (bnd_eq hr1) hS
  refine lv_aload_n hx hb dX7_isOther_7 rfl (lv_at hl 0 rfl) ?_
  refine lv_iload_n hx hb dX7_isOther_8 rfl (lv_at hl 1 rfl) ?_
  have hSc : S_X7_resultOf C q1 := hS.1
  have hS := hS.2
  refine gcV_i (rest := [.int r1]) X (c_X7_resultOf l D cy ad rest C q1 hSc) gy_X7_resultOf gX7_isOther_X7_resultOf ⟨rfl, rfl, Nat.le_of_ble_eq_true rfl, Nat.le_of_ble_eq_true rfl⟩ 0 rfl rfl rfl hl rfl (Nat.le_of_ble_eq_true rfl) dX7_isOther_9 ⟨Nat.zero_le _, Nat.zero_le _⟩ hw (fun r3 _ H locs hr3 hw => ?_)
  have hr3 : r3 = F_X7_resultOf C q1 := hr3
  have hF := hF.trans (bnd_eq hr3)
  try have hS := Eq.mp (bnd_eq hr3) hS
  refine lv_icmp_ne (tgt := 47) hx hb dX7_isOther_12 (by decide) (fun c5 => ?_) (fun c5 => ?_)
  · skip
    have hF := hF.trans (if_neg c5)
    try have hS := Eq.mp (if_neg c5) hS
    refine lv_iconst (v := 1) hx hb dX7_isOther_47 (by decide) ?_
    refine lv_goto (tgt := 52) hx hb dX7_isOther_48 (by decide) ?_
    exact hret _ _ () _ _ _ dX7_isOther_52 (Or.inr rfl) ⟨hF.symm.trans hsp, (Or.inr rfl)⟩ hw
  · skip
    have hF := hF.trans (if_pos c5)
    try have hS := Eq.mp (if_pos c5) hS
    refine lv_aload_n hx hb dX7_isOther_15 rfl (lv_at hl 0 rfl) ?_
    refine lv_iload_n hx hb dX7_isOther_16 rfl (lv_at hl 1 rfl) ?_
    refine lv_bipush (v := 7) hx hb dX7_isOther_17 (by decide) ?_
    have hSc : S_X7_of C q1 7 := hS.1
    have hS := hS.2
    refine gcV_i (rest := []) X (c_X7_of l D cy ad rest C q1 7 hSc) gy_X7_of gX7_isOther_X7_of ⟨rfl, rfl, Nat.le_of_ble_eq_true rfl, Nat.le_of_ble_eq_true rfl⟩ 0 rfl rfl rfl hl rfl (Nat.le_of_ble_eq_true rfl) dX7_isOther_19 ⟨Nat.zero_le _, Nat.zero_le _⟩ hw (fun r6 _ H locs hr6 hw => ?_)
    have hr6 : r6 = F_X7_of C q1 7 := hr6
    have hF := hF.trans (bnd_eq hr6)
    try have hS := Eq.mp (bnd_eq hr6) hS
    refine lv_aload_n hx hb dX7_isOther_22 rfl (lv_at hl 0 rfl) ?_
    refine lv_iload_n hx hb dX7_isOther_23 rfl (lv_at hl 1 rfl) ?_
    refine lv_iconst (v := 2) hx hb dX7_isOther_24 (by decide) ?_
    have hSc : S_X7_of C q1 2 := hS.1
    have hS := hS.2
    refine gcV_i (rest := [.int r6]) X (c_X7_of l D cy ad rest C q1 2 hSc) gy_X7_of gX7_isOther_X7_of ⟨rfl, rfl, Nat.le_of_ble_eq_true rfl, Nat.le_of_ble_eq_true rfl⟩ 0 rfl rfl rfl hl rfl (Nat.le_of_ble_eq_true rfl) dX7_isOther_25 ⟨Nat.zero_le _, Nat.zero_le _⟩ hw (fun r8 _ H locs hr8 hw => ?_)
    have hr8 : r8 = F_X7_of C q1 2 := hr8
    have hF := hF.trans (bnd_eq hr8)
    try have hS := Eq.mp (bnd_eq hr8) hS
    refine lv_icmp_ne (tgt := 47) hx hb dX7_isOther_28 (by decide) (fun c10 => ?_) (fun c10 => ?_)
    · skip
      have hF := hF.trans (if_neg c10)
      try have hS := Eq.mp (if_neg c10) hS
      refine lv_iconst (v := 1) hx hb dX7_isOther_47 (by decide) ?_
      refine lv_goto (tgt := 52) hx hb dX7_isOther_48 (by decide) ?_
      exact hret _ _ () _ _ _ dX7_isOther_52 (Or.inr rfl) ⟨hF.symm.trans hsp, (Or.inr rfl)⟩ hw
    · skip
      have hF := hF.trans (if_pos c10)
      try have hS := Eq.mp (if_pos c10) hS
      refine lv_aload_n hx hb dX7_isOther_31 rfl (lv_at hl 0 rfl) ?_
      refine lv_iload_n hx hb dX7_isOther_32 rfl (lv_at hl 1 rfl) ?_
      refine lv_bipush (v := 8) hx hb dX7_isOther_33 (by decide) ?_
      have hSc : S_X7_of C q1 8 := hS.1
      have hS := hS.2
      refine gcV_i (rest := []) X (c_X7_of l D cy ad rest C q1 8 hSc) gy_X7_of gX7_isOther_X7_of ⟨rfl, rfl, Nat.le_of_ble_eq_true rfl, Nat.le_of_ble_eq_true rfl⟩ 0 rfl rfl rfl hl rfl (Nat.le_of_ble_eq_true rfl) dX7_isOther_35 ⟨Nat.zero_le _, Nat.zero_le _⟩ hw (fun r11 _ H locs hr11 hw => ?_)
      have hr11 : r11 = F_X7_of C q1 8 := hr11
      have hF := hF.trans (bnd_eq hr11)
      try have hS := Eq.mp (bnd_eq hr11) hS
      refine lv_aload_n hx hb dX7_isOther_38 rfl (lv_at hl 0 rfl) ?_
      refine lv_iload_n hx hb dX7_isOther_39 rfl (lv_at hl 1 rfl) ?_
      refine lv_iconst (v := 3) hx hb dX7_isOther_40 (by decide) ?_
      have hSc : S_X7_of C q1 3 := hS.1
      have hS := hS.2
      refine gcV_i (rest := [.int r11]) X (c_X7_of l D cy ad rest C q1 3 hSc) gy_X7_of gX7_isOther_X7_of ⟨rfl, rfl, Nat.le_of_ble_eq_true rfl, Nat.le_of_ble_eq_true rfl⟩ 0 rfl rfl rfl hl rfl (Nat.le_of_ble_eq_true rfl) dX7_isOther_41 ⟨Nat.zero_le _, Nat.zero_le _⟩ hw (fun r13 _ H locs hr13 hw => ?_)
      have hr13 : r13 = F_X7_of C q1 3 := hr13
      have hF := hF.trans (bnd_eq hr13)
      try have hS := Eq.mp (bnd_eq hr13) hS
      refine lv_icmp_eq (tgt := 51) hx hb dX7_isOther_44 (by decide) (fun c15 => ?_) (fun c15 => ?_)
      · skip
        have hF := hF.trans (if_pos c15)
        try have hS := Eq.mp (if_pos c15) hS
        refine lv_iconst (v := 0) hx hb dX7_isOther_51 (by decide) ?_
        exact hret _ _ () _ _ _ dX7_isOther_52 (Or.inl rfl) ⟨hF.symm.trans hsp, (Or.inl rfl)⟩ hw
      · skip
        have hF := hF.trans (if_neg c15)
        try have hS := Eq.mp (if_neg c15) hS
        refine lv_iconst (v := 1) hx hb dX7_isOther_47 (by decide) ?_
        refine lv_goto (tgt := 52) hx hb dX7_isOther_48 (by decide) ?_
        exact hret _ _ () _ _ _ dX7_isOther_52 (Or.inr rfl) ⟨hF.symm.trans hsp, (Or.inr rfl)⟩ hw
theorem gy_X7_fires : gY yX7_fires RX7 cX7_fires 5 (some .int) wsX7_fires 2 := ⟨⟨_, rfl⟩, rfl, by decide +kernel, by decide +kernel, by decide +kernel⟩
def F_X7_fires (C : CS) (q1 : Int32) (q2 : Int32) : Int32 × CS := (bnd (F_X7_of C q2 5) (fun r1 => (if r1 = 1 then (bnd (F_X7_isOther C q2) (fun r28 => (if r28 = 0 then (if q1 = 0 then (0, C) else (if r28 = 0 then (bnd (F_X7_resultOf C q2) (fun r84 => (bnd (F_X7_of C q2 2) (fun r86 => (bnd (F_X7_of C q2 3) (fun r88 => (bnd (F_X7_logs C q1 q2 r84 r86 r88) (fun u91 => (bnd (F_X7_sets u91 q2 5 1) (fun u93 => (bnd (F_X7_sets u93 q2 6 r84) (fun u95 => (bnd (F_X7_of u95 q2 2) (fun r96 => (bnd (F_X7_sets u95 q2 7 r96) (fun u99 => (bnd (F_X7_of u99 q2 3) (fun r100 => (bnd (F_X7_sets u99 q2 8 r100) (fun u103 => (bnd (F_X7_of u103 q2 9) (fun r104 => (bnd (F_X7_sets u103 q2 9 (r104 + 1)) (fun u107 => ((0 + 1), u107))))))))))))))))))))))))) else (bnd (F_X7_takesBack C q2) (fun u109 => (bnd (F_X7_resultOf u109 q2) (fun r110 => (bnd (F_X7_of u109 q2 2) (fun r112 => (bnd (F_X7_of u109 q2 3) (fun r114 => (bnd (F_X7_logs u109 q1 q2 r110 r112 r114) (fun u117 => (bnd (F_X7_sets u117 q2 5 1) (fun u119 => (bnd (F_X7_sets u119 q2 6 r110) (fun u121 => (bnd (F_X7_of u121 q2 2) (fun r122 => (bnd (F_X7_sets u121 q2 7 r122) (fun u125 => (bnd (F_X7_of u125 q2 3) (fun r126 => (bnd (F_X7_sets u125 q2 8 r126) (fun u129 => (bnd (F_X7_of u129 q2 9) (fun r130 => (bnd (F_X7_sets u129 q2 9 (r130 + 1)) (fun u133 => (((0 + 1) + 1), u133))))))))))))))))))))))))))))) else (if r28 = 0 then (bnd (F_X7_resultOf C q2) (fun r32 => (bnd (F_X7_of C q2 2) (fun r34 => (bnd (F_X7_of C q2 3) (fun r36 => (bnd (F_X7_logs C q1 q2 r32 r34 r36) (fun u39 => (bnd (F_X7_sets u39 q2 5 1) (fun u41 => (bnd (F_X7_sets u41 q2 6 r32) (fun u43 => (bnd (F_X7_of u43 q2 2) (fun r44 => (bnd (F_X7_sets u43 q2 7 r44) (fun u47 => (bnd (F_X7_of u47 q2 3) (fun r48 => (bnd (F_X7_sets u47 q2 8 r48) (fun u51 => (bnd (F_X7_of u51 q2 9) (fun r52 => (bnd (F_X7_sets u51 q2 9 (r52 + 1)) (fun u55 => ((0 + 1), u55))))))))))))))))))))))))) else (bnd (F_X7_takesBack C q2) (fun u57 => (bnd (F_X7_resultOf u57 q2) (fun r58 => (bnd (F_X7_of u57 q2 2) (fun r60 => (bnd (F_X7_of u57 q2 3) (fun r62 => (bnd (F_X7_logs u57 q1 q2 r58 r60 r62) (fun u65 => (bnd (F_X7_sets u65 q2 5 1) (fun u67 => (bnd (F_X7_sets u67 q2 6 r58) (fun u69 => (bnd (F_X7_of u69 q2 2) (fun r70 => (bnd (F_X7_sets u69 q2 7 r70) (fun u73 => (bnd (F_X7_of u73 q2 3) (fun r74 => (bnd (F_X7_sets u73 q2 8 r74) (fun u77 => (bnd (F_X7_of u77 q2 9) (fun r78 => (bnd (F_X7_sets u77 q2 9 (r78 + 1)) (fun u81 => (((0 + 1) + 1), u81))))))))))))))))))))))))))))))) else (bnd (F_X7_resultOf C q2) (fun r4 => (bnd (F_X7_of C q2 2) (fun r6 => (bnd (F_X7_of C q2 3) (fun r8 => (bnd (F_X7_logs C q1 q2 r4 r6 r8) (fun u11 => (bnd (F_X7_sets u11 q2 5 1) (fun u13 => (bnd (F_X7_sets u13 q2 6 r4) (fun u15 => (bnd (F_X7_of u15 q2 2) (fun r16 => (bnd (F_X7_sets u15 q2 7 r16) (fun u19 => (bnd (F_X7_of u19 q2 3) (fun r20 => (bnd (F_X7_sets u19 q2 8 r20) (fun u23 => (bnd (F_X7_of u23 q2 9) (fun r24 => (bnd (F_X7_sets u23 q2 9 (r24 + 1)) (fun u27 => ((0 + 1), u27))))))))))))))))))))))))))))
def S_X7_fires (C : CS) (q1 : Int32) (q2 : Int32) : Prop := (S_X7_of C q2 5 ∧ (bnd (F_X7_of C q2 5) (fun r1 => (if r1 = 1 then (S_X7_isOther C q2 ∧ (bnd (F_X7_isOther C q2) (fun r28 => (if r28 = 0 then (if q1 = 0 then True else (if r28 = 0 then (S_X7_resultOf C q2 ∧ (bnd (F_X7_resultOf C q2) (fun r84 => (S_X7_of C q2 2 ∧ (bnd (F_X7_of C q2 2) (fun r86 => (S_X7_of C q2 3 ∧ (bnd (F_X7_of C q2 3) (fun r88 => (S_X7_logs C q1 q2 r84 r86 r88 ∧ (bnd (F_X7_logs C q1 q2 r84 r86 r88) (fun u91 => (S_X7_sets u91 q2 5 1 ∧ (bnd (F_X7_sets u91 q2 5 1) (fun u93 => (S_X7_sets u93 q2 6 r84 ∧ (bnd (F_X7_sets u93 q2 6 r84) (fun u95 => (S_X7_of u95 q2 2 ∧ (bnd (F_X7_of u95 q2 2) (fun r96 => (S_X7_sets u95 q2 7 r96 ∧ (bnd (F_X7_sets u95 q2 7 r96) (fun u99 => (S_X7_of u99 q2 3 ∧ (bnd (F_X7_of u99 q2 3) (fun r100 => (S_X7_sets u99 q2 8 r100 ∧ (bnd (F_X7_sets u99 q2 8 r100) (fun u103 => (S_X7_of u103 q2 9 ∧ (bnd (F_X7_of u103 q2 9) (fun r104 => (S_X7_sets u103 q2 9 (r104 + 1) ∧ True)))))))))))))))))))))))))))))))))) else (S_X7_takesBack C q2 ∧ (bnd (F_X7_takesBack C q2) (fun u109 => (S_X7_resultOf u109 q2 ∧ (bnd (F_X7_resultOf u109 q2) (fun r110 => (S_X7_of u109 q2 2 ∧ (bnd (F_X7_of u109 q2 2) (fun r112 => (S_X7_of u109 q2 3 ∧ (bnd (F_X7_of u109 q2 3) (fun r114 => (S_X7_logs u109 q1 q2 r110 r112 r114 ∧ (bnd (F_X7_logs u109 q1 q2 r110 r112 r114) (fun u117 => (S_X7_sets u117 q2 5 1 ∧ (bnd (F_X7_sets u117 q2 5 1) (fun u119 => (S_X7_sets u119 q2 6 r110 ∧ (bnd (F_X7_sets u119 q2 6 r110) (fun u121 => (S_X7_of u121 q2 2 ∧ (bnd (F_X7_of u121 q2 2) (fun r122 => (S_X7_sets u121 q2 7 r122 ∧ (bnd (F_X7_sets u121 q2 7 r122) (fun u125 => (S_X7_of u125 q2 3 ∧ (bnd (F_X7_of u125 q2 3) (fun r126 => (S_X7_sets u125 q2 8 r126 ∧ (bnd (F_X7_sets u125 q2 8 r126) (fun u129 => (S_X7_of u129 q2 9 ∧ (bnd (F_X7_of u129 q2 9) (fun r130 => (S_X7_sets u129 q2 9 (r130 + 1) ∧ True))))))))))))))))))))))))))))))))))))))) else (if r28 = 0 then (S_X7_resultOf C q2 ∧ (bnd (F_X7_resultOf C q2) (fun r32 => (S_X7_of C q2 2 ∧ (bnd (F_X7_of C q2 2) (fun r34 => (S_X7_of C q2 3 ∧ (bnd (F_X7_of C q2 3) (fun r36 => (S_X7_logs C q1 q2 r32 r34 r36 ∧ (bnd (F_X7_logs C q1 q2 r32 r34 r36) (fun u39 => (S_X7_sets u39 q2 5 1 ∧ (bnd (F_X7_sets u39 q2 5 1) (fun u41 => (S_X7_sets u41 q2 6 r32 ∧ (bnd (F_X7_sets u41 q2 6 r32) (fun u43 => (S_X7_of u43 q2 2 ∧ (bnd (F_X7_of u43 q2 2) (fun r44 => (S_X7_sets u43 q2 7 r44 ∧ (bnd (F_X7_sets u43 q2 7 r44) (fun u47 => (S_X7_of u47 q2 3 ∧ (bnd (F_X7_of u47 q2 3) (fun r48 => (S_X7_sets u47 q2 8 r48 ∧ (bnd (F_X7_sets u47 q2 8 r48) (fun u51 => (S_X7_of u51 q2 9 ∧ (bnd (F_X7_of u51 q2 9) (fun r52 => (S_X7_sets u51 q2 9 (r52 + 1) ∧ True)))))))))))))))))))))))))))))))))) else (S_X7_takesBack C q2 ∧ (bnd (F_X7_takesBack C q2) (fun u57 => (S_X7_resultOf u57 q2 ∧ (bnd (F_X7_resultOf u57 q2) (fun r58 => (S_X7_of u57 q2 2 ∧ (bnd (F_X7_of u57 q2 2) (fun r60 => (S_X7_of u57 q2 3 ∧ (bnd (F_X7_of u57 q2 3) (fun r62 => (S_X7_logs u57 q1 q2 r58 r60 r62 ∧ (bnd (F_X7_logs u57 q1 q2 r58 r60 r62) (fun u65 => (S_X7_sets u65 q2 5 1 ∧ (bnd (F_X7_sets u65 q2 5 1) (fun u67 => (S_X7_sets u67 q2 6 r58 ∧ (bnd (F_X7_sets u67 q2 6 r58) (fun u69 => (S_X7_of u69 q2 2 ∧ (bnd (F_X7_of u69 q2 2) (fun r70 => (S_X7_sets u69 q2 7 r70 ∧ (bnd (F_X7_sets u69 q2 7 r70) (fun u73 => (S_X7_of u73 q2 3 ∧ (bnd (F_X7_of u73 q2 3) (fun r74 => (S_X7_sets u73 q2 8 r74 ∧ (bnd (F_X7_sets u73 q2 8 r74) (fun u77 => (S_X7_of u77 q2 9 ∧ (bnd (F_X7_of u77 q2 9) (fun r78 => (S_X7_sets u77 q2 9 (r78 + 1) ∧ True)))))))))))))))))))))))))))))))))))))))))) else (S_X7_resultOf C q2 ∧ (bnd (F_X7_resultOf C q2) (fun r4 => (S_X7_of C q2 2 ∧ (bnd (F_X7_of C q2 2) (fun r6 => (S_X7_of C q2 3 ∧ (bnd (F_X7_of C q2 3) (fun r8 => (S_X7_logs C q1 q2 r4 r6 r8 ∧ (bnd (F_X7_logs C q1 q2 r4 r6 r8) (fun u11 => (S_X7_sets u11 q2 5 1 ∧ (bnd (F_X7_sets u11 q2 5 1) (fun u13 => (S_X7_sets u13 q2 6 r4 ∧ (bnd (F_X7_sets u13 q2 6 r4) (fun u15 => (S_X7_of u15 q2 2 ∧ (bnd (F_X7_of u15 q2 2) (fun r16 => (S_X7_sets u15 q2 7 r16 ∧ (bnd (F_X7_sets u15 q2 7 r16) (fun u19 => (S_X7_of u19 q2 3 ∧ (bnd (F_X7_of u19 q2 3) (fun r20 => (S_X7_sets u19 q2 8 r20 ∧ (bnd (F_X7_sets u19 q2 8 r20) (fun u23 => (S_X7_of u23 q2 9 ∧ (bnd (F_X7_of u23 q2 9) (fun r24 => (S_X7_sets u23 q2 9 (r24 + 1) ∧ True))))))))))))))))))))))))))))))))))))))
abbrev rmX7_fires : Room := { frames := 3, cells := 0, slots := 0, locals := 69 }
set_option maxHeartbeats 4000000 in
set_option maxRecDepth 100000 in
theorem c_X7_fires (l : Launch) (D : va_G) (cy : Nat → ClassId) (ad : Nat → Nat) (rest : va_W) (C : CS) (q1 : Int32) (q2 : Int32) (hS : S_X7_fires C q1 q2) : GMi l yX7_fires wsX7_fires rmX7_fires D cy [.ref (ad 0), .int q1, .int q2] (MW cy ad C ++ rest) (fun (r : Int32) (u : CS) => r = (F_X7_fires C q1 q2).1 ∧ u = (F_X7_fires C q1 q2).2) (fun u => MW cy ad u ++ rest) := by
  refine GMi.intro cX7_fires 5 RX7 (by decide) rfl rfl (Nat.le_of_ble_eq_true rfl) ?_
  intro p e s m args below meth c A Q ls X hret hl hw
  have hx := X.1
  have hb := X.2.1
  have hl : lv_has ls 5 [(0, .ref (ad 0)), (1, .int q1), (2, .int q2)] := hl
  obtain ⟨sp, hsp⟩ : ∃ sp, sp = F_X7_fires C q1 q2 := ⟨_, rfl⟩
  have hF := hsp.trans (F_X7_fires.eq_1 C q1 q2)
  have hS := Eq.mp (S_X7_fires.eq_1 C q1 q2) hS
  refine lv_iconst (v := 0) hx hb dX7_fires_0 (by decide) ?_
  refine lv_istore_n (lv' := [(3, .int 0), (0, .ref (ad 0)), (1, .int q1), (2, .int q2)]) hx hb dX7_fires_1 rfl hl (by decide) rfl (fun ls hl => ?_)
  refine lv_aload_n hx hb dX7_fires_2 rfl (lv_at hl 1 rfl) ?_
  refine lv_iload_n hx hb dX7_fires_3 rfl (lv_at hl 3 rfl) ?_
  refine lv_iconst (v := 5) hx hb dX7_fires_4 (by decide) ?_
  have hSc : S_X7_of C q2 5 := hS.1
  have hS := hS.2
  refine gcV_i (rest := []) X (c_X7_of l D cy ad rest C q2 5 hSc) gy_X7_of gX7_fires_X7_of ⟨rfl, rfl, Nat.le_of_ble_eq_true rfl, Nat.le_of_ble_eq_true rfl⟩ 0 rfl rfl rfl hl rfl (Nat.le_of_ble_eq_true rfl) dX7_fires_5 ⟨Nat.zero_le _, Nat.zero_le _⟩ hw (fun r1 _ H locs hr1 hw => ?_)
  have hr1 : r1 = F_X7_of C q2 5 := hr1
  have hF := hF.trans (bnd_eq hr1)
  try have hS := Eq.mp (bnd_eq hr1) hS
  refine lv_iconst (v := 1) hx hb dX7_fires_8 (by decide) ?_
  refine lv_icmp_ne (tgt := 43) hx hb dX7_fires_9 (by decide) (fun c3 => ?_) (fun c3 => ?_)
  · skip
    have hF := hF.trans (if_neg c3)
    try have hS := Eq.mp (if_neg c3) hS
    refine lv_aload_n hx hb dX7_fires_43 rfl (lv_at hl 1 rfl) ?_
    refine lv_iload_n hx hb dX7_fires_44 rfl (lv_at hl 3 rfl) ?_
    have hSc : S_X7_resultOf C q2 := hS.1
    have hS := hS.2
    refine gcV_i (rest := []) X (c_X7_resultOf l D cy ad rest C q2 hSc) gy_X7_resultOf gX7_fires_X7_resultOf ⟨rfl, rfl, Nat.le_of_ble_eq_true rfl, Nat.le_of_ble_eq_true rfl⟩ 0 rfl rfl rfl hl rfl (Nat.le_of_ble_eq_true rfl) dX7_fires_45 ⟨Nat.zero_le _, Nat.zero_le _⟩ hw (fun r4 _ H locs hr4 hw => ?_)
    have hr4 : r4 = F_X7_resultOf C q2 := hr4
    have hF := hF.trans (bnd_eq hr4)
    try have hS := Eq.mp (bnd_eq hr4) hS
    refine lv_istore (lv' := [(4, .int r4), (3, .int 0), (0, .ref (ad 0)), (1, .int q1), (2, .int q2)]) hx hb dX7_fires_48 hl (by decide) rfl (fun ls hl => ?_)
    refine lv_aload_n hx hb dX7_fires_50 rfl (lv_at hl 2 rfl) ?_
    refine lv_iload_n hx hb dX7_fires_51 rfl (lv_at hl 3 rfl) ?_
    refine lv_iload_n hx hb dX7_fires_52 rfl (lv_at hl 4 rfl) ?_
    refine lv_iload hx hb dX7_fires_53 (lv_at hl 0 rfl) ?_
    refine lv_aload_n hx hb dX7_fires_55 rfl (lv_at hl 2 rfl) ?_
    refine lv_iload_n hx hb dX7_fires_56 rfl (lv_at hl 4 rfl) ?_
    refine lv_iconst (v := 2) hx hb dX7_fires_57 (by decide) ?_
    have hSc : S_X7_of C q2 2 := hS.1
    have hS := hS.2
    refine gcV_i (rest := [.int r4, .int q2, .int q1, .ref (ad 0)]) X (c_X7_of l D cy ad rest C q2 2 hSc) gy_X7_of gX7_fires_X7_of ⟨rfl, rfl, Nat.le_of_ble_eq_true rfl, Nat.le_of_ble_eq_true rfl⟩ 0 rfl rfl rfl hl rfl (Nat.le_of_ble_eq_true rfl) dX7_fires_58 ⟨Nat.zero_le _, Nat.zero_le _⟩ hw (fun r6 _ H locs hr6 hw => ?_)
    have hr6 : r6 = F_X7_of C q2 2 := hr6
    have hF := hF.trans (bnd_eq hr6)
    try have hS := Eq.mp (bnd_eq hr6) hS
    refine lv_aload_n hx hb dX7_fires_61 rfl (lv_at hl 2 rfl) ?_
    refine lv_iload_n hx hb dX7_fires_62 rfl (lv_at hl 4 rfl) ?_
    refine lv_iconst (v := 3) hx hb dX7_fires_63 (by decide) ?_
    have hSc : S_X7_of C q2 3 := hS.1
    have hS := hS.2
    refine gcV_i (rest := [.int r6, .int r4, .int q2, .int q1, .ref (ad 0)]) X (c_X7_of l D cy ad rest C q2 3 hSc) gy_X7_of gX7_fires_X7_of ⟨rfl, rfl, Nat.le_of_ble_eq_true rfl, Nat.le_of_ble_eq_true rfl⟩ 0 rfl rfl rfl hl rfl (Nat.le_of_ble_eq_true rfl) dX7_fires_64 ⟨Nat.zero_le _, Nat.zero_le _⟩ hw (fun r8 _ H locs hr8 hw => ?_)
    have hr8 : r8 = F_X7_of C q2 3 := hr8
    have hF := hF.trans (bnd_eq hr8)
    try have hS := Eq.mp (bnd_eq hr8) hS
    have hSc : S_X7_logs C q1 q2 r4 r6 r8 := hS.1
    have hS := hS.2
    refine gcV_v (rest := []) X (c_X7_logs l D cy ad rest C q1 q2 r4 r6 r8 hSc) gy_X7_logs gX7_fires_X7_logs ⟨rfl, rfl, Nat.le_of_ble_eq_true rfl, Nat.le_of_ble_eq_true rfl⟩ 0 rfl rfl rfl hl rfl (Nat.le_of_ble_eq_true rfl) dX7_fires_67 ⟨Nat.zero_le _, Nat.zero_le _⟩ hw (fun u11 H locs hu11 hw => ?_)
    have hu11 : u11 = F_X7_logs C q1 q2 r4 r6 r8 := hu11
    have hF := hF.trans (bnd_eq hu11)
    try have hS := Eq.mp (bnd_eq hu11) hS
    refine lv_aload_n hx hb dX7_fires_70 rfl (lv_at hl 2 rfl) ?_
    refine lv_iload_n hx hb dX7_fires_71 rfl (lv_at hl 4 rfl) ?_
    refine lv_iconst (v := 5) hx hb dX7_fires_72 (by decide) ?_
    refine lv_iconst (v := 1) hx hb dX7_fires_73 (by decide) ?_
    have hSc : S_X7_sets u11 q2 5 1 := hS.1
    have hS := hS.2
    refine gcV_v (rest := []) X (c_X7_sets l D cy ad rest u11 q2 5 1 hSc) gy_X7_sets gX7_fires_X7_sets ⟨rfl, rfl, Nat.le_of_ble_eq_true rfl, Nat.le_of_ble_eq_true rfl⟩ 0 rfl rfl rfl hl rfl (Nat.le_of_ble_eq_true rfl) dX7_fires_74 ⟨Nat.zero_le _, Nat.zero_le _⟩ hw (fun u13 H locs hu13 hw => ?_)
    have hu13 : u13 = F_X7_sets u11 q2 5 1 := hu13
    have hF := hF.trans (bnd_eq hu13)
    try have hS := Eq.mp (bnd_eq hu13) hS
    refine lv_aload_n hx hb dX7_fires_77 rfl (lv_at hl 2 rfl) ?_
    refine lv_iload_n hx hb dX7_fires_78 rfl (lv_at hl 4 rfl) ?_
    refine lv_bipush (v := 6) hx hb dX7_fires_79 (by decide) ?_
    refine lv_iload hx hb dX7_fires_81 (lv_at hl 0 rfl) ?_
    have hSc : S_X7_sets u13 q2 6 r4 := hS.1
    have hS := hS.2
    refine gcV_v (rest := []) X (c_X7_sets l D cy ad rest u13 q2 6 r4 hSc) gy_X7_sets gX7_fires_X7_sets ⟨rfl, rfl, Nat.le_of_ble_eq_true rfl, Nat.le_of_ble_eq_true rfl⟩ 0 rfl rfl rfl hl rfl (Nat.le_of_ble_eq_true rfl) dX7_fires_83 ⟨Nat.zero_le _, Nat.zero_le _⟩ hw (fun u15 H locs hu15 hw => ?_)
    have hu15 : u15 = F_X7_sets u13 q2 6 r4 := hu15
    have hF := hF.trans (bnd_eq hu15)
    try have hS := Eq.mp (bnd_eq hu15) hS
    refine lv_aload_n hx hb dX7_fires_86 rfl (lv_at hl 2 rfl) ?_
    refine lv_iload_n hx hb dX7_fires_87 rfl (lv_at hl 4 rfl) ?_
    refine lv_bipush (v := 7) hx hb dX7_fires_88 (by decide) ?_
    refine lv_aload_n hx hb dX7_fires_90 rfl (lv_at hl 2 rfl) ?_
    refine lv_iload_n hx hb dX7_fires_91 rfl (lv_at hl 4 rfl) ?_
    refine lv_iconst (v := 2) hx hb dX7_fires_92 (by decide) ?_
    have hSc : S_X7_of u15 q2 2 := hS.1
    have hS := hS.2
    refine gcV_i (rest := [.int 7, .int q2, .ref (ad 0)]) X (c_X7_of l D cy ad rest u15 q2 2 hSc) gy_X7_of gX7_fires_X7_of ⟨rfl, rfl, Nat.le_of_ble_eq_true rfl, Nat.le_of_ble_eq_true rfl⟩ 0 rfl rfl rfl hl rfl (Nat.le_of_ble_eq_true rfl) dX7_fires_93 ⟨Nat.zero_le _, Nat.zero_le _⟩ hw (fun r16 _ H locs hr16 hw => ?_)
    have hr16 : r16 = F_X7_of u15 q2 2 := hr16
    have hF := hF.trans (bnd_eq hr16)
    try have hS := Eq.mp (bnd_eq hr16) hS
    have hSc : S_X7_sets u15 q2 7 r16 := hS.1
    have hS := hS.2
    refine gcV_v (rest := []) X (c_X7_sets l D cy ad rest u15 q2 7 r16 hSc) gy_X7_sets gX7_fires_X7_sets ⟨rfl, rfl, Nat.le_of_ble_eq_true rfl, Nat.le_of_ble_eq_true rfl⟩ 0 rfl rfl rfl hl rfl (Nat.le_of_ble_eq_true rfl) dX7_fires_96 ⟨Nat.zero_le _, Nat.zero_le _⟩ hw (fun u19 H locs hu19 hw => ?_)
    have hu19 : u19 = F_X7_sets u15 q2 7 r16 := hu19
    have hF := hF.trans (bnd_eq hu19)
    try have hS := Eq.mp (bnd_eq hu19) hS
    refine lv_aload_n hx hb dX7_fires_99 rfl (lv_at hl 2 rfl) ?_
    refine lv_iload_n hx hb dX7_fires_100 rfl (lv_at hl 4 rfl) ?_
    refine lv_bipush (v := 8) hx hb dX7_fires_101 (by decide) ?_
    refine lv_aload_n hx hb dX7_fires_103 rfl (lv_at hl 2 rfl) ?_
    refine lv_iload_n hx hb dX7_fires_104 rfl (lv_at hl 4 rfl) ?_
    refine lv_iconst (v := 3) hx hb dX7_fires_105 (by decide) ?_
    have hSc : S_X7_of u19 q2 3 := hS.1
    have hS := hS.2
    refine gcV_i (rest := [.int 8, .int q2, .ref (ad 0)]) X (c_X7_of l D cy ad rest u19 q2 3 hSc) gy_X7_of gX7_fires_X7_of ⟨rfl, rfl, Nat.le_of_ble_eq_true rfl, Nat.le_of_ble_eq_true rfl⟩ 0 rfl rfl rfl hl rfl (Nat.le_of_ble_eq_true rfl) dX7_fires_106 ⟨Nat.zero_le _, Nat.zero_le _⟩ hw (fun r20 _ H locs hr20 hw => ?_)
    have hr20 : r20 = F_X7_of u19 q2 3 := hr20
    have hF := hF.trans (bnd_eq hr20)
    try have hS := Eq.mp (bnd_eq hr20) hS
    have hSc : S_X7_sets u19 q2 8 r20 := hS.1
    have hS := hS.2
    refine gcV_v (rest := []) X (c_X7_sets l D cy ad rest u19 q2 8 r20 hSc) gy_X7_sets gX7_fires_X7_sets ⟨rfl, rfl, Nat.le_of_ble_eq_true rfl, Nat.le_of_ble_eq_true rfl⟩ 0 rfl rfl rfl hl rfl (Nat.le_of_ble_eq_true rfl) dX7_fires_109 ⟨Nat.zero_le _, Nat.zero_le _⟩ hw (fun u23 H locs hu23 hw => ?_)
    have hu23 : u23 = F_X7_sets u19 q2 8 r20 := hu23
    have hF := hF.trans (bnd_eq hu23)
    try have hS := Eq.mp (bnd_eq hu23) hS
    refine lv_aload_n hx hb dX7_fires_112 rfl (lv_at hl 2 rfl) ?_
    refine lv_iload_n hx hb dX7_fires_113 rfl (lv_at hl 4 rfl) ?_
    refine lv_bipush (v := 9) hx hb dX7_fires_114 (by decide) ?_
    refine lv_aload_n hx hb dX7_fires_116 rfl (lv_at hl 2 rfl) ?_
    refine lv_iload_n hx hb dX7_fires_117 rfl (lv_at hl 4 rfl) ?_
    refine lv_bipush (v := 9) hx hb dX7_fires_118 (by decide) ?_
    have hSc : S_X7_of u23 q2 9 := hS.1
    have hS := hS.2
    refine gcV_i (rest := [.int 9, .int q2, .ref (ad 0)]) X (c_X7_of l D cy ad rest u23 q2 9 hSc) gy_X7_of gX7_fires_X7_of ⟨rfl, rfl, Nat.le_of_ble_eq_true rfl, Nat.le_of_ble_eq_true rfl⟩ 0 rfl rfl rfl hl rfl (Nat.le_of_ble_eq_true rfl) dX7_fires_120 ⟨Nat.zero_le _, Nat.zero_le _⟩ hw (fun r24 _ H locs hr24 hw => ?_)
    have hr24 : r24 = F_X7_of u23 q2 9 := hr24
    have hF := hF.trans (bnd_eq hr24)
    try have hS := Eq.mp (bnd_eq hr24) hS
    refine lv_iconst (v := 1) hx hb dX7_fires_123 (by decide) ?_
    refine lv_iadd hx hb dX7_fires_124 ?_
    have hSc : S_X7_sets u23 q2 9 (r24 + 1) := hS.1
    have hS := hS.2
    refine gcV_v (rest := []) X (c_X7_sets l D cy ad rest u23 q2 9 (r24 + 1) hSc) gy_X7_sets gX7_fires_X7_sets ⟨rfl, rfl, Nat.le_of_ble_eq_true rfl, Nat.le_of_ble_eq_true rfl⟩ 0 rfl rfl rfl hl rfl (Nat.le_of_ble_eq_true rfl) dX7_fires_125 ⟨Nat.zero_le _, Nat.zero_le _⟩ hw (fun u27 H locs hu27 hw => ?_)
    have hu27 : u27 = F_X7_sets u23 q2 9 (r24 + 1) := hu27
    have hF := hF.trans (bnd_eq hu27)
    try have hS := Eq.mp (bnd_eq hu27) hS
    refine lv_iload_n hx hb dX7_fires_128 rfl (lv_at hl 1 rfl) ?_
    refine lv_iconst (v := 1) hx hb dX7_fires_129 (by decide) ?_
    refine lv_iadd hx hb dX7_fires_130 ?_
    exact hret _ _ _ _ _ _ dX7_fires_131 ⟨congrArg Prod.fst (hF.symm.trans hsp), congrArg Prod.snd (hF.symm.trans hsp)⟩ hw
  · skip
    have hF := hF.trans (if_pos c3)
    try have hS := Eq.mp (if_pos c3) hS
    refine lv_aload_n hx hb dX7_fires_12 rfl (lv_at hl 1 rfl) ?_
    refine lv_iload_n hx hb dX7_fires_13 rfl (lv_at hl 3 rfl) ?_
    have hSc : S_X7_isOther C q2 := hS.1
    have hS := hS.2
    refine gcV_i (rest := []) X (c_X7_isOther l D cy ad rest C q2 hSc) gy_X7_isOther gX7_fires_X7_isOther ⟨rfl, rfl, Nat.le_of_ble_eq_true rfl, Nat.le_of_ble_eq_true rfl⟩ 0 rfl rfl rfl hl rfl (Nat.le_of_ble_eq_true rfl) dX7_fires_14 ⟨Nat.zero_le _, Nat.zero_le _⟩ hw (fun r28 _ H locs hr28 hw => ?_)
    obtain ⟨hr28, zr28⟩ : r28 = F_X7_isOther C q2 ∧ (r28 = 0 ∨ r28 = 1) := hr28
    have hF := hF.trans (bnd_eq hr28)
    try have hS := Eq.mp (bnd_eq hr28) hS
    refine lv_istore (lv' := [(4, .int r28), (3, .int 0), (0, .ref (ad 0)), (1, .int q1), (2, .int q2)]) hx hb dX7_fires_17 hl (by decide) rfl (fun ls hl => ?_)
    refine lv_iload hx hb dX7_fires_19 (lv_at hl 0 rfl) ?_
    refine lv_if_ne (tgt := 30) hx hb dX7_fires_21 (by decide) (fun c30 => ?_) (fun c30 => ?_)
    · skip
      have hF := hF.trans (if_neg c30)
      try have hS := Eq.mp (if_neg c30) hS
      refine lv_iload hx hb dX7_fires_30 (lv_at hl 0 rfl) ?_
      refine lv_if_eq (tgt := 43) hx hb dX7_fires_32 (by decide) (fun c31 => ?_) (fun c31 => ?_)
      · skip
        have hF := hF.trans (if_pos c31)
        try have hS := Eq.mp (if_pos c31) hS
        refine lv_aload_n hx hb dX7_fires_43 rfl (lv_at hl 2 rfl) ?_
        refine lv_iload_n hx hb dX7_fires_44 rfl (lv_at hl 4 rfl) ?_
        have hSc : S_X7_resultOf C q2 := hS.1
        have hS := hS.2
        refine gcV_i (rest := []) X (c_X7_resultOf l D cy ad rest C q2 hSc) gy_X7_resultOf gX7_fires_X7_resultOf ⟨rfl, rfl, Nat.le_of_ble_eq_true rfl, Nat.le_of_ble_eq_true rfl⟩ 0 rfl rfl rfl hl rfl (Nat.le_of_ble_eq_true rfl) dX7_fires_45 ⟨Nat.zero_le _, Nat.zero_le _⟩ hw (fun r32 _ H locs hr32 hw => ?_)
        have hr32 : r32 = F_X7_resultOf C q2 := hr32
        have hF := hF.trans (bnd_eq hr32)
        try have hS := Eq.mp (bnd_eq hr32) hS
        refine lv_istore (lv' := [(4, .int r32), (3, .int 0), (0, .ref (ad 0)), (1, .int q1), (2, .int q2)]) hx hb dX7_fires_48 hl (by decide) rfl (fun ls hl => ?_)
        refine lv_aload_n hx hb dX7_fires_50 rfl (lv_at hl 2 rfl) ?_
        refine lv_iload_n hx hb dX7_fires_51 rfl (lv_at hl 3 rfl) ?_
        refine lv_iload_n hx hb dX7_fires_52 rfl (lv_at hl 4 rfl) ?_
        refine lv_iload hx hb dX7_fires_53 (lv_at hl 0 rfl) ?_
        refine lv_aload_n hx hb dX7_fires_55 rfl (lv_at hl 2 rfl) ?_
        refine lv_iload_n hx hb dX7_fires_56 rfl (lv_at hl 4 rfl) ?_
        refine lv_iconst (v := 2) hx hb dX7_fires_57 (by decide) ?_
        have hSc : S_X7_of C q2 2 := hS.1
        have hS := hS.2
        refine gcV_i (rest := [.int r32, .int q2, .int q1, .ref (ad 0)]) X (c_X7_of l D cy ad rest C q2 2 hSc) gy_X7_of gX7_fires_X7_of ⟨rfl, rfl, Nat.le_of_ble_eq_true rfl, Nat.le_of_ble_eq_true rfl⟩ 0 rfl rfl rfl hl rfl (Nat.le_of_ble_eq_true rfl) dX7_fires_58 ⟨Nat.zero_le _, Nat.zero_le _⟩ hw (fun r34 _ H locs hr34 hw => ?_)
        have hr34 : r34 = F_X7_of C q2 2 := hr34
        have hF := hF.trans (bnd_eq hr34)
        try have hS := Eq.mp (bnd_eq hr34) hS
        refine lv_aload_n hx hb dX7_fires_61 rfl (lv_at hl 2 rfl) ?_
        refine lv_iload_n hx hb dX7_fires_62 rfl (lv_at hl 4 rfl) ?_
        refine lv_iconst (v := 3) hx hb dX7_fires_63 (by decide) ?_
        have hSc : S_X7_of C q2 3 := hS.1
        have hS := hS.2
        refine gcV_i (rest := [.int r34, .int r32, .int q2, .int q1, .ref (ad 0)]) X (c_X7_of l D cy ad rest C q2 3 hSc) gy_X7_of gX7_fires_X7_of ⟨rfl, rfl, Nat.le_of_ble_eq_true rfl, Nat.le_of_ble_eq_true rfl⟩ 0 rfl rfl rfl hl rfl (Nat.le_of_ble_eq_true rfl) dX7_fires_64 ⟨Nat.zero_le _, Nat.zero_le _⟩ hw (fun r36 _ H locs hr36 hw => ?_)
        have hr36 : r36 = F_X7_of C q2 3 := hr36
        have hF := hF.trans (bnd_eq hr36)
        try have hS := Eq.mp (bnd_eq hr36) hS
        have hSc : S_X7_logs C q1 q2 r32 r34 r36 := hS.1
        have hS := hS.2
        refine gcV_v (rest := []) X (c_X7_logs l D cy ad rest C q1 q2 r32 r34 r36 hSc) gy_X7_logs gX7_fires_X7_logs ⟨rfl, rfl, Nat.le_of_ble_eq_true rfl, Nat.le_of_ble_eq_true rfl⟩ 0 rfl rfl rfl hl rfl (Nat.le_of_ble_eq_true rfl) dX7_fires_67 ⟨Nat.zero_le _, Nat.zero_le _⟩ hw (fun u39 H locs hu39 hw => ?_)
        have hu39 : u39 = F_X7_logs C q1 q2 r32 r34 r36 := hu39
        have hF := hF.trans (bnd_eq hu39)
        try have hS := Eq.mp (bnd_eq hu39) hS
        refine lv_aload_n hx hb dX7_fires_70 rfl (lv_at hl 2 rfl) ?_
        refine lv_iload_n hx hb dX7_fires_71 rfl (lv_at hl 4 rfl) ?_
        refine lv_iconst (v := 5) hx hb dX7_fires_72 (by decide) ?_
        refine lv_iconst (v := 1) hx hb dX7_fires_73 (by decide) ?_
        have hSc : S_X7_sets u39 q2 5 1 := hS.1
        have hS := hS.2
        refine gcV_v (rest := []) X (c_X7_sets l D cy ad rest u39 q2 5 1 hSc) gy_X7_sets gX7_fires_X7_sets ⟨rfl, rfl, Nat.le_of_ble_eq_true rfl, Nat.le_of_ble_eq_true rfl⟩ 0 rfl rfl rfl hl rfl (Nat.le_of_ble_eq_true rfl) dX7_fires_74 ⟨Nat.zero_le _, Nat.zero_le _⟩ hw (fun u41 H locs hu41 hw => ?_)
        have hu41 : u41 = F_X7_sets u39 q2 5 1 := hu41
        have hF := hF.trans (bnd_eq hu41)
        try have hS := Eq.mp (bnd_eq hu41) hS
        refine lv_aload_n hx hb dX7_fires_77 rfl (lv_at hl 2 rfl) ?_
        refine lv_iload_n hx hb dX7_fires_78 rfl (lv_at hl 4 rfl) ?_
        refine lv_bipush (v := 6) hx hb dX7_fires_79 (by decide) ?_
        refine lv_iload hx hb dX7_fires_81 (lv_at hl 0 rfl) ?_
        have hSc : S_X7_sets u41 q2 6 r32 := hS.1
        have hS := hS.2
        refine gcV_v (rest := []) X (c_X7_sets l D cy ad rest u41 q2 6 r32 hSc) gy_X7_sets gX7_fires_X7_sets ⟨rfl, rfl, Nat.le_of_ble_eq_true rfl, Nat.le_of_ble_eq_true rfl⟩ 0 rfl rfl rfl hl rfl (Nat.le_of_ble_eq_true rfl) dX7_fires_83 ⟨Nat.zero_le _, Nat.zero_le _⟩ hw (fun u43 H locs hu43 hw => ?_)
        have hu43 : u43 = F_X7_sets u41 q2 6 r32 := hu43
        have hF := hF.trans (bnd_eq hu43)
        try have hS := Eq.mp (bnd_eq hu43) hS
        refine lv_aload_n hx hb dX7_fires_86 rfl (lv_at hl 2 rfl) ?_
        refine lv_iload_n hx hb dX7_fires_87 rfl (lv_at hl 4 rfl) ?_
        refine lv_bipush (v := 7) hx hb dX7_fires_88 (by decide) ?_
        refine lv_aload_n hx hb dX7_fires_90 rfl (lv_at hl 2 rfl) ?_
        refine lv_iload_n hx hb dX7_fires_91 rfl (lv_at hl 4 rfl) ?_
        refine lv_iconst (v := 2) hx hb dX7_fires_92 (by decide) ?_
        have hSc : S_X7_of u43 q2 2 := hS.1
        have hS := hS.2
        refine gcV_i (rest := [.int 7, .int q2, .ref (ad 0)]) X (c_X7_of l D cy ad rest u43 q2 2 hSc) gy_X7_of gX7_fires_X7_of ⟨rfl, rfl, Nat.le_of_ble_eq_true rfl, Nat.le_of_ble_eq_true rfl⟩ 0 rfl rfl rfl hl rfl (Nat.le_of_ble_eq_true rfl) dX7_fires_93 ⟨Nat.zero_le _, Nat.zero_le _⟩ hw (fun r44 _ H locs hr44 hw => ?_)
        have hr44 : r44 = F_X7_of u43 q2 2 := hr44
        have hF := hF.trans (bnd_eq hr44)
        try have hS := Eq.mp (bnd_eq hr44) hS
        have hSc : S_X7_sets u43 q2 7 r44 := hS.1
        have hS := hS.2
        refine gcV_v (rest := []) X (c_X7_sets l D cy ad rest u43 q2 7 r44 hSc) gy_X7_sets gX7_fires_X7_sets ⟨rfl, rfl, Nat.le_of_ble_eq_true rfl, Nat.le_of_ble_eq_true rfl⟩ 0 rfl rfl rfl hl rfl (Nat.le_of_ble_eq_true rfl) dX7_fires_96 ⟨Nat.zero_le _, Nat.zero_le _⟩ hw (fun u47 H locs hu47 hw => ?_)
        have hu47 : u47 = F_X7_sets u43 q2 7 r44 := hu47
        have hF := hF.trans (bnd_eq hu47)
        try have hS := Eq.mp (bnd_eq hu47) hS
        refine lv_aload_n hx hb dX7_fires_99 rfl (lv_at hl 2 rfl) ?_
        refine lv_iload_n hx hb dX7_fires_100 rfl (lv_at hl 4 rfl) ?_
        refine lv_bipush (v := 8) hx hb dX7_fires_101 (by decide) ?_
        refine lv_aload_n hx hb dX7_fires_103 rfl (lv_at hl 2 rfl) ?_
        refine lv_iload_n hx hb dX7_fires_104 rfl (lv_at hl 4 rfl) ?_
        refine lv_iconst (v := 3) hx hb dX7_fires_105 (by decide) ?_
        have hSc : S_X7_of u47 q2 3 := hS.1
        have hS := hS.2
        refine gcV_i (rest := [.int 8, .int q2, .ref (ad 0)]) X (c_X7_of l D cy ad rest u47 q2 3 hSc) gy_X7_of gX7_fires_X7_of ⟨rfl, rfl, Nat.le_of_ble_eq_true rfl, Nat.le_of_ble_eq_true rfl⟩ 0 rfl rfl rfl hl rfl (Nat.le_of_ble_eq_true rfl) dX7_fires_106 ⟨Nat.zero_le _, Nat.zero_le _⟩ hw (fun r48 _ H locs hr48 hw => ?_)
        have hr48 : r48 = F_X7_of u47 q2 3 := hr48
        have hF := hF.trans (bnd_eq hr48)
        try have hS := Eq.mp (bnd_eq hr48) hS
        have hSc : S_X7_sets u47 q2 8 r48 := hS.1
        have hS := hS.2
        refine gcV_v (rest := []) X (c_X7_sets l D cy ad rest u47 q2 8 r48 hSc) gy_X7_sets gX7_fires_X7_sets ⟨rfl, rfl, Nat.le_of_ble_eq_true rfl, Nat.le_of_ble_eq_true rfl⟩ 0 rfl rfl rfl hl rfl (Nat.le_of_ble_eq_true rfl) dX7_fires_109 ⟨Nat.zero_le _, Nat.zero_le _⟩ hw (fun u51 H locs hu51 hw => ?_)
        have hu51 : u51 = F_X7_sets u47 q2 8 r48 := hu51
        have hF := hF.trans (bnd_eq hu51)
        try have hS := Eq.mp (bnd_eq hu51) hS
        refine lv_aload_n hx hb dX7_fires_112 rfl (lv_at hl 2 rfl) ?_
        refine lv_iload_n hx hb dX7_fires_113 rfl (lv_at hl 4 rfl) ?_
        refine lv_bipush (v := 9) hx hb dX7_fires_114 (by decide) ?_
        refine lv_aload_n hx hb dX7_fires_116 rfl (lv_at hl 2 rfl) ?_
        refine lv_iload_n hx hb dX7_fires_117 rfl (lv_at hl 4 rfl) ?_
        refine lv_bipush (v := 9) hx hb dX7_fires_118 (by decide) ?_
        have hSc : S_X7_of u51 q2 9 := hS.1
        have hS := hS.2
        refine gcV_i (rest := [.int 9, .int q2, .ref (ad 0)]) X (c_X7_of l D cy ad rest u51 q2 9 hSc) gy_X7_of gX7_fires_X7_of ⟨rfl, rfl, Nat.le_of_ble_eq_true rfl, Nat.le_of_ble_eq_true rfl⟩ 0 rfl rfl rfl hl rfl (Nat.le_of_ble_eq_true rfl) dX7_fires_120 ⟨Nat.zero_le _, Nat.zero_le _⟩ hw (fun r52 _ H locs hr52 hw => ?_)
        have hr52 : r52 = F_X7_of u51 q2 9 := hr52
        have hF := hF.trans (bnd_eq hr52)
        try have hS := Eq.mp (bnd_eq hr52) hS
        refine lv_iconst (v := 1) hx hb dX7_fires_123 (by decide) ?_
        refine lv_iadd hx hb dX7_fires_124 ?_
        have hSc : S_X7_sets u51 q2 9 (r52 + 1) := hS.1
        have hS := hS.2
        refine gcV_v (rest := []) X (c_X7_sets l D cy ad rest u51 q2 9 (r52 + 1) hSc) gy_X7_sets gX7_fires_X7_sets ⟨rfl, rfl, Nat.le_of_ble_eq_true rfl, Nat.le_of_ble_eq_true rfl⟩ 0 rfl rfl rfl hl rfl (Nat.le_of_ble_eq_true rfl) dX7_fires_125 ⟨Nat.zero_le _, Nat.zero_le _⟩ hw (fun u55 H locs hu55 hw => ?_)
        have hu55 : u55 = F_X7_sets u51 q2 9 (r52 + 1) := hu55
        have hF := hF.trans (bnd_eq hu55)
        try have hS := Eq.mp (bnd_eq hu55) hS
        refine lv_iload_n hx hb dX7_fires_128 rfl (lv_at hl 1 rfl) ?_
        refine lv_iconst (v := 1) hx hb dX7_fires_129 (by decide) ?_
        refine lv_iadd hx hb dX7_fires_130 ?_
        exact hret _ _ _ _ _ _ dX7_fires_131 ⟨congrArg Prod.fst (hF.symm.trans hsp), congrArg Prod.snd (hF.symm.trans hsp)⟩ hw
      · skip
        have hF := hF.trans (if_neg c31)
        try have hS := Eq.mp (if_neg c31) hS
        refine lv_aload_n hx hb dX7_fires_35 rfl (lv_at hl 2 rfl) ?_
        refine lv_iload_n hx hb dX7_fires_36 rfl (lv_at hl 4 rfl) ?_
        have hSc : S_X7_takesBack C q2 := hS.1
        have hS := hS.2
        refine gcV_v (rest := []) X (c_X7_takesBack l D cy ad rest C q2 hSc) gy_X7_takesBack gX7_fires_X7_takesBack ⟨rfl, rfl, Nat.le_of_ble_eq_true rfl, Nat.le_of_ble_eq_true rfl⟩ 0 rfl rfl rfl hl rfl (Nat.le_of_ble_eq_true rfl) dX7_fires_37 ⟨Nat.zero_le _, Nat.zero_le _⟩ hw (fun u57 H locs hu57 hw => ?_)
        have hu57 : u57 = F_X7_takesBack C q2 := hu57
        have hF := hF.trans (bnd_eq hu57)
        try have hS := Eq.mp (bnd_eq hu57) hS
        refine lv_iinc (v := (0 + 1)) (lv' := [(3, .int (0 + 1)), (4, .int r28), (0, .ref (ad 0)), (1, .int q1), (2, .int q2)]) hx hb dX7_fires_40 hl (k := 1) rfl rfl (by decide) rfl (fun ls hl => ?_)
        refine lv_aload_n hx hb dX7_fires_43 rfl (lv_at hl 2 rfl) ?_
        refine lv_iload_n hx hb dX7_fires_44 rfl (lv_at hl 4 rfl) ?_
        have hSc : S_X7_resultOf u57 q2 := hS.1
        have hS := hS.2
        refine gcV_i (rest := []) X (c_X7_resultOf l D cy ad rest u57 q2 hSc) gy_X7_resultOf gX7_fires_X7_resultOf ⟨rfl, rfl, Nat.le_of_ble_eq_true rfl, Nat.le_of_ble_eq_true rfl⟩ 0 rfl rfl rfl hl rfl (Nat.le_of_ble_eq_true rfl) dX7_fires_45 ⟨Nat.zero_le _, Nat.zero_le _⟩ hw (fun r58 _ H locs hr58 hw => ?_)
        have hr58 : r58 = F_X7_resultOf u57 q2 := hr58
        have hF := hF.trans (bnd_eq hr58)
        try have hS := Eq.mp (bnd_eq hr58) hS
        refine lv_istore (lv' := [(4, .int r58), (3, .int (0 + 1)), (0, .ref (ad 0)), (1, .int q1), (2, .int q2)]) hx hb dX7_fires_48 hl (by decide) rfl (fun ls hl => ?_)
        refine lv_aload_n hx hb dX7_fires_50 rfl (lv_at hl 2 rfl) ?_
        refine lv_iload_n hx hb dX7_fires_51 rfl (lv_at hl 3 rfl) ?_
        refine lv_iload_n hx hb dX7_fires_52 rfl (lv_at hl 4 rfl) ?_
        refine lv_iload hx hb dX7_fires_53 (lv_at hl 0 rfl) ?_
        refine lv_aload_n hx hb dX7_fires_55 rfl (lv_at hl 2 rfl) ?_
        refine lv_iload_n hx hb dX7_fires_56 rfl (lv_at hl 4 rfl) ?_
        refine lv_iconst (v := 2) hx hb dX7_fires_57 (by decide) ?_
        have hSc : S_X7_of u57 q2 2 := hS.1
        have hS := hS.2
        refine gcV_i (rest := [.int r58, .int q2, .int q1, .ref (ad 0)]) X (c_X7_of l D cy ad rest u57 q2 2 hSc) gy_X7_of gX7_fires_X7_of ⟨rfl, rfl, Nat.le_of_ble_eq_true rfl, Nat.le_of_ble_eq_true rfl⟩ 0 rfl rfl rfl hl rfl (Nat.le_of_ble_eq_true rfl) dX7_fires_58 ⟨Nat.zero_le _, Nat.zero_le _⟩ hw (fun r60 _ H locs hr60 hw => ?_)
        have hr60 : r60 = F_X7_of u57 q2 2 := hr60
        have hF := hF.trans (bnd_eq hr60)
        try have hS := Eq.mp (bnd_eq hr60) hS
        refine lv_aload_n hx hb dX7_fires_61 rfl (lv_at hl 2 rfl) ?_
        refine lv_iload_n hx hb dX7_fires_62 rfl (lv_at hl 4 rfl) ?_
        refine lv_iconst (v := 3) hx hb dX7_fires_63 (by decide) ?_
        have hSc : S_X7_of u57 q2 3 := hS.1
        have hS := hS.2
        refine gcV_i (rest := [.int r60, .int r58, .int q2, .int q1, .ref (ad 0)]) X (c_X7_of l D cy ad rest u57 q2 3 hSc) gy_X7_of gX7_fires_X7_of ⟨rfl, rfl, Nat.le_of_ble_eq_true rfl, Nat.le_of_ble_eq_true rfl⟩ 0 rfl rfl rfl hl rfl (Nat.le_of_ble_eq_true rfl) dX7_fires_64 ⟨Nat.zero_le _, Nat.zero_le _⟩ hw (fun r62 _ H locs hr62 hw => ?_)
        have hr62 : r62 = F_X7_of u57 q2 3 := hr62
        have hF := hF.trans (bnd_eq hr62)
        try have hS := Eq.mp (bnd_eq hr62) hS
        have hSc : S_X7_logs u57 q1 q2 r58 r60 r62 := hS.1
        have hS := hS.2
        refine gcV_v (rest := []) X (c_X7_logs l D cy ad rest u57 q1 q2 r58 r60 r62 hSc) gy_X7_logs gX7_fires_X7_logs ⟨rfl, rfl, Nat.le_of_ble_eq_true rfl, Nat.le_of_ble_eq_true rfl⟩ 0 rfl rfl rfl hl rfl (Nat.le_of_ble_eq_true rfl) dX7_fires_67 ⟨Nat.zero_le _, Nat.zero_le _⟩ hw (fun u65 H locs hu65 hw => ?_)
        have hu65 : u65 = F_X7_logs u57 q1 q2 r58 r60 r62 := hu65
        have hF := hF.trans (bnd_eq hu65)
        try have hS := Eq.mp (bnd_eq hu65) hS
        refine lv_aload_n hx hb dX7_fires_70 rfl (lv_at hl 2 rfl) ?_
        refine lv_iload_n hx hb dX7_fires_71 rfl (lv_at hl 4 rfl) ?_
        refine lv_iconst (v := 5) hx hb dX7_fires_72 (by decide) ?_
        refine lv_iconst (v := 1) hx hb dX7_fires_73 (by decide) ?_
        have hSc : S_X7_sets u65 q2 5 1 := hS.1
        have hS := hS.2
        refine gcV_v (rest := []) X (c_X7_sets l D cy ad rest u65 q2 5 1 hSc) gy_X7_sets gX7_fires_X7_sets ⟨rfl, rfl, Nat.le_of_ble_eq_true rfl, Nat.le_of_ble_eq_true rfl⟩ 0 rfl rfl rfl hl rfl (Nat.le_of_ble_eq_true rfl) dX7_fires_74 ⟨Nat.zero_le _, Nat.zero_le _⟩ hw (fun u67 H locs hu67 hw => ?_)
        have hu67 : u67 = F_X7_sets u65 q2 5 1 := hu67
        have hF := hF.trans (bnd_eq hu67)
        try have hS := Eq.mp (bnd_eq hu67) hS
        refine lv_aload_n hx hb dX7_fires_77 rfl (lv_at hl 2 rfl) ?_
        refine lv_iload_n hx hb dX7_fires_78 rfl (lv_at hl 4 rfl) ?_
        refine lv_bipush (v := 6) hx hb dX7_fires_79 (by decide) ?_
        refine lv_iload hx hb dX7_fires_81 (lv_at hl 0 rfl) ?_
        have hSc : S_X7_sets u67 q2 6 r58 := hS.1
        have hS := hS.2
        refine gcV_v (rest := []) X (c_X7_sets l D cy ad rest u67 q2 6 r58 hSc) gy_X7_sets gX7_fires_X7_sets ⟨rfl, rfl, Nat.le_of_ble_eq_true rfl, Nat.le_of_ble_eq_true rfl⟩ 0 rfl rfl rfl hl rfl (Nat.le_of_ble_eq_true rfl) dX7_fires_83 ⟨Nat.zero_le _, Nat.zero_le _⟩ hw (fun u69 H locs hu69 hw => ?_)
        have hu69 : u69 = F_X7_sets u67 q2 6 r58 := hu69
        have hF := hF.trans (bnd_eq hu69)
        try have hS := Eq.mp (bnd_eq hu69) hS
        refine lv_aload_n hx hb dX7_fires_86 rfl (lv_at hl 2 rfl) ?_
        refine lv_iload_n hx hb dX7_fires_87 rfl (lv_at hl 4 rfl) ?_
        refine lv_bipush (v := 7) hx hb dX7_fires_88 (by decide) ?_
        refine lv_aload_n hx hb dX7_fires_90 rfl (lv_at hl 2 rfl) ?_
        refine lv_iload_n hx hb dX7_fires_91 rfl (lv_at hl 4 rfl) ?_
        refine lv_iconst (v := 2) hx hb dX7_fires_92 (by decide) ?_
        have hSc : S_X7_of u69 q2 2 := hS.1
        have hS := hS.2
        refine gcV_i (rest := [.int 7, .int q2, .ref (ad 0)]) X (c_X7_of l D cy ad rest u69 q2 2 hSc) gy_X7_of gX7_fires_X7_of ⟨rfl, rfl, Nat.le_of_ble_eq_true rfl, Nat.le_of_ble_eq_true rfl⟩ 0 rfl rfl rfl hl rfl (Nat.le_of_ble_eq_true rfl) dX7_fires_93 ⟨Nat.zero_le _, Nat.zero_le _⟩ hw (fun r70 _ H locs hr70 hw => ?_)
        have hr70 : r70 = F_X7_of u69 q2 2 := hr70
        have hF := hF.trans (bnd_eq hr70)
        try have hS := Eq.mp (bnd_eq hr70) hS
        have hSc : S_X7_sets u69 q2 7 r70 := hS.1
        have hS := hS.2
        refine gcV_v (rest := []) X (c_X7_sets l D cy ad rest u69 q2 7 r70 hSc) gy_X7_sets gX7_fires_X7_sets ⟨rfl, rfl, Nat.le_of_ble_eq_true rfl, Nat.le_of_ble_eq_true rfl⟩ 0 rfl rfl rfl hl rfl (Nat.le_of_ble_eq_true rfl) dX7_fires_96 ⟨Nat.zero_le _, Nat.zero_le _⟩ hw (fun u73 H locs hu73 hw => ?_)
        have hu73 : u73 = F_X7_sets u69 q2 7 r70 := hu73
        have hF := hF.trans (bnd_eq hu73)
        try have hS := Eq.mp (bnd_eq hu73) hS
        refine lv_aload_n hx hb dX7_fires_99 rfl (lv_at hl 2 rfl) ?_
        refine lv_iload_n hx hb dX7_fires_100 rfl (lv_at hl 4 rfl) ?_
        refine lv_bipush (v := 8) hx hb dX7_fires_101 (by decide) ?_
        refine lv_aload_n hx hb dX7_fires_103 rfl (lv_at hl 2 rfl) ?_
        refine lv_iload_n hx hb dX7_fires_104 rfl (lv_at hl 4 rfl) ?_
        refine lv_iconst (v := 3) hx hb dX7_fires_105 (by decide) ?_
        have hSc : S_X7_of u73 q2 3 := hS.1
        have hS := hS.2
        refine gcV_i (rest := [.int 8, .int q2, .ref (ad 0)]) X (c_X7_of l D cy ad rest u73 q2 3 hSc) gy_X7_of gX7_fires_X7_of ⟨rfl, rfl, Nat.le_of_ble_eq_true rfl, Nat.le_of_ble_eq_true rfl⟩ 0 rfl rfl rfl hl rfl (Nat.le_of_ble_eq_true rfl) dX7_fires_106 ⟨Nat.zero_le _, Nat.zero_le _⟩ hw (fun r74 _ H locs hr74 hw => ?_)
        have hr74 : r74 = F_X7_of u73 q2 3 := hr74
        have hF := hF.trans (bnd_eq hr74)
        try have hS := Eq.mp (bnd_eq hr74) hS
        have hSc : S_X7_sets u73 q2 8 r74 := hS.1
        have hS := hS.2
        refine gcV_v (rest := []) X (c_X7_sets l D cy ad rest u73 q2 8 r74 hSc) gy_X7_sets gX7_fires_X7_sets ⟨rfl, rfl, Nat.le_of_ble_eq_true rfl, Nat.le_of_ble_eq_true rfl⟩ 0 rfl rfl rfl hl rfl (Nat.le_of_ble_eq_true rfl) dX7_fires_109 ⟨Nat.zero_le _, Nat.zero_le _⟩ hw (fun u77 H locs hu77 hw => ?_)
        have hu77 : u77 = F_X7_sets u73 q2 8 r74 := hu77
        have hF := hF.trans (bnd_eq hu77)
        try have hS := Eq.mp (bnd_eq hu77) hS
        refine lv_aload_n hx hb dX7_fires_112 rfl (lv_at hl 2 rfl) ?_
        refine lv_iload_n hx hb dX7_fires_113 rfl (lv_at hl 4 rfl) ?_
        refine lv_bipush (v := 9) hx hb dX7_fires_114 (by decide) ?_
        refine lv_aload_n hx hb dX7_fires_116 rfl (lv_at hl 2 rfl) ?_
        refine lv_iload_n hx hb dX7_fires_117 rfl (lv_at hl 4 rfl) ?_
        refine lv_bipush (v := 9) hx hb dX7_fires_118 (by decide) ?_
        have hSc : S_X7_of u77 q2 9 := hS.1
        have hS := hS.2
        refine gcV_i (rest := [.int 9, .int q2, .ref (ad 0)]) X (c_X7_of l D cy ad rest u77 q2 9 hSc) gy_X7_of gX7_fires_X7_of ⟨rfl, rfl, Nat.le_of_ble_eq_true rfl, Nat.le_of_ble_eq_true rfl⟩ 0 rfl rfl rfl hl rfl (Nat.le_of_ble_eq_true rfl) dX7_fires_120 ⟨Nat.zero_le _, Nat.zero_le _⟩ hw (fun r78 _ H locs hr78 hw => ?_)
        have hr78 : r78 = F_X7_of u77 q2 9 := hr78
        have hF := hF.trans (bnd_eq hr78)
        try have hS := Eq.mp (bnd_eq hr78) hS
        refine lv_iconst (v := 1) hx hb dX7_fires_123 (by decide) ?_
        refine lv_iadd hx hb dX7_fires_124 ?_
        have hSc : S_X7_sets u77 q2 9 (r78 + 1) := hS.1
        have hS := hS.2
        refine gcV_v (rest := []) X (c_X7_sets l D cy ad rest u77 q2 9 (r78 + 1) hSc) gy_X7_sets gX7_fires_X7_sets ⟨rfl, rfl, Nat.le_of_ble_eq_true rfl, Nat.le_of_ble_eq_true rfl⟩ 0 rfl rfl rfl hl rfl (Nat.le_of_ble_eq_true rfl) dX7_fires_125 ⟨Nat.zero_le _, Nat.zero_le _⟩ hw (fun u81 H locs hu81 hw => ?_)
        have hu81 : u81 = F_X7_sets u77 q2 9 (r78 + 1) := hu81
        have hF := hF.trans (bnd_eq hu81)
        try have hS := Eq.mp (bnd_eq hu81) hS
        refine lv_iload_n hx hb dX7_fires_128 rfl (lv_at hl 1 rfl) ?_
        refine lv_iconst (v := 1) hx hb dX7_fires_129 (by decide) ?_
        refine lv_iadd hx hb dX7_fires_130 ?_
        exact hret _ _ _ _ _ _ dX7_fires_131 ⟨congrArg Prod.fst (hF.symm.trans hsp), congrArg Prod.snd (hF.symm.trans hsp)⟩ hw
    · skip
      have hF := hF.trans (if_pos c30)
      try have hS := Eq.mp (if_pos c30) hS
      refine lv_iload_n hx hb dX7_fires_24 rfl (lv_at hl 3 rfl) ?_
      refine lv_if_ne (tgt := 30) hx hb dX7_fires_25 (by decide) (fun c82 => ?_) (fun c82 => ?_)
      · skip
        have hF := hF.trans (if_neg c82)
        try have hS := Eq.mp (if_neg c82) hS
        refine lv_iload hx hb dX7_fires_30 (lv_at hl 0 rfl) ?_
        refine lv_if_eq (tgt := 43) hx hb dX7_fires_32 (by decide) (fun c83 => ?_) (fun c83 => ?_)
        · skip
          have hF := hF.trans (if_pos c83)
          try have hS := Eq.mp (if_pos c83) hS
          refine lv_aload_n hx hb dX7_fires_43 rfl (lv_at hl 2 rfl) ?_
          refine lv_iload_n hx hb dX7_fires_44 rfl (lv_at hl 4 rfl) ?_
          have hSc : S_X7_resultOf C q2 := hS.1
          have hS := hS.2
          refine gcV_i (rest := []) X (c_X7_resultOf l D cy ad rest C q2 hSc) gy_X7_resultOf gX7_fires_X7_resultOf ⟨rfl, rfl, Nat.le_of_ble_eq_true rfl, Nat.le_of_ble_eq_true rfl⟩ 0 rfl rfl rfl hl rfl (Nat.le_of_ble_eq_true rfl) dX7_fires_45 ⟨Nat.zero_le _, Nat.zero_le _⟩ hw (fun r84 _ H locs hr84 hw => ?_)
          have hr84 : r84 = F_X7_resultOf C q2 := hr84
          have hF := hF.trans (bnd_eq hr84)
          try have hS := Eq.mp (bnd_eq hr84) hS
          refine lv_istore (lv' := [(4, .int r84), (3, .int 0), (0, .ref (ad 0)), (1, .int q1), (2, .int q2)]) hx hb dX7_fires_48 hl (by decide) rfl (fun ls hl => ?_)
          refine lv_aload_n hx hb dX7_fires_50 rfl (lv_at hl 2 rfl) ?_
          refine lv_iload_n hx hb dX7_fires_51 rfl (lv_at hl 3 rfl) ?_
          refine lv_iload_n hx hb dX7_fires_52 rfl (lv_at hl 4 rfl) ?_
          refine lv_iload hx hb dX7_fires_53 (lv_at hl 0 rfl) ?_
          refine lv_aload_n hx hb dX7_fires_55 rfl (lv_at hl 2 rfl) ?_
          refine lv_iload_n hx hb dX7_fires_56 rfl (lv_at hl 4 rfl) ?_
          refine lv_iconst (v := 2) hx hb dX7_fires_57 (by decide) ?_
          have hSc : S_X7_of C q2 2 := hS.1
          have hS := hS.2
          refine gcV_i (rest := [.int r84, .int q2, .int q1, .ref (ad 0)]) X (c_X7_of l D cy ad rest C q2 2 hSc) gy_X7_of gX7_fires_X7_of ⟨rfl, rfl, Nat.le_of_ble_eq_true rfl, Nat.le_of_ble_eq_true rfl⟩ 0 rfl rfl rfl hl rfl (Nat.le_of_ble_eq_true rfl) dX7_fires_58 ⟨Nat.zero_le _, Nat.zero_le _⟩ hw (fun r86 _ H locs hr86 hw => ?_)
          have hr86 : r86 = F_X7_of C q2 2 := hr86
          have hF := hF.trans (bnd_eq hr86)
          try have hS := Eq.mp (bnd_eq hr86) hS
          refine lv_aload_n hx hb dX7_fires_61 rfl (lv_at hl 2 rfl) ?_
          refine lv_iload_n hx hb dX7_fires_62 rfl (lv_at hl 4 rfl) ?_
          refine lv_iconst (v := 3) hx hb dX7_fires_63 (by decide) ?_
          have hSc : S_X7_of C q2 3 := hS.1
          have hS := hS.2
          refine gcV_i (rest := [.int r86, .int r84, .int q2, .int q1, .ref (ad 0)]) X (c_X7_of l D cy ad rest C q2 3 hSc) gy_X7_of gX7_fires_X7_of ⟨rfl, rfl, Nat.le_of_ble_eq_true rfl, Nat.le_of_ble_eq_true rfl⟩ 0 rfl rfl rfl hl rfl (Nat.le_of_ble_eq_true rfl) dX7_fires_64 ⟨Nat.zero_le _, Nat.zero_le _⟩ hw (fun r88 _ H locs hr88 hw => ?_)
          have hr88 : r88 = F_X7_of C q2 3 := hr88
          have hF := hF.trans (bnd_eq hr88)
          try have hS := Eq.mp (bnd_eq hr88) hS
          have hSc : S_X7_logs C q1 q2 r84 r86 r88 := hS.1
          have hS := hS.2
          refine gcV_v (rest := []) X (c_X7_logs l D cy ad rest C q1 q2 r84 r86 r88 hSc) gy_X7_logs gX7_fires_X7_logs ⟨rfl, rfl, Nat.le_of_ble_eq_true rfl, Nat.le_of_ble_eq_true rfl⟩ 0 rfl rfl rfl hl rfl (Nat.le_of_ble_eq_true rfl) dX7_fires_67 ⟨Nat.zero_le _, Nat.zero_le _⟩ hw (fun u91 H locs hu91 hw => ?_)
          have hu91 : u91 = F_X7_logs C q1 q2 r84 r86 r88 := hu91
          have hF := hF.trans (bnd_eq hu91)
          try have hS := Eq.mp (bnd_eq hu91) hS
          refine lv_aload_n hx hb dX7_fires_70 rfl (lv_at hl 2 rfl) ?_
          refine lv_iload_n hx hb dX7_fires_71 rfl (lv_at hl 4 rfl) ?_
          refine lv_iconst (v := 5) hx hb dX7_fires_72 (by decide) ?_
          refine lv_iconst (v := 1) hx hb dX7_fires_73 (by decide) ?_
          have hSc : S_X7_sets u91 q2 5 1 := hS.1
          have hS := hS.2
          refine gcV_v (rest := []) X (c_X7_sets l D cy ad rest u91 q2 5 1 hSc) gy_X7_sets gX7_fires_X7_sets ⟨rfl, rfl, Nat.le_of_ble_eq_true rfl, Nat.le_of_ble_eq_true rfl⟩ 0 rfl rfl rfl hl rfl (Nat.le_of_ble_eq_true rfl) dX7_fires_74 ⟨Nat.zero_le _, Nat.zero_le _⟩ hw (fun u93 H locs hu93 hw => ?_)
          have hu93 : u93 = F_X7_sets u91 q2 5 1 := hu93
          have hF := hF.trans (bnd_eq hu93)
          try have hS := Eq.mp (bnd_eq hu93) hS
          refine lv_aload_n hx hb dX7_fires_77 rfl (lv_at hl 2 rfl) ?_
          refine lv_iload_n hx hb dX7_fires_78 rfl (lv_at hl 4 rfl) ?_
          refine lv_bipush (v := 6) hx hb dX7_fires_79 (by decide) ?_
          refine lv_iload hx hb dX7_fires_81 (lv_at hl 0 rfl) ?_
          have hSc : S_X7_sets u93 q2 6 r84 := hS.1
          have hS := hS.2
          refine gcV_v (rest := []) X (c_X7_sets l D cy ad rest u93 q2 6 r84 hSc) gy_X7_sets gX7_fires_X7_sets ⟨rfl, rfl, Nat.le_of_ble_eq_true rfl, Nat.le_of_ble_eq_true rfl⟩ 0 rfl rfl rfl hl rfl (Nat.le_of_ble_eq_true rfl) dX7_fires_83 ⟨Nat.zero_le _, Nat.zero_le _⟩ hw (fun u95 H locs hu95 hw => ?_)
          have hu95 : u95 = F_X7_sets u93 q2 6 r84 := hu95
          have hF := hF.trans (bnd_eq hu95)
          try have hS := Eq.mp (bnd_eq hu95) hS
          refine lv_aload_n hx hb dX7_fires_86 rfl (lv_at hl 2 rfl) ?_
          refine lv_iload_n hx hb dX7_fires_87 rfl (lv_at hl 4 rfl) ?_
          refine lv_bipush (v := 7) hx hb dX7_fires_88 (by decide) ?_
          refine lv_aload_n hx hb dX7_fires_90 rfl (lv_at hl 2 rfl) ?_
          refine lv_iload_n hx hb dX7_fires_91 rfl (lv_at hl 4 rfl) ?_
          refine lv_iconst (v := 2) hx hb dX7_fires_92 (by decide) ?_
          have hSc : S_X7_of u95 q2 2 := hS.1
          have hS := hS.2
          refine gcV_i (rest := [.int 7, .int q2, .ref (ad 0)]) X (c_X7_of l D cy ad rest u95 q2 2 hSc) gy_X7_of gX7_fires_X7_of ⟨rfl, rfl, Nat.le_of_ble_eq_true rfl, Nat.le_of_ble_eq_true rfl⟩ 0 rfl rfl rfl hl rfl (Nat.le_of_ble_eq_true rfl) dX7_fires_93 ⟨Nat.zero_le _, Nat.zero_le _⟩ hw (fun r96 _ H locs hr96 hw => ?_)
          have hr96 : r96 = F_X7_of u95 q2 2 := hr96
          have hF := hF.trans (bnd_eq hr96)
          try have hS := Eq.mp (bnd_eq hr96) hS
          have hSc : S_X7_sets u95 q2 7 r96 := hS.1
          have hS := hS.2
          refine gcV_v (rest := []) X (c_X7_sets l D cy ad rest u95 q2 7 r96 hSc) gy_X7_sets gX7_fires_X7_sets ⟨rfl, rfl, Nat.le_of_ble_eq_true rfl, Nat.le_of_ble_eq_true rfl⟩ 0 rfl rfl rfl hl rfl (Nat.le_of_ble_eq_true rfl) dX7_fires_96 ⟨Nat.zero_le _, Nat.zero_le _⟩ hw (fun u99 H locs hu99 hw => ?_)
          have hu99 : u99 = F_X7_sets u95 q2 7 r96 := hu99
          have hF := hF.trans (bnd_eq hu99)
          try have hS := Eq.mp (bnd_eq hu99) hS
          refine lv_aload_n hx hb dX7_fires_99 rfl (lv_at hl 2 rfl) ?_
          refine lv_iload_n hx hb dX7_fires_100 rfl (lv_at hl 4 rfl) ?_
          refine lv_bipush (v := 8) hx hb dX7_fires_101 (by decide) ?_
          refine lv_aload_n hx hb dX7_fires_103 rfl (lv_at hl 2 rfl) ?_
          refine lv_iload_n hx hb dX7_fires_104 rfl (lv_at hl 4 rfl) ?_
          refine lv_iconst (v := 3) hx hb dX7_fires_105 (by decide) ?_
          have hSc : S_X7_of u99 q2 3 := hS.1
          have hS := hS.2
          refine gcV_i (rest := [.int 8, .int q2, .ref (ad 0)]) X (c_X7_of l D cy ad rest u99 q2 3 hSc) gy_X7_of gX7_fires_X7_of ⟨rfl, rfl, Nat.le_of_ble_eq_true rfl, Nat.le_of_ble_eq_true rfl⟩ 0 rfl rfl rfl hl rfl (Nat.le_of_ble_eq_true rfl) dX7_fires_106 ⟨Nat.zero_le _, Nat.zero_le _⟩ hw (fun r100 _ H locs hr100 hw => ?_)
          have hr100 : r100 = F_X7_of u99 q2 3 := hr100
          have hF := hF.trans (bnd_eq hr100)
          try have hS := Eq.mp (bnd_eq hr100) hS
          have hSc : S_X7_sets u99 q2 8 r100 := hS.1
          have hS := hS.2
          refine gcV_v (rest := []) X (c_X7_sets l D cy ad rest u99 q2 8 r100 hSc) gy_X7_sets gX7_fires_X7_sets ⟨rfl, rfl, Nat.le_of_ble_eq_true rfl, Nat.le_of_ble_eq_true rfl⟩ 0 rfl rfl rfl hl rfl (Nat.le_of_ble_eq_true rfl) dX7_fires_109 ⟨Nat.zero_le _, Nat.zero_le _⟩ hw (fun u103 H locs hu103 hw => ?_)
          have hu103 : u103 = F_X7_sets u99 q2 8 r100 := hu103
          have hF := hF.trans (bnd_eq hu103)
          try have hS := Eq.mp (bnd_eq hu103) hS
          refine lv_aload_n hx hb dX7_fires_112 rfl (lv_at hl 2 rfl) ?_
          refine lv_iload_n hx hb dX7_fires_113 rfl (lv_at hl 4 rfl) ?_
          refine lv_bipush (v := 9) hx hb dX7_fires_114 (by decide) ?_
          refine lv_aload_n hx hb dX7_fires_116 rfl (lv_at hl 2 rfl) ?_
          refine lv_iload_n hx hb dX7_fires_117 rfl (lv_at hl 4 rfl) ?_
          refine lv_bipush (v := 9) hx hb dX7_fires_118 (by decide) ?_
          have hSc : S_X7_of u103 q2 9 := hS.1
          have hS := hS.2
          refine gcV_i (rest := [.int 9, .int q2, .ref (ad 0)]) X (c_X7_of l D cy ad rest u103 q2 9 hSc) gy_X7_of gX7_fires_X7_of ⟨rfl, rfl, Nat.le_of_ble_eq_true rfl, Nat.le_of_ble_eq_true rfl⟩ 0 rfl rfl rfl hl rfl (Nat.le_of_ble_eq_true rfl) dX7_fires_120 ⟨Nat.zero_le _, Nat.zero_le _⟩ hw (fun r104 _ H locs hr104 hw => ?_)
          have hr104 : r104 = F_X7_of u103 q2 9 := hr104
          have hF := hF.trans (bnd_eq hr104)
          try have hS := Eq.mp (bnd_eq hr104) hS
          refine lv_iconst (v := 1) hx hb dX7_fires_123 (by decide) ?_
          refine lv_iadd hx hb dX7_fires_124 ?_
          have hSc : S_X7_sets u103 q2 9 (r104 + 1) := hS.1
          have hS := hS.2
          refine gcV_v (rest := []) X (c_X7_sets l D cy ad rest u103 q2 9 (r104 + 1) hSc) gy_X7_sets gX7_fires_X7_sets ⟨rfl, rfl, Nat.le_of_ble_eq_true rfl, Nat.le_of_ble_eq_true rfl⟩ 0 rfl rfl rfl hl rfl (Nat.le_of_ble_eq_true rfl) dX7_fires_125 ⟨Nat.zero_le _, Nat.zero_le _⟩ hw (fun u107 H locs hu107 hw => ?_)
          have hu107 : u107 = F_X7_sets u103 q2 9 (r104 + 1) := hu107
          have hF := hF.trans (bnd_eq hu107)
          try have hS := Eq.mp (bnd_eq hu107) hS
          refine lv_iload_n hx hb dX7_fires_128 rfl (lv_at hl 1 rfl) ?_
          refine lv_iconst (v := 1) hx hb dX7_fires_129 (by decide) ?_
          refine lv_iadd hx hb dX7_fires_130 ?_
          exact hret _ _ _ _ _ _ dX7_fires_131 ⟨congrArg Prod.fst (hF.symm.trans hsp), congrArg Prod.snd (hF.symm.trans hsp)⟩ hw
        · skip
          have hF := hF.trans (if_neg c83)
          try have hS := Eq.mp (if_neg c83) hS
          refine lv_aload_n hx hb dX7_fires_35 rfl (lv_at hl 2 rfl) ?_
          refine lv_iload_n hx hb dX7_fires_36 rfl (lv_at hl 4 rfl) ?_
          have hSc : S_X7_takesBack C q2 := hS.1
          have hS := hS.2
          refine gcV_v (rest := []) X (c_X7_takesBack l D cy ad rest C q2 hSc) gy_X7_takesBack gX7_fires_X7_takesBack ⟨rfl, rfl, Nat.le_of_ble_eq_true rfl, Nat.le_of_ble_eq_true rfl⟩ 0 rfl rfl rfl hl rfl (Nat.le_of_ble_eq_true rfl) dX7_fires_37 ⟨Nat.zero_le _, Nat.zero_le _⟩ hw (fun u109 H locs hu109 hw => ?_)
          have hu109 : u109 = F_X7_takesBack C q2 := hu109
          have hF := hF.trans (bnd_eq hu109)
          try have hS := Eq.mp (bnd_eq hu109) hS
          refine lv_iinc (v := (0 + 1)) (lv' := [(3, .int (0 + 1)), (4, .int r28), (0, .ref (ad 0)), (1, .int q1), (2, .int q2)]) hx hb dX7_fires_40 hl (k := 1) rfl rfl (by decide) rfl (fun ls hl => ?_)
          refine lv_aload_n hx hb dX7_fires_43 rfl (lv_at hl 2 rfl) ?_
          refine lv_iload_n hx hb dX7_fires_44 rfl (lv_at hl 4 rfl) ?_
          have hSc : S_X7_resultOf u109 q2 := hS.1
          have hS := hS.2
          refine gcV_i (rest := []) X (c_X7_resultOf l D cy ad rest u109 q2 hSc) gy_X7_resultOf gX7_fires_X7_resultOf ⟨rfl, rfl, Nat.le_of_ble_eq_true rfl, Nat.le_of_ble_eq_true rfl⟩ 0 rfl rfl rfl hl rfl (Nat.le_of_ble_eq_true rfl) dX7_fires_45 ⟨Nat.zero_le _, Nat.zero_le _⟩ hw (fun r110 _ H locs hr110 hw => ?_)
          have hr110 : r110 = F_X7_resultOf u109 q2 := hr110
          have hF := hF.trans (bnd_eq hr110)
          try have hS := Eq.mp (bnd_eq hr110) hS
          refine lv_istore (lv' := [(4, .int r110), (3, .int (0 + 1)), (0, .ref (ad 0)), (1, .int q1), (2, .int q2)]) hx hb dX7_fires_48 hl (by decide) rfl (fun ls hl => ?_)
          refine lv_aload_n hx hb dX7_fires_50 rfl (lv_at hl 2 rfl) ?_
          refine lv_iload_n hx hb dX7_fires_51 rfl (lv_at hl 3 rfl) ?_
          refine lv_iload_n hx hb dX7_fires_52 rfl (lv_at hl 4 rfl) ?_
          refine lv_iload hx hb dX7_fires_53 (lv_at hl 0 rfl) ?_
          refine lv_aload_n hx hb dX7_fires_55 rfl (lv_at hl 2 rfl) ?_
          refine lv_iload_n hx hb dX7_fires_56 rfl (lv_at hl 4 rfl) ?_
          refine lv_iconst (v := 2) hx hb dX7_fires_57 (by decide) ?_
          have hSc : S_X7_of u109 q2 2 := hS.1
          have hS := hS.2
          refine gcV_i (rest := [.int r110, .int q2, .int q1, .ref (ad 0)]) X (c_X7_of l D cy ad rest u109 q2 2 hSc) gy_X7_of gX7_fires_X7_of ⟨rfl, rfl, Nat.le_of_ble_eq_true rfl, Nat.le_of_ble_eq_true rfl⟩ 0 rfl rfl rfl hl rfl (Nat.le_of_ble_eq_true rfl) dX7_fires_58 ⟨Nat.zero_le _, Nat.zero_le _⟩ hw (fun r112 _ H locs hr112 hw => ?_)
          have hr112 : r112 = F_X7_of u109 q2 2 := hr112
          have hF := hF.trans (bnd_eq hr112)
          try have hS := Eq.mp (bnd_eq hr112) hS
          refine lv_aload_n hx hb dX7_fires_61 rfl (lv_at hl 2 rfl) ?_
          refine lv_iload_n hx hb dX7_fires_62 rfl (lv_at hl 4 rfl) ?_
          refine lv_iconst (v := 3) hx hb dX7_fires_63 (by decide) ?_
          have hSc : S_X7_of u109 q2 3 := hS.1
          have hS := hS.2
          refine gcV_i (rest := [.int r112, .int r110, .int q2, .int q1, .ref (ad 0)]) X (c_X7_of l D cy ad rest u109 q2 3 hSc) gy_X7_of gX7_fires_X7_of ⟨rfl, rfl, Nat.le_of_ble_eq_true rfl, Nat.le_of_ble_eq_true rfl⟩ 0 rfl rfl rfl hl rfl (Nat.le_of_ble_eq_true rfl) dX7_fires_64 ⟨Nat.zero_le _, Nat.zero_le _⟩ hw (fun r114 _ H locs hr114 hw => ?_)
          have hr114 : r114 = F_X7_of u109 q2 3 := hr114
          have hF := hF.trans (bnd_eq hr114)
          try have hS := Eq.mp (bnd_eq hr114) hS
          have hSc : S_X7_logs u109 q1 q2 r110 r112 r114 := hS.1
          have hS := hS.2
          refine gcV_v (rest := []) X (c_X7_logs l D cy ad rest u109 q1 q2 r110 r112 r114 hSc) gy_X7_logs gX7_fires_X7_logs ⟨rfl, rfl, Nat.le_of_ble_eq_true rfl, Nat.le_of_ble_eq_true rfl⟩ 0 rfl rfl rfl hl rfl (Nat.le_of_ble_eq_true rfl) dX7_fires_67 ⟨Nat.zero_le _, Nat.zero_le _⟩ hw (fun u117 H locs hu117 hw => ?_)
          have hu117 : u117 = F_X7_logs u109 q1 q2 r110 r112 r114 := hu117
          have hF := hF.trans (bnd_eq hu117)
          try have hS := Eq.mp (bnd_eq hu117) hS
          refine lv_aload_n hx hb dX7_fires_70 rfl (lv_at hl 2 rfl) ?_
          refine lv_iload_n hx hb dX7_fires_71 rfl (lv_at hl 4 rfl) ?_
          refine lv_iconst (v := 5) hx hb dX7_fires_72 (by decide) ?_
          refine lv_iconst (v := 1) hx hb dX7_fires_73 (by decide) ?_
          have hSc : S_X7_sets u117 q2 5 1 := hS.1
          have hS := hS.2
          refine gcV_v (rest := []) X (c_X7_sets l D cy ad rest u117 q2 5 1 hSc) gy_X7_sets gX7_fires_X7_sets ⟨rfl, rfl, Nat.le_of_ble_eq_true rfl, Nat.le_of_ble_eq_true rfl⟩ 0 rfl rfl rfl hl rfl (Nat.le_of_ble_eq_true rfl) dX7_fires_74 ⟨Nat.zero_le _, Nat.zero_le _⟩ hw (fun u119 H locs hu119 hw => ?_)
          have hu119 : u119 = F_X7_sets u117 q2 5 1 := hu119
          have hF := hF.trans (bnd_eq hu119)
          try have hS := Eq.mp (bnd_eq hu119) hS
          refine lv_aload_n hx hb dX7_fires_77 rfl (lv_at hl 2 rfl) ?_
          refine lv_iload_n hx hb dX7_fires_78 rfl (lv_at hl 4 rfl) ?_
          refine lv_bipush (v := 6) hx hb dX7_fires_79 (by decide) ?_
          refine lv_iload hx hb dX7_fires_81 (lv_at hl 0 rfl) ?_
          have hSc : S_X7_sets u119 q2 6 r110 := hS.1
          have hS := hS.2
          refine gcV_v (rest := []) X (c_X7_sets l D cy ad rest u119 q2 6 r110 hSc) gy_X7_sets gX7_fires_X7_sets ⟨rfl, rfl, Nat.le_of_ble_eq_true rfl, Nat.le_of_ble_eq_true rfl⟩ 0 rfl rfl rfl hl rfl (Nat.le_of_ble_eq_true rfl) dX7_fires_83 ⟨Nat.zero_le _, Nat.zero_le _⟩ hw (fun u121 H locs hu121 hw => ?_)
          have hu121 : u121 = F_X7_sets u119 q2 6 r110 := hu121
          have hF := hF.trans (bnd_eq hu121)
          try have hS := Eq.mp (bnd_eq hu121) hS
          refine lv_aload_n hx hb dX7_fires_86 rfl (lv_at hl 2 rfl) ?_
          refine lv_iload_n hx hb dX7_fires_87 rfl (lv_at hl 4 rfl) ?_
          refine lv_bipush (v := 7) hx hb dX7_fires_88 (by decide) ?_
          refine lv_aload_n hx hb dX7_fires_90 rfl (lv_at hl 2 rfl) ?_
          refine lv_iload_n hx hb dX7_fires_91 rfl (lv_at hl 4 rfl) ?_
          refine lv_iconst (v := 2) hx hb dX7_fires_92 (by decide) ?_
          have hSc : S_X7_of u121 q2 2 := hS.1
          have hS := hS.2
          refine gcV_i (rest := [.int 7, .int q2, .ref (ad 0)]) X (c_X7_of l D cy ad rest u121 q2 2 hSc) gy_X7_of gX7_fires_X7_of ⟨rfl, rfl, Nat.le_of_ble_eq_true rfl, Nat.le_of_ble_eq_true rfl⟩ 0 rfl rfl rfl hl rfl (Nat.le_of_ble_eq_true rfl) dX7_fires_93 ⟨Nat.zero_le _, Nat.zero_le _⟩ hw (fun r122 _ H locs hr122 hw => ?_)
          have hr122 : r122 = F_X7_of u121 q2 2 := hr122
          have hF := hF.trans (bnd_eq hr122)
          try have hS := Eq.mp (bnd_eq hr122) hS
          have hSc : S_X7_sets u121 q2 7 r122 := hS.1
          have hS := hS.2
          refine gcV_v (rest := []) X (c_X7_sets l D cy ad rest u121 q2 7 r122 hSc) gy_X7_sets gX7_fires_X7_sets ⟨rfl, rfl, Nat.le_of_ble_eq_true rfl, Nat.le_of_ble_eq_true rfl⟩ 0 rfl rfl rfl hl rfl (Nat.le_of_ble_eq_true rfl) dX7_fires_96 ⟨Nat.zero_le _, Nat.zero_le _⟩ hw (fun u125 H locs hu125 hw => ?_)
          have hu125 : u125 = F_X7_sets u121 q2 7 r122 := hu125
          have hF := hF.trans (bnd_eq hu125)
          try have hS := Eq.mp (bnd_eq hu125) hS
          refine lv_aload_n hx hb dX7_fires_99 rfl (lv_at hl 2 rfl) ?_
          refine lv_iload_n hx hb dX7_fires_100 rfl (lv_at hl 4 rfl) ?_
          refine lv_bipush (v := 8) hx hb dX7_fires_101 (by decide) ?_
          refine lv_aload_n hx hb dX7_fires_103 rfl (lv_at hl 2 rfl) ?_
          refine lv_iload_n hx hb dX7_fires_104 rfl (lv_at hl 4 rfl) ?_
          refine lv_iconst (v := 3) hx hb dX7_fires_105 (by decide) ?_
          have hSc : S_X7_of u125 q2 3 := hS.1
          have hS := hS.2
          refine gcV_i (rest := [.int 8, .int q2, .ref (ad 0)]) X (c_X7_of l D cy ad rest u125 q2 3 hSc) gy_X7_of gX7_fires_X7_of ⟨rfl, rfl, Nat.le_of_ble_eq_true rfl, Nat.le_of_ble_eq_true rfl⟩ 0 rfl rfl rfl hl rfl (Nat.le_of_ble_eq_true rfl) dX7_fires_106 ⟨Nat.zero_le _, Nat.zero_le _⟩ hw (fun r126 _ H locs hr126 hw => ?_)
          have hr126 : r126 = F_X7_of u125 q2 3 := hr126
          have hF := hF.trans (bnd_eq hr126)
          try have hS := Eq.mp (bnd_eq hr126) hS
          have hSc : S_X7_sets u125 q2 8 r126 := hS.1
          have hS := hS.2
          refine gcV_v (rest := []) X (c_X7_sets l D cy ad rest u125 q2 8 r126 hSc) gy_X7_sets gX7_fires_X7_sets ⟨rfl, rfl, Nat.le_of_ble_eq_true rfl, Nat.le_of_ble_eq_true rfl⟩ 0 rfl rfl rfl hl rfl (Nat.le_of_ble_eq_true rfl) dX7_fires_109 ⟨Nat.zero_le _, Nat.zero_le _⟩ hw (fun u129 H locs hu129 hw => ?_)
          have hu129 : u129 = F_X7_sets u125 q2 8 r126 := hu129
          have hF := hF.trans (bnd_eq hu129)
          try have hS := Eq.mp (bnd_eq hu129) hS
          refine lv_aload_n hx hb dX7_fires_112 rfl (lv_at hl 2 rfl) ?_
          refine lv_iload_n hx hb dX7_fires_113 rfl (lv_at hl 4 rfl) ?_
          refine lv_bipush (v := 9) hx hb dX7_fires_114 (by decide) ?_
          refine lv_aload_n hx hb dX7_fires_116 rfl (lv_at hl 2 rfl) ?_
          refine lv_iload_n hx hb dX7_fires_117 rfl (lv_at hl 4 rfl) ?_
          refine lv_bipush (v := 9) hx hb dX7_fires_118 (by decide) ?_
          have hSc : S_X7_of u129 q2 9 := hS.1
          have hS := hS.2
          refine gcV_i (rest := [.int 9, .int q2, .ref (ad 0)]) X (c_X7_of l D cy ad rest u129 q2 9 hSc) gy_X7_of gX7_fires_X7_of ⟨rfl, rfl, Nat.le_of_ble_eq_true rfl, Nat.le_of_ble_eq_true rfl⟩ 0 rfl rfl rfl hl rfl (Nat.le_of_ble_eq_true rfl) dX7_fires_120 ⟨Nat.zero_le _, Nat.zero_le _⟩ hw (fun r130 _ H locs hr130 hw => ?_)
          have hr130 : r130 = F_X7_of u129 q2 9 := hr130
          have hF := hF.trans (bnd_eq hr130)
          try have hS := Eq.mp (bnd_eq hr130) hS
          refine lv_iconst (v := 1) hx hb dX7_fires_123 (by decide) ?_
          refine lv_iadd hx hb dX7_fires_124 ?_
          have hSc : S_X7_sets u129 q2 9 (r130 + 1) := hS.1
          have hS := hS.2
          refine gcV_v (rest := []) X (c_X7_sets l D cy ad rest u129 q2 9 (r130 + 1) hSc) gy_X7_sets gX7_fires_X7_sets ⟨rfl, rfl, Nat.le_of_ble_eq_true rfl, Nat.le_of_ble_eq_true rfl⟩ 0 rfl rfl rfl hl rfl (Nat.le_of_ble_eq_true rfl) dX7_fires_125 ⟨Nat.zero_le _, Nat.zero_le _⟩ hw (fun u133 H locs hu133 hw => ?_)
          have hu133 : u133 = F_X7_sets u129 q2 9 (r130 + 1) := hu133
          have hF := hF.trans (bnd_eq hu133)
          try have hS := Eq.mp (bnd_eq hu133) hS
          refine lv_iload_n hx hb dX7_fires_128 rfl (lv_at hl 1 rfl) ?_
          refine lv_iconst (v := 1) hx hb dX7_fires_129 (by decide) ?_
          refine lv_iadd hx hb dX7_fires_130 ?_
          exact hret _ _ _ _ _ _ dX7_fires_131 ⟨congrArg Prod.fst (hF.symm.trans hsp), congrArg Prod.snd (hF.symm.trans hsp)⟩ hw
      · skip
        have hF := hF.trans (if_pos c82)
        try have hS := Eq.mp (if_pos c82) hS
        refine lv_iconst (v := 0) hx hb dX7_fires_28 (by decide) ?_
        exact hret _ _ _ _ _ _ dX7_fires_29 ⟨congrArg Prod.fst (hF.symm.trans hsp), congrArg Prod.snd (hF.symm.trans hsp)⟩ hw
theorem gy_X7_meet : gY yX7_meet RX7 cX7_meet 4 (some .boolean) wsX7_meet 2 := ⟨⟨_, rfl⟩, rfl, by decide +kernel, by decide +kernel, by decide +kernel⟩
def F_X7_meet (C : CS) (q1 : Int32) (q2 : Int32) : Int32 := (bnd (F_X7_of C q1 2) (fun r1 => (bnd (F_X7_of C q2 3) (fun r3 => (bnd (F_X7_gapOf C q2) (fun r5 => (if (r3 + r5) < r1 then (bnd (F_X7_of C q2 2) (fun r8 => (bnd (F_X7_of C q1 3) (fun r10 => (bnd (F_X7_gapOf C q1) (fun r12 => (if (r10 + r12) < r8 then 0 else (if r8 < r1 then 0 else 1)))))))) else (bnd (F_X7_of C q2 2) (fun r22 => (if r1 < r22 then (bnd (F_X7_of C q1 3) (fun r27 => (bnd (F_X7_gapOf C q1) (fun r29 => (if (r27 + r29) < r22 then 0 else (if r22 < r1 then 0 else 1)))))) else 1))))))))))
def S_X7_meet (C : CS) (q1 : Int32) (q2 : Int32) : Prop := (S_X7_of C q1 2 ∧ (bnd (F_X7_of C q1 2) (fun r1 => (S_X7_of C q2 3 ∧ (bnd (F_X7_of C q2 3) (fun r3 => (S_X7_gapOf C q2 ∧ (bnd (F_X7_gapOf C q2) (fun r5 => (if (r3 + r5) < r1 then (S_X7_of C q2 2 ∧ (bnd (F_X7_of C q2 2) (fun r8 => (S_X7_of C q1 3 ∧ (bnd (F_X7_of C q1 3) (fun r10 => (S_X7_gapOf C q1 ∧ (bnd (F_X7_gapOf C q1) (fun r12 => (if (r10 + r12) < r8 then True else (S_X7_of C q2 2 ∧ (S_X7_of C q1 2 ∧ True)))))))))))) else (S_X7_of C q1 2 ∧ (S_X7_of C q2 2 ∧ (bnd (F_X7_of C q2 2) (fun r22 => (if r1 < r22 then (S_X7_of C q2 2 ∧ (S_X7_of C q1 3 ∧ (bnd (F_X7_of C q1 3) (fun r27 => (S_X7_gapOf C q1 ∧ (bnd (F_X7_gapOf C q1) (fun r29 => (if (r27 + r29) < r22 then True else (S_X7_of C q2 2 ∧ (S_X7_of C q1 2 ∧ True)))))))))) else True)))))))))))))))
abbrev rmX7_meet : Room := { frames := 2, cells := 0, slots := 0, locals := 43 }
set_option maxHeartbeats 4000000 in
set_option maxRecDepth 100000 in
theorem c_X7_meet (l : Launch) (D : va_G) (cy : Nat → ClassId) (ad : Nat → Nat) (rest : va_W) (C : CS) (q1 : Int32) (q2 : Int32) (hS : S_X7_meet C q1 q2) : GMi l yX7_meet wsX7_meet rmX7_meet D cy [.ref (ad 0), .int q1, .int q2] (MW cy ad C ++ rest) (fun (r : Int32) (_ : Unit) => r = F_X7_meet C q1 q2 ∧ (r = 0 ∨ r = 1)) (fun _ => MW cy ad C ++ rest) := by
  refine GMz.intro cX7_meet 4 RX7 (by decide) rfl rfl (Nat.le_of_ble_eq_true rfl) ?_
  intro p e s m args below meth c A Q ls X hret hl hw
  have hx := X.1
  have hb := X.2.1
  have hl : lv_has ls 4 [(0, .ref (ad 0)), (1, .int q1), (2, .int q2)] := hl
  obtain ⟨sp, hsp⟩ : ∃ sp, sp = F_X7_meet C q1 q2 := ⟨_, rfl⟩
  have hF := hsp.trans (F_X7_meet.eq_1 C q1 q2)
  have hS := Eq.mp (S_X7_meet.eq_1 C q1 q2) hS
  refine lv_aload_n hx hb dX7_meet_0 rfl (lv_at hl 0 rfl) ?_
  refine lv_iload_n hx hb dX7_meet_1 rfl (lv_at hl 1 rfl) ?_
  refine lv_iconst (v := 2) hx hb dX7_meet_2 (by decide) ?_
  have hSc : S_X7_of C q1 2 := hS.1
  have hS := hS.2
  refine gcV_i (rest := []) X (c_X7_of l D cy ad rest C q1 2 hSc) gy_X7_of gX7_meet_X7_of ⟨rfl, rfl, Nat.le_of_ble_eq_true rfl, Nat.le_of_ble_eq_true rfl⟩ 0 rfl rfl rfl hl rfl (Nat.le_of_ble_eq_true rfl) dX7_meet_3 ⟨Nat.zero_le _, Nat.zero_le _⟩ hw (fun r1 _ H locs hr1 hw => ?_)
  have hr1 : r1 = F_X7_of C q1 2 := hr1
  have hF := hF.trans (bnd_eq hr1)
  try have hS := Eq.mp (bnd_eq hr1) hS
  refine lv_aload_n hx hb dX7_meet_6 rfl (lv_at hl 0 rfl) ?_
  refine lv_iload_n hx hb dX7_meet_7 rfl (lv_at hl 2 rfl) ?_
  refine lv_iconst (v := 3) hx hb dX7_meet_8 (by decide) ?_
  have hSc : S_X7_of C q2 3 := hS.1
  have hS := hS.2
  refine gcV_i (rest := [.int r1]) X (c_X7_of l D cy ad rest C q2 3 hSc) gy_X7_of gX7_meet_X7_of ⟨rfl, rfl, Nat.le_of_ble_eq_true rfl, Nat.le_of_ble_eq_true rfl⟩ 0 rfl rfl rfl hl rfl (Nat.le_of_ble_eq_true rfl) dX7_meet_9 ⟨Nat.zero_le _, Nat.zero_le _⟩ hw (fun r3 _ H locs hr3 hw => ?_)
  have hr3 : r3 = F_X7_of C q2 3 := hr3
  have hF := hF.trans (bnd_eq hr3)
  try have hS := Eq.mp (bnd_eq hr3) hS
  refine lv_aload_n hx hb dX7_meet_12 rfl (lv_at hl 0 rfl) ?_
  refine lv_iload_n hx hb dX7_meet_13 rfl (lv_at hl 2 rfl) ?_
  have hSc : S_X7_gapOf C q2 := hS.1
  have hS := hS.2
  refine gcV_i (rest := [.int r3, .int r1]) X (c_X7_gapOf l D cy ad rest C q2 hSc) gy_X7_gapOf gX7_meet_X7_gapOf ⟨rfl, rfl, Nat.le_of_ble_eq_true rfl, Nat.le_of_ble_eq_true rfl⟩ 0 rfl rfl rfl hl rfl (Nat.le_of_ble_eq_true rfl) dX7_meet_14 ⟨Nat.zero_le _, Nat.zero_le _⟩ hw (fun r5 _ H locs hr5 hw => ?_)
  have hr5 : r5 = F_X7_gapOf C q2 := hr5
  have hF := hF.trans (bnd_eq hr5)
  try have hS := Eq.mp (bnd_eq hr5) hS
  refine lv_iadd hx hb dX7_meet_17 ?_
  refine lv_icmp_gt (tgt := 40) hx hb dX7_meet_18 (by decide) (fun c7 => ?_) (fun c7 => ?_)
  · skip
    have hF := hF.trans (if_pos c7)
    try have hS := Eq.mp (if_pos c7) hS
    refine lv_iconst (v := 0) hx hb dX7_meet_40 (by decide) ?_
    refine lv_istore_n (lv' := [(3, .int 0), (0, .ref (ad 0)), (1, .int q1), (2, .int q2)]) hx hb dX7_meet_41 rfl hl (by decide) rfl (fun ls hl => ?_)
    refine lv_iload_n hx hb dX7_meet_42 rfl (lv_at hl 0 rfl) ?_
    refine lv_if_ne (tgt := 82) hx hb dX7_meet_43 (by decide) (fun c => absurd (by decide) c) (fun _ => ?_)
    refine lv_aload_n hx hb dX7_meet_46 rfl (lv_at hl 1 rfl) ?_
    refine lv_iload_n hx hb dX7_meet_47 rfl (lv_at hl 3 rfl) ?_
    refine lv_iconst (v := 2) hx hb dX7_meet_48 (by decide) ?_
    have hSc : S_X7_of C q2 2 := hS.1
    have hS := hS.2
    refine gcV_i (rest := []) X (c_X7_of l D cy ad rest C q2 2 hSc) gy_X7_of gX7_meet_X7_of ⟨rfl, rfl, Nat.le_of_ble_eq_true rfl, Nat.le_of_ble_eq_true rfl⟩ 0 rfl rfl rfl hl rfl (Nat.le_of_ble_eq_true rfl) dX7_meet_49 ⟨Nat.zero_le _, Nat.zero_le _⟩ hw (fun r8 _ H locs hr8 hw => ?_)
    have hr8 : r8 = F_X7_of C q2 2 := hr8
    have hF := hF.trans (bnd_eq hr8)
    try have hS := Eq.mp (bnd_eq hr8) hS
    refine lv_aload_n hx hb dX7_meet_52 rfl (lv_at hl 1 rfl) ?_
    refine lv_iload_n hx hb dX7_meet_53 rfl (lv_at hl 2 rfl) ?_
    refine lv_iconst (v := 3) hx hb dX7_meet_54 (by decide) ?_
    have hSc : S_X7_of C q1 3 := hS.1
    have hS := hS.2
    refine gcV_i (rest := [.int r8]) X (c_X7_of l D cy ad rest C q1 3 hSc) gy_X7_of gX7_meet_X7_of ⟨rfl, rfl, Nat.le_of_ble_eq_true rfl, Nat.le_of_ble_eq_true rfl⟩ 0 rfl rfl rfl hl rfl (Nat.le_of_ble_eq_true rfl) dX7_meet_55 ⟨Nat.zero_le _, Nat.zero_le _⟩ hw (fun r10 _ H locs hr10 hw => ?_)
    have hr10 : r10 = F_X7_of C q1 3 := hr10
    have hF := hF.trans (bnd_eq hr10)
    try have hS := Eq.mp (bnd_eq hr10) hS
    refine lv_aload_n hx hb dX7_meet_58 rfl (lv_at hl 1 rfl) ?_
    refine lv_iload_n hx hb dX7_meet_59 rfl (lv_at hl 2 rfl) ?_
    have hSc : S_X7_gapOf C q1 := hS.1
    have hS := hS.2
    refine gcV_i (rest := [.int r10, .int r8]) X (c_X7_gapOf l D cy ad rest C q1 hSc) gy_X7_gapOf gX7_meet_X7_gapOf ⟨rfl, rfl, Nat.le_of_ble_eq_true rfl, Nat.le_of_ble_eq_true rfl⟩ 0 rfl rfl rfl hl rfl (Nat.le_of_ble_eq_true rfl) dX7_meet_60 ⟨Nat.zero_le _, Nat.zero_le _⟩ hw (fun r12 _ H locs hr12 hw => ?_)
    have hr12 : r12 = F_X7_gapOf C q1 := hr12
    have hF := hF.trans (bnd_eq hr12)
    try have hS := Eq.mp (bnd_eq hr12) hS
    refine lv_iadd hx hb dX7_meet_63 ?_
    refine lv_icmp_gt (tgt := 86) hx hb dX7_meet_64 (by decide) (fun c14 => ?_) (fun c14 => ?_)
    · skip
      have hF := hF.trans (if_pos c14)
      try have hS := Eq.mp (if_pos c14) hS
      refine lv_iconst (v := 0) hx hb dX7_meet_86 (by decide) ?_
      exact hret _ _ () _ _ _ dX7_meet_87 (Or.inl rfl) ⟨hF.symm.trans hsp, (Or.inl rfl)⟩ hw
    · skip
      have hF := hF.trans (if_neg c14)
      try have hS := Eq.mp (if_neg c14) hS
      refine lv_aload_n hx hb dX7_meet_67 rfl (lv_at hl 1 rfl) ?_
      refine lv_iload_n hx hb dX7_meet_68 rfl (lv_at hl 3 rfl) ?_
      refine lv_iconst (v := 2) hx hb dX7_meet_69 (by decide) ?_
      have hSc : S_X7_of C q2 2 := hS.1
      have hS := hS.2
      refine gcV_i (rest := []) X (c_X7_of l D cy ad rest C q2 2 hSc) gy_X7_of gX7_meet_X7_of ⟨rfl, rfl, Nat.le_of_ble_eq_true rfl, Nat.le_of_ble_eq_true rfl⟩ 0 rfl rfl rfl hl rfl (Nat.le_of_ble_eq_true rfl) dX7_meet_70 ⟨Nat.zero_le _, Nat.zero_le _⟩ hw (fun r15 _ H locs hr15 hw => ?_)
      have hr15 : r15 = F_X7_of C q2 2 := hr15
      rw [show r15 = r8 from hr15.trans hr8.symm]
      refine lv_aload_n hx hb dX7_meet_73 rfl (lv_at hl 1 rfl) ?_
      refine lv_iload_n hx hb dX7_meet_74 rfl (lv_at hl 2 rfl) ?_
      refine lv_iconst (v := 2) hx hb dX7_meet_75 (by decide) ?_
      have hSc : S_X7_of C q1 2 := hS.1
      have hS := hS.2
      refine gcV_i (rest := [.int r8]) X (c_X7_of l D cy ad rest C q1 2 hSc) gy_X7_of gX7_meet_X7_of ⟨rfl, rfl, Nat.le_of_ble_eq_true rfl, Nat.le_of_ble_eq_true rfl⟩ 0 rfl rfl rfl hl rfl (Nat.le_of_ble_eq_true rfl) dX7_meet_76 ⟨Nat.zero_le _, Nat.zero_le _⟩ hw (fun r17 _ H locs hr17 hw => ?_)
      have hr17 : r17 = F_X7_of C q1 2 := hr17
      rw [show r17 = r1 from hr17.trans hr1.symm]
      refine lv_icmp_lt (tgt := 86) hx hb dX7_meet_79 (by decide) (fun c19 => ?_) (fun c19 => ?_)
      · skip
        have hF := hF.trans (if_pos c19)
        try have hS := Eq.mp (if_pos c19) hS
        refine lv_iconst (v := 0) hx hb dX7_meet_86 (by decide) ?_
        exact hret _ _ () _ _ _ dX7_meet_87 (Or.inl rfl) ⟨hF.symm.trans hsp, (Or.inl rfl)⟩ hw
      · skip
        have hF := hF.trans (if_neg c19)
        try have hS := Eq.mp (if_neg c19) hS
        refine lv_iconst (v := 1) hx hb dX7_meet_82 (by decide) ?_
        refine lv_goto (tgt := 87) hx hb dX7_meet_83 (by decide) ?_
        exact hret _ _ () _ _ _ dX7_meet_87 (Or.inr rfl) ⟨hF.symm.trans hsp, (Or.inr rfl)⟩ hw
  · skip
    have hF := hF.trans (if_neg c7)
    try have hS := Eq.mp (if_neg c7) hS
    refine lv_aload_n hx hb dX7_meet_21 rfl (lv_at hl 0 rfl) ?_
    refine lv_iload_n hx hb dX7_meet_22 rfl (lv_at hl 1 rfl) ?_
    refine lv_iconst (v := 2) hx hb dX7_meet_23 (by decide) ?_
    have hSc : S_X7_of C q1 2 := hS.1
    have hS := hS.2
    refine gcV_i (rest := []) X (c_X7_of l D cy ad rest C q1 2 hSc) gy_X7_of gX7_meet_X7_of ⟨rfl, rfl, Nat.le_of_ble_eq_true rfl, Nat.le_of_ble_eq_true rfl⟩ 0 rfl rfl rfl hl rfl (Nat.le_of_ble_eq_true rfl) dX7_meet_24 ⟨Nat.zero_le _, Nat.zero_le _⟩ hw (fun r20 _ H locs hr20 hw => ?_)
    have hr20 : r20 = F_X7_of C q1 2 := hr20
    rw [show r20 = r1 from hr20.trans hr1.symm]
    refine lv_aload_n hx hb dX7_meet_27 rfl (lv_at hl 0 rfl) ?_
    refine lv_iload_n hx hb dX7_meet_28 rfl (lv_at hl 2 rfl) ?_
    refine lv_iconst (v := 2) hx hb dX7_meet_29 (by decide) ?_
    have hSc : S_X7_of C q2 2 := hS.1
    have hS := hS.2
    refine gcV_i (rest := [.int r1]) X (c_X7_of l D cy ad rest C q2 2 hSc) gy_X7_of gX7_meet_X7_of ⟨rfl, rfl, Nat.le_of_ble_eq_true rfl, Nat.le_of_ble_eq_true rfl⟩ 0 rfl rfl rfl hl rfl (Nat.le_of_ble_eq_true rfl) dX7_meet_30 ⟨Nat.zero_le _, Nat.zero_le _⟩ hw (fun r22 _ H locs hr22 hw => ?_)
    have hr22 : r22 = F_X7_of C q2 2 := hr22
    have hF := hF.trans (bnd_eq hr22)
    try have hS := Eq.mp (bnd_eq hr22) hS
    refine lv_icmp_lt (tgt := 40) hx hb dX7_meet_33 (by decide) (fun c24 => ?_) (fun c24 => ?_)
    · skip
      have hF := hF.trans (if_pos c24)
      try have hS := Eq.mp (if_pos c24) hS
      refine lv_iconst (v := 0) hx hb dX7_meet_40 (by decide) ?_
      refine lv_istore_n (lv' := [(3, .int 0), (0, .ref (ad 0)), (1, .int q1), (2, .int q2)]) hx hb dX7_meet_41 rfl hl (by decide) rfl (fun ls hl => ?_)
      refine lv_iload_n hx hb dX7_meet_42 rfl (lv_at hl 0 rfl) ?_
      refine lv_if_ne (tgt := 82) hx hb dX7_meet_43 (by decide) (fun c => absurd (by decide) c) (fun _ => ?_)
      refine lv_aload_n hx hb dX7_meet_46 rfl (lv_at hl 1 rfl) ?_
      refine lv_iload_n hx hb dX7_meet_47 rfl (lv_at hl 3 rfl) ?_
      refine lv_iconst (v := 2) hx hb dX7_meet_48 (by decide) ?_
      have hSc : S_X7_of C q2 2 := hS.1
      have hS := hS.2
      refine gcV_i (rest := []) X (c_X7_of l D cy ad rest C q2 2 hSc) gy_X7_of gX7_meet_X7_of ⟨rfl, rfl, Nat.le_of_ble_eq_true rfl, Nat.le_of_ble_eq_true rfl⟩ 0 rfl rfl rfl hl rfl (Nat.le_of_ble_eq_true rfl) dX7_meet_49 ⟨Nat.zero_le _, Nat.zero_le _⟩ hw (fun r25 _ H locs hr25 hw => ?_)
      have hr25 : r25 = F_X7_of C q2 2 := hr25
      rw [show r25 = r22 from hr25.trans hr22.symm]
      refine lv_aload_n hx hb dX7_meet_52 rfl (lv_at hl 1 rfl) ?_
      refine lv_iload_n hx hb dX7_meet_53 rfl (lv_at hl 2 rfl) ?_
      refine lv_iconst (v := 3) hx hb dX7_meet_54 (by decide) ?_
      have hSc : S_X7_of C q1 3 := hS.1
      have hS := hS.2
      refine gcV_i (rest := [.int r22]) X (c_X7_of l D cy ad rest C q1 3 hSc) gy_X7_of gX7_meet_X7_of ⟨rfl, rfl, Nat.le_of_ble_eq_true rfl, Nat.le_of_ble_eq_true rfl⟩ 0 rfl rfl rfl hl rfl (Nat.le_of_ble_eq_true rfl) dX7_meet_55 ⟨Nat.zero_le _, Nat.zero_le _⟩ hw (fun r27 _ H locs hr27 hw => ?_)
      have hr27 : r27 = F_X7_of C q1 3 := hr27
      have hF := hF.trans (bnd_eq hr27)
      try have hS := Eq.mp (bnd_eq hr27) hS
      refine lv_aload_n hx hb dX7_meet_58 rfl (lv_at hl 1 rfl) ?_
      refine lv_iload_n hx hb dX7_meet_59 rfl (lv_at hl 2 rfl) ?_
      have hSc : S_X7_gapOf C q1 := hS.1
      have hS := hS.2
      refine gcV_i (rest := [.int r27, .int r22]) X (c_X7_gapOf l D cy ad rest C q1 hSc) gy_X7_gapOf gX7_meet_X7_gapOf ⟨rfl, rfl, Nat.le_of_ble_eq_true rfl, Nat.le_of_ble_eq_true rfl⟩ 0 rfl rfl rfl hl rfl (Nat.le_of_ble_eq_true rfl) dX7_meet_60 ⟨Nat.zero_le _, Nat.zero_le _⟩ hw (fun r29 _ H locs hr29 hw => ?_)
      have hr29 : r29 = F_X7_gapOf C q1 := hr29
      have hF := hF.trans (bnd_eq hr29)
      try have hS := Eq.mp (bnd_eq hr29) hS
      refine lv_iadd hx hb dX7_meet_63 ?_
      refine lv_icmp_gt (tgt := 86) hx hb dX7_meet_64 (by decide) (fun c31 => ?_) (fun c31 => ?_)
      · skip
        have hF := hF.trans (if_pos c31)
        try have hS := Eq.mp (if_pos c31) hS
        refine lv_iconst (v := 0) hx hb dX7_meet_86 (by decide) ?_
        exact hret _ _ () _ _ _ dX7_meet_87 (Or.inl rfl) ⟨hF.symm.trans hsp, (Or.inl rfl)⟩ hw
      · skip
        have hF := hF.trans (if_neg c31)
        try have hS := Eq.mp (if_neg c31) hS
        refine lv_aload_n hx hb dX7_meet_67 rfl (lv_at hl 1 rfl) ?_
        refine lv_iload_n hx hb dX7_meet_68 rfl (lv_at hl 3 rfl) ?_
        refine lv_iconst (v := 2) hx hb dX7_meet_69 (by decide) ?_
        have hSc : S_X7_of C q2 2 := hS.1
        have hS := hS.2
        refine gcV_i (rest := []) X (c_X7_of l D cy ad rest C q2 2 hSc) gy_X7_of gX7_meet_X7_of ⟨rfl, rfl, Nat.le_of_ble_eq_true rfl, Nat.le_of_ble_eq_true rfl⟩ 0 rfl rfl rfl hl rfl (Nat.le_of_ble_eq_true rfl) dX7_meet_70 ⟨Nat.zero_le _, Nat.zero_le _⟩ hw (fun r32 _ H locs hr32 hw => ?_)
        have hr32 : r32 = F_X7_of C q2 2 := hr32
        rw [show r32 = r22 from hr32.trans hr22.symm]
        refine lv_aload_n hx hb dX7_meet_73 rfl (lv_at hl 1 rfl) ?_
        refine lv_iload_n hx hb dX7_meet_74 rfl (lv_at hl 2 rfl) ?_
        refine lv_iconst (v := 2) hx hb dX7_meet_75 (by decide) ?_
        have hSc : S_X7_of C q1 2 := hS.1
        have hS := hS.2
        refine gcV_i (rest := [.int r22]) X (c_X7_of l D cy ad rest C q1 2 hSc) gy_X7_of gX7_meet_X7_of ⟨rfl, rfl, Nat.le_of_ble_eq_true rfl, Nat.le_of_ble_eq_true rfl⟩ 0 rfl rfl rfl hl rfl (Nat.le_of_ble_eq_true rfl) dX7_meet_76 ⟨Nat.zero_le _, Nat.zero_le _⟩ hw (fun r34 _ H locs hr34 hw => ?_)
        have hr34 : r34 = F_X7_of C q1 2 := hr34
        rw [show r34 = r1 from hr34.trans hr1.symm]
        refine lv_icmp_lt (tgt := 86) hx hb dX7_meet_79 (by decide) (fun c36 => ?_) (fun c36 => ?_)
        · skip
          have hF := hF.trans (if_pos c36)
          try have hS := Eq.mp (if_pos c36) hS
          refine lv_iconst (v := 0) hx hb dX7_meet_86 (by decide) ?_
          exact hret _ _ () _ _ _ dX7_meet_87 (Or.inl rfl) ⟨hF.symm.trans hsp, (Or.inl rfl)⟩ hw
        · skip
          have hF := hF.trans (if_neg c36)
          try have hS := Eq.mp (if_neg c36) hS
          refine lv_iconst (v := 1) hx hb dX7_meet_82 (by decide) ?_
          refine lv_goto (tgt := 87) hx hb dX7_meet_83 (by decide) ?_
          exact hret _ _ () _ _ _ dX7_meet_87 (Or.inr rfl) ⟨hF.symm.trans hsp, (Or.inr rfl)⟩ hw
    · skip
      have hF := hF.trans (if_neg c24)
      try have hS := Eq.mp (if_neg c24) hS
      refine lv_iconst (v := 1) hx hb dX7_meet_36 (by decide) ?_
      refine lv_goto (tgt := 41) hx hb dX7_meet_37 (by decide) ?_
      refine lv_istore_n (lv' := [(3, .int 1), (0, .ref (ad 0)), (1, .int q1), (2, .int q2)]) hx hb dX7_meet_41 rfl hl (by decide) rfl (fun ls hl => ?_)
      refine lv_iload_n hx hb dX7_meet_42 rfl (lv_at hl 0 rfl) ?_
      refine lv_if_ne (tgt := 82) hx hb dX7_meet_43 (by decide) (fun _ => ?_) (fun c => absurd c (by decide))
      refine lv_iconst (v := 1) hx hb dX7_meet_82 (by decide) ?_
      refine lv_goto (tgt := 87) hx hb dX7_meet_83 (by decide) ?_
      exact hret _ _ () _ _ _ dX7_meet_87 (Or.inr rfl) ⟨hF.symm.trans hsp, (Or.inr rfl)⟩ hw
theorem gy_X7_merges : gY yX7_merges RX7 cX7_merges 4 none wsX7_merges 2 := ⟨⟨_, rfl⟩, rfl, by decide +kernel, by decide +kernel, by decide +kernel⟩
def st_X7_merges_2 (q1 : Int32) (q2 : Int32) (v1_3 : Int32) (w1 : CS) : (Int32 × CS) ⊕ CS := (if (w1.1 0 400) ≤ v1_3 then (bnd (F_X7_of w1 q1 2) (fun r3 => (bnd (F_X7_of w1 q2 2) (fun r5 => (if r5 ≤ r3 then (bnd (F_X7_sets w1 q1 2 r5) (fun u11 => (bnd (F_X7_of u11 q1 3) (fun r12 => (bnd (F_X7_of u11 q2 3) (fun r14 => (if r12 ≤ r14 then (bnd (F_X7_sets u11 q1 3 r14) (fun u20 => (bnd (F_X7_of u20 q2 5) (fun r21 => (if r21 = 1 then (bnd (F_X7_takesBack u20 q2) (fun u28 => (bnd (F_X7_sets u28 q2 0 0) (fun u30 => (bnd (sR u30 0 (upd (u30.1 0) 1422 ((u30.1 0 1422) + 1))) (fun u31 => .inr (u31))))))) else (bnd (F_X7_sets u20 q2 0 0) (fun u25 => (bnd (sR u25 0 (upd (u25.1 0) 1422 ((u25.1 0 1422) + 1))) (fun u26 => .inr (u26)))))))))) else (bnd (F_X7_sets u11 q1 3 r12) (fun u35 => (bnd (F_X7_of u35 q2 5) (fun r36 => (if r36 = 1 then (bnd (F_X7_takesBack u35 q2) (fun u43 => (bnd (F_X7_sets u43 q2 0 0) (fun u45 => (bnd (sR u45 0 (upd (u45.1 0) 1422 ((u45.1 0 1422) + 1))) (fun u46 => .inr (u46))))))) else (bnd (F_X7_sets u35 q2 0 0) (fun u40 => (bnd (sR u40 0 (upd (u40.1 0) 1422 ((u40.1 0 1422) + 1))) (fun u41 => .inr (u41))))))))))))))))) else (bnd (F_X7_sets w1 q1 2 r3) (fun u50 => (bnd (F_X7_of u50 q1 3) (fun r51 => (bnd (F_X7_of u50 q2 3) (fun r53 => (if r51 ≤ r53 then (bnd (F_X7_sets u50 q1 3 r53) (fun u59 => (bnd (F_X7_of u59 q2 5) (fun r60 => (if r60 = 1 then (bnd (F_X7_takesBack u59 q2) (fun u67 => (bnd (F_X7_sets u67 q2 0 0) (fun u69 => (bnd (sR u69 0 (upd (u69.1 0) 1422 ((u69.1 0 1422) + 1))) (fun u70 => .inr (u70))))))) else (bnd (F_X7_sets u59 q2 0 0) (fun u64 => (bnd (sR u64 0 (upd (u64.1 0) 1422 ((u64.1 0 1422) + 1))) (fun u65 => .inr (u65)))))))))) else (bnd (F_X7_sets u50 q1 3 r51) (fun u74 => (bnd (F_X7_of u74 q2 5) (fun r75 => (if r75 = 1 then (bnd (F_X7_takesBack u74 q2) (fun u82 => (bnd (F_X7_sets u82 q2 0 0) (fun u84 => (bnd (sR u84 0 (upd (u84.1 0) 1422 ((u84.1 0 1422) + 1))) (fun u85 => .inr (u85))))))) else (bnd (F_X7_sets u74 q2 0 0) (fun u79 => (bnd (sR u79 0 (upd (u79.1 0) 1422 ((u79.1 0 1422) + 1))) (fun u80 => .inr (u80)))))))))))))))))))))) else (if (w1.1 0 ((4 * v1_3) + 3).toNatClampNeg) = q2 then (bnd (sR w1 0 (upd (w1.1 0) ((4 * v1_3) + 3).toNatClampNeg q1)) (fun u88 => .inl ((v1_3 + 1), u88))) else (bnd (sR w1 0 (upd (w1.1 0) ((4 * v1_3) + 3).toNatClampNeg (w1.1 0 ((4 * v1_3) + 3).toNatClampNeg))) (fun u87 => .inl ((v1_3 + 1), u87)))))
def Sst_X7_merges_2 (q1 : Int32) (q2 : Int32) (v1_3 : Int32) (w1 : CS) : Prop := (if (w1.1 0 400) ≤ v1_3 then (S_X7_of w1 q1 2 ∧ (bnd (F_X7_of w1 q1 2) (fun r3 => (S_X7_of w1 q2 2 ∧ (bnd (F_X7_of w1 q2 2) (fun r5 => (if r5 ≤ r3 then (S_X7_of w1 q2 2 ∧ (S_X7_sets w1 q1 2 r5 ∧ (bnd (F_X7_sets w1 q1 2 r5) (fun u11 => (S_X7_of u11 q1 3 ∧ (bnd (F_X7_of u11 q1 3) (fun r12 => (S_X7_of u11 q2 3 ∧ (bnd (F_X7_of u11 q2 3) (fun r14 => (if r12 ≤ r14 then (S_X7_of u11 q2 3 ∧ (S_X7_sets u11 q1 3 r14 ∧ (bnd (F_X7_sets u11 q1 3 r14) (fun u20 => (S_X7_of u20 q2 5 ∧ (bnd (F_X7_of u20 q2 5) (fun r21 => (if r21 = 1 then (S_X7_takesBack u20 q2 ∧ (bnd (F_X7_takesBack u20 q2) (fun u28 => (S_X7_sets u28 q2 0 0 ∧ True)))) else (S_X7_sets u20 q2 0 0 ∧ True))))))))) else (S_X7_of u11 q1 3 ∧ (S_X7_sets u11 q1 3 r12 ∧ (bnd (F_X7_sets u11 q1 3 r12) (fun u35 => (S_X7_of u35 q2 5 ∧ (bnd (F_X7_of u35 q2 5) (fun r36 => (if r36 = 1 then (S_X7_takesBack u35 q2 ∧ (bnd (F_X7_takesBack u35 q2) (fun u43 => (S_X7_sets u43 q2 0 0 ∧ True)))) else (S_X7_sets u35 q2 0 0 ∧ True)))))))))))))))))))) else (S_X7_of w1 q1 2 ∧ (S_X7_sets w1 q1 2 r3 ∧ (bnd (F_X7_sets w1 q1 2 r3) (fun u50 => (S_X7_of u50 q1 3 ∧ (bnd (F_X7_of u50 q1 3) (fun r51 => (S_X7_of u50 q2 3 ∧ (bnd (F_X7_of u50 q2 3) (fun r53 => (if r51 ≤ r53 then (S_X7_of u50 q2 3 ∧ (S_X7_sets u50 q1 3 r53 ∧ (bnd (F_X7_sets u50 q1 3 r53) (fun u59 => (S_X7_of u59 q2 5 ∧ (bnd (F_X7_of u59 q2 5) (fun r60 => (if r60 = 1 then (S_X7_takesBack u59 q2 ∧ (bnd (F_X7_takesBack u59 q2) (fun u67 => (S_X7_sets u67 q2 0 0 ∧ True)))) else (S_X7_sets u59 q2 0 0 ∧ True))))))))) else (S_X7_of u50 q1 3 ∧ (S_X7_sets u50 q1 3 r51 ∧ (bnd (F_X7_sets u50 q1 3 r51) (fun u74 => (S_X7_of u74 q2 5 ∧ (bnd (F_X7_of u74 q2 5) (fun r75 => (if r75 = 1 then (S_X7_takesBack u74 q2 ∧ (bnd (F_X7_takesBack u74 q2) (fun u82 => (S_X7_sets u82 q2 0 0 ∧ True)))) else (S_X7_sets u74 q2 0 0 ∧ True))))))))))))))))))))))))))) else (vp_in ((4 * v1_3) + 3) 1787 ∧ (if (w1.1 0 ((4 * v1_3) + 3).toNatClampNeg) = q2 then (vp_in ((4 * v1_3) + 3) 1787 ∧ True) else (vp_in ((4 * v1_3) + 3) 1787 ∧ (vp_in ((4 * v1_3) + 3) 1787 ∧ True)))))
def F_X7_merges (C : CS) (q1 : Int32) (q2 : Int32) : CS := lp (fun (z : Int32 × CS) => st_X7_merges_2 q1 q2 z.1 z.2) C (((C.1 0 400).toInt - (0 : Int32).toInt).toNat + 1) (0, C)
def S_X7_merges (C : CS) (q1 : Int32) (q2 : Int32) : Prop := lpS (fun (z : Int32 × CS) => st_X7_merges_2 q1 q2 z.1 z.2) (fun (z : Int32 × CS) => Sst_X7_merges_2 q1 q2 z.1 z.2) (((C.1 0 400).toInt - (0 : Int32).toInt).toNat + 1) (0, C)
abbrev rmX7_merges : Room := { frames := 3, cells := 0, slots := 0, locals := 69 }
set_option maxHeartbeats 4000000 in
set_option maxRecDepth 100000 in
theorem c_X7_merges (l : Launch) (D : va_G) (cy : Nat → ClassId) (ad : Nat → Nat) (rest : va_W) (C : CS) (q1 : Int32) (q2 : Int32) (hS : S_X7_merges C q1 q2) : GMv l yX7_merges wsX7_merges rmX7_merges D cy [.ref (ad 0), .int q1, .int q2] (MW cy ad C ++ rest) (fun (u : CS) => u = F_X7_merges C q1 q2) (fun u => MW cy ad u ++ rest) := by
  refine GMv.intro cX7_merges 4 RX7 (by decide) rfl rfl (Nat.le_of_ble_eq_true rfl) ?_
  intro p e s m args below meth c A Q ls X hret hl hw
  have hx := X.1
  have hb := X.2.1
  have hl : lv_has ls 4 [(0, .ref (ad 0)), (1, .int q1), (2, .int q2)] := hl
  have inX7 : ∀ w ∈ wsX70, w ∈ wsX7_merges := fun w h => List.mem_cons_of_mem _ (List.mem_append_left _ (List.mem_append_right _ h))
  obtain ⟨sp, hsp⟩ : ∃ sp, sp = F_X7_merges C q1 q2 := ⟨_, rfl⟩
  have hF := hsp.trans (F_X7_merges.eq_1 C q1 q2)
  have hS := Eq.mp (S_X7_merges.eq_1 C q1 q2) hS
  refine lv_iconst (v := 0) hx hb dX7_merges_0 (by decide) ?_
  refine lv_istore_n (lv' := [(3, .int 0), (0, .ref (ad 0)), (1, .int q1), (2, .int q2)]) hx hb dX7_merges_1 rfl hl (by decide) rfl (fun ls hl => ?_)
  have L1 : ∀ (n1 : Nat) (v1_3 : Int32) (w1 : CS), sp = lp (fun (z : Int32 × CS) => st_X7_merges_2 q1 q2 z.1 z.2) C n1 (v1_3, w1) → lpS (fun (z : Int32 × CS) => st_X7_merges_2 q1 q2 z.1 z.2) (fun (z : Int32 × CS) => Sst_X7_merges_2 q1 q2 z.1 z.2) n1 (v1_3, w1) → ∀ (H : Heap) (locs : List Loc) (ls : Array Slot), lv_has ls 4 [(3, .int v1_3), (0, .ref (ad 0)), (1, .int q1), (2, .int q2)] → gw D A s.heap (MW cy ad w1 ++ rest) H locs → W p l e rmX7_merges s m args below meth c H locs 0 0 Q (F0 m 2 ls []) := by
    intro n1
    induction n1 with
    | zero => intro v1_3 w1 hF hL; exact False.elim hL
    | succ n1 ih1 =>
      intro v1_3 w1 hF hL H locs ls hl hw
      have hT1 := st_X7_merges_2.eq_1 q1 q2 v1_3 w1
      have hLn1 := hL.2
      have hS := Eq.mp (Sst_X7_merges_2.eq_1 q1 q2 v1_3 w1) hL.1
      refine lv_iload_n hx hb dX7_merges_2 rfl (lv_at hl 0 rfl) ?_
      refine lv_aload_n hx hb dX7_merges_3 rfl (lv_at hl 1 rfl) ?_
      refine g_get (v := .ref (ad 1)) (C := RX7) (T := TX7) (N := 16) (ci := 9) X inX7 hw 0 rfl rfl 1 (by decide) (List.mem_of_getElem? (i := 1) rfl) rfl rfl dX7_merges_4 ?_
      refine lv_sipush (v := 400) hx hb dX7_merges_7 (by decide) ?_
      refine g_ialdk (k := 400) rfl X hw 1 rfl (vk rfl) dX7_merges_10 ?_
      refine lv_icmp_ge (tgt := 58) hx hb dX7_merges_11 (by decide) (fun c2 => ?_) (fun c2 => ?_)
      · skip
        have hT1 := hT1.trans (if_pos c2)
        try have hS := Eq.mp (if_pos c2) hS
        refine lv_aload_n hx hb dX7_merges_58 rfl (lv_at hl 1 rfl) ?_
        refine lv_iload_n hx hb dX7_merges_59 rfl (lv_at hl 2 rfl) ?_
        refine lv_iconst (v := 2) hx hb dX7_merges_60 (by decide) ?_
        refine lv_aload_n hx hb dX7_merges_61 rfl (lv_at hl 1 rfl) ?_
        refine lv_iload_n hx hb dX7_merges_62 rfl (lv_at hl 2 rfl) ?_
        refine lv_iconst (v := 2) hx hb dX7_merges_63 (by decide) ?_
        have hSc : S_X7_of w1 q1 2 := hS.1
        have hS := hS.2
        refine gcV_i (rest := [.int 2, .int q1, .ref (ad 0)]) X (c_X7_of l D cy ad rest w1 q1 2 hSc) gy_X7_of gX7_merges_X7_of ⟨rfl, rfl, Nat.le_of_ble_eq_true rfl, Nat.le_of_ble_eq_true rfl⟩ 0 rfl rfl rfl hl rfl (Nat.le_of_ble_eq_true rfl) dX7_merges_64 ⟨Nat.zero_le _, Nat.zero_le _⟩ hw (fun r3 _ H locs hr3 hw => ?_)
        have hr3 : r3 = F_X7_of w1 q1 2 := hr3
        have hT1 := hT1.trans (bnd_eq hr3)
        try have hS := Eq.mp (bnd_eq hr3) hS
        refine lv_aload_n hx hb dX7_merges_67 rfl (lv_at hl 1 rfl) ?_
        refine lv_iload_n hx hb dX7_merges_68 rfl (lv_at hl 3 rfl) ?_
        refine lv_iconst (v := 2) hx hb dX7_merges_69 (by decide) ?_
        have hSc : S_X7_of w1 q2 2 := hS.1
        have hS := hS.2
        refine gcV_i (rest := [.int r3, .int 2, .int q1, .ref (ad 0)]) X (c_X7_of l D cy ad rest w1 q2 2 hSc) gy_X7_of gX7_merges_X7_of ⟨rfl, rfl, Nat.le_of_ble_eq_true rfl, Nat.le_of_ble_eq_true rfl⟩ 0 rfl rfl rfl hl rfl (Nat.le_of_ble_eq_true rfl) dX7_merges_70 ⟨Nat.zero_le _, Nat.zero_le _⟩ hw (fun r5 _ H locs hr5 hw => ?_)
        have hr5 : r5 = F_X7_of w1 q2 2 := hr5
        have hT1 := hT1.trans (bnd_eq hr5)
        try have hS := Eq.mp (bnd_eq hr5) hS
        refine lv_icmp_ge (tgt := 85) hx hb dX7_merges_73 (by decide) (fun c7 => ?_) (fun c7 => ?_)
        · skip
          have hT1 := hT1.trans (if_pos c7)
          try have hS := Eq.mp (if_pos c7) hS
          refine lv_aload_n hx hb dX7_merges_85 rfl (lv_at hl 1 rfl) ?_
          refine lv_iload_n hx hb dX7_merges_86 rfl (lv_at hl 3 rfl) ?_
          refine lv_iconst (v := 2) hx hb dX7_merges_87 (by decide) ?_
          have hSc : S_X7_of w1 q2 2 := hS.1
          have hS := hS.2
          refine gcV_i (rest := [.int 2, .int q1, .ref (ad 0)]) X (c_X7_of l D cy ad rest w1 q2 2 hSc) gy_X7_of gX7_merges_X7_of ⟨rfl, rfl, Nat.le_of_ble_eq_true rfl, Nat.le_of_ble_eq_true rfl⟩ 0 rfl rfl rfl hl rfl (Nat.le_of_ble_eq_true rfl) dX7_merges_88 ⟨Nat.zero_le _, Nat.zero_le _⟩ hw (fun r8 _ H locs hr8 hw => ?_)
          have hr8 : r8 = F_X7_of w1 q2 2 := hr8
          rw [show r8 = r5 from hr8.trans hr5.symm]
          have hSc : S_X7_sets w1 q1 2 r5 := hS.1
          have hS := hS.2
          refine gcV_v (rest := []) X (c_X7_sets l D cy ad rest w1 q1 2 r5 hSc) gy_X7_sets gX7_merges_X7_sets ⟨rfl, rfl, Nat.le_of_ble_eq_true rfl, Nat.le_of_ble_eq_true rfl⟩ 0 rfl rfl rfl hl rfl (Nat.le_of_ble_eq_true rfl) dX7_merges_91 ⟨Nat.zero_le _, Nat.zero_le _⟩ hw (fun u11 H locs hu11 hw => ?_)
          have hu11 : u11 = F_X7_sets w1 q1 2 r5 := hu11
          have hT1 := hT1.trans (bnd_eq hu11)
          try have hS := Eq.mp (bnd_eq hu11) hS
          refine lv_aload_n hx hb dX7_merges_94 rfl (lv_at hl 1 rfl) ?_
          refine lv_iload_n hx hb dX7_merges_95 rfl (lv_at hl 2 rfl) ?_
          refine lv_iconst (v := 3) hx hb dX7_merges_96 (by decide) ?_
          refine lv_aload_n hx hb dX7_merges_97 rfl (lv_at hl 1 rfl) ?_
          refine lv_iload_n hx hb dX7_merges_98 rfl (lv_at hl 2 rfl) ?_
          refine lv_iconst (v := 3) hx hb dX7_merges_99 (by decide) ?_
          have hSc : S_X7_of u11 q1 3 := hS.1
          have hS := hS.2
          refine gcV_i (rest := [.int 3, .int q1, .ref (ad 0)]) X (c_X7_of l D cy ad rest u11 q1 3 hSc) gy_X7_of gX7_merges_X7_of ⟨rfl, rfl, Nat.le_of_ble_eq_true rfl, Nat.le_of_ble_eq_true rfl⟩ 0 rfl rfl rfl hl rfl (Nat.le_of_ble_eq_true rfl) dX7_merges_100 ⟨Nat.zero_le _, Nat.zero_le _⟩ hw (fun r12 _ H locs hr12 hw => ?_)
          have hr12 : r12 = F_X7_of u11 q1 3 := hr12
          have hT1 := hT1.trans (bnd_eq hr12)
          try have hS := Eq.mp (bnd_eq hr12) hS
          refine lv_aload_n hx hb dX7_merges_103 rfl (lv_at hl 1 rfl) ?_
          refine lv_iload_n hx hb dX7_merges_104 rfl (lv_at hl 3 rfl) ?_
          refine lv_iconst (v := 3) hx hb dX7_merges_105 (by decide) ?_
          have hSc : S_X7_of u11 q2 3 := hS.1
          have hS := hS.2
          refine gcV_i (rest := [.int r12, .int 3, .int q1, .ref (ad 0)]) X (c_X7_of l D cy ad rest u11 q2 3 hSc) gy_X7_of gX7_merges_X7_of ⟨rfl, rfl, Nat.le_of_ble_eq_true rfl, Nat.le_of_ble_eq_true rfl⟩ 0 rfl rfl rfl hl rfl (Nat.le_of_ble_eq_true rfl) dX7_merges_106 ⟨Nat.zero_le _, Nat.zero_le _⟩ hw (fun r14 _ H locs hr14 hw => ?_)
          have hr14 : r14 = F_X7_of u11 q2 3 := hr14
          have hT1 := hT1.trans (bnd_eq hr14)
          try have hS := Eq.mp (bnd_eq hr14) hS
          refine lv_icmp_le (tgt := 121) hx hb dX7_merges_109 (by decide) (fun c16 => ?_) (fun c16 => ?_)
          · skip
            have hT1 := hT1.trans (if_pos c16)
            try have hS := Eq.mp (if_pos c16) hS
            refine lv_aload_n hx hb dX7_merges_121 rfl (lv_at hl 1 rfl) ?_
            refine lv_iload_n hx hb dX7_merges_122 rfl (lv_at hl 3 rfl) ?_
            refine lv_iconst (v := 3) hx hb dX7_merges_123 (by decide) ?_
            have hSc : S_X7_of u11 q2 3 := hS.1
            have hS := hS.2
            refine gcV_i (rest := [.int 3, .int q1, .ref (ad 0)]) X (c_X7_of l D cy ad rest u11 q2 3 hSc) gy_X7_of gX7_merges_X7_of ⟨rfl, rfl, Nat.le_of_ble_eq_true rfl, Nat.le_of_ble_eq_true rfl⟩ 0 rfl rfl rfl hl rfl (Nat.le_of_ble_eq_true rfl) dX7_merges_124 ⟨Nat.zero_le _, Nat.zero_le _⟩ hw (fun r17 _ H locs hr17 hw => ?_)
            have hr17 : r17 = F_X7_of u11 q2 3 := hr17
            rw [show r17 = r14 from hr17.trans hr14.symm]
            have hSc : S_X7_sets u11 q1 3 r14 := hS.1
            have hS := hS.2
            refine gcV_v (rest := []) X (c_X7_sets l D cy ad rest u11 q1 3 r14 hSc) gy_X7_sets gX7_merges_X7_sets ⟨rfl, rfl, Nat.le_of_ble_eq_true rfl, Nat.le_of_ble_eq_true rfl⟩ 0 rfl rfl rfl hl rfl (Nat.le_of_ble_eq_true rfl) dX7_merges_127 ⟨Nat.zero_le _, Nat.zero_le _⟩ hw (fun u20 H locs hu20 hw => ?_)
            have hu20 : u20 = F_X7_sets u11 q1 3 r14 := hu20
            have hT1 := hT1.trans (bnd_eq hu20)
            try have hS := Eq.mp (bnd_eq hu20) hS
            refine lv_aload_n hx hb dX7_merges_130 rfl (lv_at hl 1 rfl) ?_
            refine lv_iload_n hx hb dX7_merges_131 rfl (lv_at hl 3 rfl) ?_
            refine lv_iconst (v := 5) hx hb dX7_merges_132 (by decide) ?_
            have hSc : S_X7_of u20 q2 5 := hS.1
            have hS := hS.2
            refine gcV_i (rest := []) X (c_X7_of l D cy ad rest u20 q2 5 hSc) gy_X7_of gX7_merges_X7_of ⟨rfl, rfl, Nat.le_of_ble_eq_true rfl, Nat.le_of_ble_eq_true rfl⟩ 0 rfl rfl rfl hl rfl (Nat.le_of_ble_eq_true rfl) dX7_merges_133 ⟨Nat.zero_le _, Nat.zero_le _⟩ hw (fun r21 _ H locs hr21 hw => ?_)
            have hr21 : r21 = F_X7_of u20 q2 5 := hr21
            have hT1 := hT1.trans (bnd_eq hr21)
            try have hS := Eq.mp (bnd_eq hr21) hS
            refine lv_iconst (v := 1) hx hb dX7_merges_136 (by decide) ?_
            refine lv_icmp_ne (tgt := 145) hx hb dX7_merges_137 (by decide) (fun c23 => ?_) (fun c23 => ?_)
            · skip
              have hT1 := hT1.trans (if_neg c23)
              try have hS := Eq.mp (if_neg c23) hS
              refine lv_aload_n hx hb dX7_merges_145 rfl (lv_at hl 1 rfl) ?_
              refine lv_iload_n hx hb dX7_merges_146 rfl (lv_at hl 3 rfl) ?_
              refine lv_iconst (v := 0) hx hb dX7_merges_147 (by decide) ?_
              refine lv_iconst (v := 0) hx hb dX7_merges_148 (by decide) ?_
              have hSc : S_X7_sets u20 q2 0 0 := hS.1
              have hS := hS.2
              refine gcV_v (rest := []) X (c_X7_sets l D cy ad rest u20 q2 0 0 hSc) gy_X7_sets gX7_merges_X7_sets ⟨rfl, rfl, Nat.le_of_ble_eq_true rfl, Nat.le_of_ble_eq_true rfl⟩ 0 rfl rfl rfl hl rfl (Nat.le_of_ble_eq_true rfl) dX7_merges_149 ⟨Nat.zero_le _, Nat.zero_le _⟩ hw (fun u25 H locs hu25 hw => ?_)
              have hu25 : u25 = F_X7_sets u20 q2 0 0 := hu25
              have hT1 := hT1.trans (bnd_eq hu25)
              try have hS := Eq.mp (bnd_eq hu25) hS
              refine lv_aload_n hx hb dX7_merges_152 rfl (lv_at hl 1 rfl) ?_
              refine g_get (v := .ref (ad 1)) (C := RX7) (T := TX7) (N := 16) (ci := 9) X inX7 hw 0 rfl rfl 1 (by decide) (List.mem_of_getElem? (i := 1) rfl) rfl rfl dX7_merges_153 ?_
              refine lv_sipush (v := 1422) hx hb dX7_merges_156 (by decide) ?_
              refine lv_dup2_11 hx hb dX7_merges_159 rfl rfl ?_
              refine g_ialdk (k := 1422) rfl X hw 1 rfl (vk rfl) dX7_merges_160 ?_
              refine lv_iconst (v := 1) hx hb dX7_merges_161 (by decide) ?_
              refine lv_iadd hx hb dX7_merges_162 ?_
              refine g_iastk (k := 1422) rfl (w' := MW cy ad (sR u25 0 (upd (u25.1 0) 1422 ((u25.1 0 1422) + 1))) ++ rest) X hw 1 rfl (vk rfl) rfl dX7_merges_163 (fun H locs hw => ?_)
              obtain ⟨u26, hu26⟩ : ∃ z, z = sR u25 0 (upd (u25.1 0) 1422 ((u25.1 0 1422) + 1)) := ⟨_, rfl⟩
              rw [← hu26] at hw
              have hT1 := hT1.trans (bnd_eq hu26)
              try have hS := Eq.mp (bnd_eq hu26) hS
              exact hret _ _ _ _ _ dX7_merges_164 ((hF.trans (lp_r hT1)).symm.trans hsp) hw
            · skip
              have hT1 := hT1.trans (if_pos c23)
              try have hS := Eq.mp (if_pos c23) hS
              refine lv_aload_n hx hb dX7_merges_140 rfl (lv_at hl 1 rfl) ?_
              refine lv_iload_n hx hb dX7_merges_141 rfl (lv_at hl 3 rfl) ?_
              have hSc : S_X7_takesBack u20 q2 := hS.1
              have hS := hS.2
              refine gcV_v (rest := []) X (c_X7_takesBack l D cy ad rest u20 q2 hSc) gy_X7_takesBack gX7_merges_X7_takesBack ⟨rfl, rfl, Nat.le_of_ble_eq_true rfl, Nat.le_of_ble_eq_true rfl⟩ 0 rfl rfl rfl hl rfl (Nat.le_of_ble_eq_true rfl) dX7_merges_142 ⟨Nat.zero_le _, Nat.zero_le _⟩ hw (fun u28 H locs hu28 hw => ?_)
              have hu28 : u28 = F_X7_takesBack u20 q2 := hu28
              have hT1 := hT1.trans (bnd_eq hu28)
              try have hS := Eq.mp (bnd_eq hu28) hS
              refine lv_aload_n hx hb dX7_merges_145 rfl (lv_at hl 1 rfl) ?_
              refine lv_iload_n hx hb dX7_merges_146 rfl (lv_at hl 3 rfl) ?_
              refine lv_iconst (v := 0) hx hb dX7_merges_147 (by decide) ?_
              refine lv_iconst (v := 0) hx hb dX7_merges_148 (by decide) ?_
              have hSc : S_X7_sets u28 q2 0 0 := hS.1
              have hS := hS.2
              refine gcV_v (rest := []) X (c_X7_sets l D cy ad rest u28 q2 0 0 hSc) gy_X7_sets gX7_merges_X7_sets ⟨rfl, rfl, Nat.le_of_ble_eq_true rfl, Nat.le_of_ble_eq_true rfl⟩ 0 rfl rfl rfl hl rfl (Nat.le_of_ble_eq_true rfl) dX7_merges_149 ⟨Nat.zero_le _, Nat.zero_le _⟩ hw (fun u30 H locs hu30 hw => ?_)
              have hu30 : u30 = F_X7_sets u28 q2 0 0 := hu30
              have hT1 := hT1.trans (bnd_eq hu30)
              try have hS := Eq.mp (bnd_eq hu30) hS
              refine lv_aload_n hx hb dX7_merges_152 rfl (lv_at hl 1 rfl) ?_
              refine g_get (v := .ref (ad 1)) (C := RX7) (T := TX7) (N := 16) (ci := 9) X inX7 hw 0 rfl rfl 1 (by decide) (List.mem_of_getElem? (i := 1) rfl) rfl rfl dX7_merges_153 ?_
              refine lv_sipush (v := 1422) hx hb dX7_merges_156 (by decide) ?_
              refine lv_dup2_11 hx hb dX7_merges_159 rfl rfl ?_
              refine g_ialdk (k := 1422) rfl X hw 1 rfl (vk rfl) dX7_merges_160 ?_
              refine lv_iconst (v := 1) hx hb dX7_merges_161 (by decide) ?_
              refine lv_iadd hx hb dX7_merges_162 ?_
              refine g_iastk (k := 1422) rfl (w' := MW cy ad (sR u30 0 (upd (u30.1 0) 1422 ((u30.1 0 1422) + 1))) ++ rest) X hw 1 rfl (vk rfl) rfl dX7_merges_163 (fun H locs hw => ?_)
              obtain ⟨u31, hu31⟩ : ∃ z, z = sR u30 0 (upd (u30.1 0) 1422 ((u30.1 0 1422) + 1)) := ⟨_, rfl⟩
              rw [← hu31] at hw
              have hT1 := hT1.trans (bnd_eq hu31)
              try have hS := Eq.mp (bnd_eq hu31) hS
              exact hret _ _ _ _ _ dX7_merges_164 ((hF.trans (lp_r hT1)).symm.trans hsp) hw
          · skip
            have hT1 := hT1.trans (if_neg c16)
            try have hS := Eq.mp (if_neg c16) hS
            refine lv_aload_n hx hb dX7_merges_112 rfl (lv_at hl 1 rfl) ?_
            refine lv_iload_n hx hb dX7_merges_113 rfl (lv_at hl 2 rfl) ?_
            refine lv_iconst (v := 3) hx hb dX7_merges_114 (by decide) ?_
            have hSc : S_X7_of u11 q1 3 := hS.1
            have hS := hS.2
            refine gcV_i (rest := [.int 3, .int q1, .ref (ad 0)]) X (c_X7_of l D cy ad rest u11 q1 3 hSc) gy_X7_of gX7_merges_X7_of ⟨rfl, rfl, Nat.le_of_ble_eq_true rfl, Nat.le_of_ble_eq_true rfl⟩ 0 rfl rfl rfl hl rfl (Nat.le_of_ble_eq_true rfl) dX7_merges_115 ⟨Nat.zero_le _, Nat.zero_le _⟩ hw (fun r32 _ H locs hr32 hw => ?_)
            have hr32 : r32 = F_X7_of u11 q1 3 := hr32
            rw [show r32 = r12 from hr32.trans hr12.symm]
            refine lv_goto (tgt := 127) hx hb dX7_merges_118 (by decide) ?_
            have hSc : S_X7_sets u11 q1 3 r12 := hS.1
            have hS := hS.2
            refine gcV_v (rest := []) X (c_X7_sets l D cy ad rest u11 q1 3 r12 hSc) gy_X7_sets gX7_merges_X7_sets ⟨rfl, rfl, Nat.le_of_ble_eq_true rfl, Nat.le_of_ble_eq_true rfl⟩ 0 rfl rfl rfl hl rfl (Nat.le_of_ble_eq_true rfl) dX7_merges_127 ⟨Nat.zero_le _, Nat.zero_le _⟩ hw (fun u35 H locs hu35 hw => ?_)
            have hu35 : u35 = F_X7_sets u11 q1 3 r12 := hu35
            have hT1 := hT1.trans (bnd_eq hu35)
            try have hS := Eq.mp (bnd_eq hu35) hS
            refine lv_aload_n hx hb dX7_merges_130 rfl (lv_at hl 1 rfl) ?_
            refine lv_iload_n hx hb dX7_merges_131 rfl (lv_at hl 3 rfl) ?_
            refine lv_iconst (v := 5) hx hb dX7_merges_132 (by decide) ?_
            have hSc : S_X7_of u35 q2 5 := hS.1
            have hS := hS.2
            refine gcV_i (rest := []) X (c_X7_of l D cy ad rest u35 q2 5 hSc) gy_X7_of gX7_merges_X7_of ⟨rfl, rfl, Nat.le_of_ble_eq_true rfl, Nat.le_of_ble_eq_true rfl⟩ 0 rfl rfl rfl hl rfl (Nat.le_of_ble_eq_true rfl) dX7_merges_133 ⟨Nat.zero_le _, Nat.zero_le _⟩ hw (fun r36 _ H locs hr36 hw => ?_)
            have hr36 : r36 = F_X7_of u35 q2 5 := hr36
            have hT1 := hT1.trans (bnd_eq hr36)
            try have hS := Eq.mp (bnd_eq hr36) hS
            refine lv_iconst (v := 1) hx hb dX7_merges_136 (by decide) ?_
            refine lv_icmp_ne (tgt := 145) hx hb dX7_merges_137 (by decide) (fun c38 => ?_) (fun c38 => ?_)
            · skip
              have hT1 := hT1.trans (if_neg c38)
              try have hS := Eq.mp (if_neg c38) hS
              refine lv_aload_n hx hb dX7_merges_145 rfl (lv_at hl 1 rfl) ?_
              refine lv_iload_n hx hb dX7_merges_146 rfl (lv_at hl 3 rfl) ?_
              refine lv_iconst (v := 0) hx hb dX7_merges_147 (by decide) ?_
              refine lv_iconst (v := 0) hx hb dX7_merges_148 (by decide) ?_
              have hSc : S_X7_sets u35 q2 0 0 := hS.1
              have hS := hS.2
              refine gcV_v (rest := []) X (c_X7_sets l D cy ad rest u35 q2 0 0 hSc) gy_X7_sets gX7_merges_X7_sets ⟨rfl, rfl, Nat.le_of_ble_eq_true rfl, Nat.le_of_ble_eq_true rfl⟩ 0 rfl rfl rfl hl rfl (Nat.le_of_ble_eq_true rfl) dX7_merges_149 ⟨Nat.zero_le _, Nat.zero_le _⟩ hw (fun u40 H locs hu40 hw => ?_)
              have hu40 : u40 = F_X7_sets u35 q2 0 0 := hu40
              have hT1 := hT1.trans (bnd_eq hu40)
              try have hS := Eq.mp (bnd_eq hu40) hS
              refine lv_aload_n hx hb dX7_merges_152 rfl (lv_at hl 1 rfl) ?_
              refine g_get (v := .ref (ad 1)) (C := RX7) (T := TX7) (N := 16) (ci := 9) X inX7 hw 0 rfl rfl 1 (by decide) (List.mem_of_getElem? (i := 1) rfl) rfl rfl dX7_merges_153 ?_
              refine lv_sipush (v := 1422) hx hb dX7_merges_156 (by decide) ?_
              refine lv_dup2_11 hx hb dX7_merges_159 rfl rfl ?_
              refine g_ialdk (k := 1422) rfl X hw 1 rfl (vk rfl) dX7_merges_160 ?_
              refine lv_iconst (v := 1) hx hb dX7_merges_161 (by decide) ?_
              refine lv_iadd hx hb dX7_merges_162 ?_
              refine g_iastk (k := 1422) rfl (w' := MW cy ad (sR u40 0 (upd (u40.1 0) 1422 ((u40.1 0 1422) + 1))) ++ rest) X hw 1 rfl (vk rfl) rfl dX7_merges_163 (fun H locs hw => ?_)
              obtain ⟨u41, hu41⟩ : ∃ z, z = sR u40 0 (upd (u40.1 0) 1422 ((u40.1 0 1422) + 1)) := ⟨_, rfl⟩
              rw [← hu41] at hw
              have hT1 := hT1.trans (bnd_eq hu41)
              try have hS := Eq.mp (bnd_eq hu41) hS
              exact hret _ _ _ _ _ dX7_merges_164 ((hF.trans (lp_r hT1)).symm.trans hsp) hw
            · skip
              have hT1 := hT1.trans (if_pos c38)
              try have hS := Eq.mp (if_pos c38) hS
              refine lv_aload_n hx hb dX7_merges_140 rfl (lv_at hl 1 rfl) ?_
              refine lv_iload_n hx hb dX7_merges_141 rfl (lv_at hl 3 rfl) ?_
              have hSc : S_X7_takesBack u35 q2 := hS.1
              have hS := hS.2
              refine gcV_v (rest := []) X (c_X7_takesBack l D cy ad rest u35 q2 hSc) gy_X7_takesBack gX7_merges_X7_takesBack ⟨rfl, rfl, Nat.le_of_ble_eq_true rfl, Nat.le_of_ble_eq_true rfl⟩ 0 rfl rfl rfl hl rfl (Nat.le_of_ble_eq_true rfl) dX7_merges_142 ⟨Nat.zero_le _, Nat.zero_le _⟩ hw (fun u43 H locs hu43 hw => ?_)
              have hu43 : u43 = F_X7_takesBack u35 q2 := hu43
              have hT1 := hT1.trans (bnd_eq hu43)
              try have hS := Eq.mp (bnd_eq hu43) hS
              refine lv_aload_n hx hb dX7_merges_145 rfl (lv_at hl 1 rfl) ?_
              refine lv_iload_n hx hb dX7_merges_146 rfl (lv_at hl 3 rfl) ?_
              refine lv_iconst (v := 0) hx hb dX7_merges_147 (by decide) ?_
              refine lv_iconst (v := 0) hx hb dX7_merges_148 (by decide) ?_
              have hSc : S_X7_sets u43 q2 0 0 := hS.1
              have hS := hS.2
              refine gcV_v (rest := []) X (c_X7_sets l D cy ad rest u43 q2 0 0 hSc) gy_X7_sets gX7_merges_X7_sets ⟨rfl, rfl, Nat.le_of_ble_eq_true rfl, Nat.le_of_ble_eq_true rfl⟩ 0 rfl rfl rfl hl rfl (Nat.le_of_ble_eq_true rfl) dX7_merges_149 ⟨Nat.zero_le _, Nat.zero_le _⟩ hw (fun u45 H locs hu45 hw => ?_)
              have hu45 : u45 = F_X7_sets u43 q2 0 0 := hu45
              have hT1 := hT1.trans (bnd_eq hu45)
              try have hS := Eq.mp (bnd_eq hu45) hS
              refine lv_aload_n hx hb dX7_merges_152 rfl (lv_at hl 1 rfl) ?_
              refine g_get (v := .ref (ad 1)) (C := RX7) (T := TX7) (N := 16) (ci := 9) X inX7 hw 0 rfl rfl 1 (by decide) (List.mem_of_getElem? (i := 1) rfl) rfl rfl dX7_merges_153 ?_
              refine lv_sipush (v := 1422) hx hb dX7_merges_156 (by decide) ?_
              refine lv_dup2_11 hx hb dX7_merges_159 rfl rfl ?_
              refine g_ialdk (k := 1422) rfl X hw 1 rfl (vk rfl) dX7_merges_160 ?_
              refine lv_iconst (v := 1) hx hb dX7_merges_161 (by decide) ?_
              refine lv_iadd hx hb dX7_merges_162 ?_
              refine g_iastk (k := 1422) rfl (w' := MW cy ad (sR u45 0 (upd (u45.1 0) 1422 ((u45.1 0 1422) + 1))) ++ rest) X hw 1 rfl (vk rfl) rfl dX7_merges_163 (fun H locs hw => ?_)
              obtain ⟨u46, hu46⟩ : ∃ z, z = sR u45 0 (upd (u45.1 0) 1422 ((u45.1 0 1422) + 1)) := ⟨_, rfl⟩
              rw [← hu46] at hw
              have hT1 := hT1.trans (bnd_eq hu46)
              try have hS := Eq.mp (bnd_eq hu46) hS
              exact hret _ _ _ _ _ dX7_merges_164 ((hF.trans (lp_r hT1)).symm.trans hsp) hw
        · skip
          have hT1 := hT1.trans (if_neg c7)
          try have hS := Eq.mp (if_neg c7) hS
          refine lv_aload_n hx hb dX7_merges_76 rfl (lv_at hl 1 rfl) ?_
          refine lv_iload_n hx hb dX7_merges_77 rfl (lv_at hl 2 rfl) ?_
          refine lv_iconst (v := 2) hx hb dX7_merges_78 (by decide) ?_
          have hSc : S_X7_of w1 q1 2 := hS.1
          have hS := hS.2
          refine gcV_i (rest := [.int 2, .int q1, .ref (ad 0)]) X (c_X7_of l D cy ad rest w1 q1 2 hSc) gy_X7_of gX7_merges_X7_of ⟨rfl, rfl, Nat.le_of_ble_eq_true rfl, Nat.le_of_ble_eq_true rfl⟩ 0 rfl rfl rfl hl rfl (Nat.le_of_ble_eq_true rfl) dX7_merges_79 ⟨Nat.zero_le _, Nat.zero_le _⟩ hw (fun r47 _ H locs hr47 hw => ?_)
          have hr47 : r47 = F_X7_of w1 q1 2 := hr47
          rw [show r47 = r3 from hr47.trans hr3.symm]
          refine lv_goto (tgt := 91) hx hb dX7_merges_82 (by decide) ?_
          have hSc : S_X7_sets w1 q1 2 r3 := hS.1
          have hS := hS.2
          refine gcV_v (rest := []) X (c_X7_sets l D cy ad rest w1 q1 2 r3 hSc) gy_X7_sets gX7_merges_X7_sets ⟨rfl, rfl, Nat.le_of_ble_eq_true rfl, Nat.le_of_ble_eq_true rfl⟩ 0 rfl rfl rfl hl rfl (Nat.le_of_ble_eq_true rfl) dX7_merges_91 ⟨Nat.zero_le _, Nat.zero_le _⟩ hw (fun u50 H locs hu50 hw => ?_)
          have hu50 : u50 = F_X7_sets w1 q1 2 r3 := hu50
          have hT1 := hT1.trans (bnd_eq hu50)
          try have hS := Eq.mp (bnd_eq hu50) hS
          refine lv_aload_n hx hb dX7_merges_94 rfl (lv_at hl 1 rfl) ?_
          refine lv_iload_n hx hb dX7_merges_95 rfl (lv_at hl 2 rfl) ?_
          refine lv_iconst (v := 3) hx hb dX7_merges_96 (by decide) ?_
          refine lv_aload_n hx hb dX7_merges_97 rfl (lv_at hl 1 rfl) ?_
          refine lv_iload_n hx hb dX7_merges_98 rfl (lv_at hl 2 rfl) ?_
          refine lv_iconst (v := 3) hx hb dX7_merges_99 (by decide) ?_
          have hSc : S_X7_of u50 q1 3 := hS.1
          have hS := hS.2
          refine gcV_i (rest := [.int 3, .int q1, .ref (ad 0)]) X (c_X7_of l D cy ad rest u50 q1 3 hSc) gy_X7_of gX7_merges_X7_of ⟨rfl, rfl, Nat.le_of_ble_eq_true rfl, Nat.le_of_ble_eq_true rfl⟩ 0 rfl rfl rfl hl rfl (Nat.le_of_ble_eq_true rfl) dX7_merges_100 ⟨Nat.zero_le _, Nat.zero_le _⟩ hw (fun r51 _ H locs hr51 hw => ?_)
          have hr51 : r51 = F_X7_of u50 q1 3 := hr51
          have hT1 := hT1.trans (bnd_eq hr51)
          try have hS := Eq.mp (bnd_eq hr51) hS
          refine lv_aload_n hx hb dX7_merges_103 rfl (lv_at hl 1 rfl) ?_
          refine lv_iload_n hx hb dX7_merges_104 rfl (lv_at hl 3 rfl) ?_
          refine lv_iconst (v := 3) hx hb dX7_merges_105 (by decide) ?_
          have hSc : S_X7_of u50 q2 3 := hS.1
          have hS := hS.2
          refine gcV_i (rest := [.int r51, .int 3, .int q1, .ref (ad 0)]) X (c_X7_of l D cy ad rest u50 q2 3 hSc) gy_X7_of gX7_merges_X7_of ⟨rfl, rfl, Nat.le_of_ble_eq_true rfl, Nat.le_of_ble_eq_true rfl⟩ 0 rfl rfl rfl hl rfl (Nat.le_of_ble_eq_true rfl) dX7_merges_106 ⟨Nat.zero_le _, Nat.zero_le _⟩ hw (fun r53 _ H locs hr53 hw => ?_)
          have hr53 : r53 = F_X7_of u50 q2 3 := hr53
          have hT1 := hT1.trans (bnd_eq hr53)
          try have hS := Eq.mp (bnd_eq hr53) hS
          refine lv_icmp_le (tgt := 121) hx hb dX7_merges_109 (by decide) (fun c55 => ?_) (fun c55 => ?_)
          · skip
            have hT1 := hT1.trans (if_pos c55)
            try have hS := Eq.mp (if_pos c55) hS
            refine lv_aload_n hx hb dX7_merges_121 rfl (lv_at hl 1 rfl) ?_
            refine lv_iload_n hx hb dX7_merges_122 rfl (lv_at hl 3 rfl) ?_
            refine lv_iconst (v := 3) hx hb dX7_merges_123 (by decide) ?_
            have hSc : S_X7_of u50 q2 3 := hS.1
            have hS := hS.2
            refine gcV_i (rest := [.int 3, .int q1, .ref (ad 0)]) X (c_X7_of l D cy ad rest u50 q2 3 hSc) gy_X7_of gX7_merges_X7_of ⟨rfl, rfl, Nat.le_of_ble_eq_true rfl, Nat.le_of_ble_eq_true rfl⟩ 0 rfl rfl rfl hl rfl (Nat.le_of_ble_eq_true rfl) dX7_merges_124 ⟨Nat.zero_le _, Nat.zero_le _⟩ hw (fun r56 _ H locs hr56 hw => ?_)
            have hr56 : r56 = F_X7_of u50 q2 3 := hr56
            rw [show r56 = r53 from hr56.trans hr53.symm]
            have hSc : S_X7_sets u50 q1 3 r53 := hS.1
            have hS := hS.2
            refine gcV_v (rest := []) X (c_X7_sets l D cy ad rest u50 q1 3 r53 hSc) gy_X7_sets gX7_merges_X7_sets ⟨rfl, rfl, Nat.le_of_ble_eq_true rfl, Nat.le_of_ble_eq_true rfl⟩ 0 rfl rfl rfl hl rfl (Nat.le_of_ble_eq_true rfl) dX7_merges_127 ⟨Nat.zero_le _, Nat.zero_le _⟩ hw (fun u59 H locs hu59 hw => ?_)
            have hu59 : u59 = F_X7_sets u50 q1 3 r53 := hu59
            have hT1 := hT1.trans (bnd_eq hu59)
            try have hS := Eq.mp (bnd_eq hu59) hS
            refine lv_aload_n hx hb dX7_merges_130 rfl (lv_at hl 1 rfl) ?_
            refine lv_iload_n hx hb dX7_merges_131 rfl (lv_at hl 3 rfl) ?_
            refine lv_iconst (v := 5) hx hb dX7_merges_132 (by decide) ?_
            have hSc : S_X7_of u59 q2 5 := hS.1
            have hS := hS.2
            refine gcV_i (rest := []) X (c_X7_of l D cy ad rest u59 q2 5 hSc) gy_X7_of gX7_merges_X7_of ⟨rfl, rfl, Nat.le_of_ble_eq_true rfl, Nat.le_of_ble_eq_true rfl⟩ 0 rfl rfl rfl hl rfl (Nat.le_of_ble_eq_true rfl) dX7_merges_133 ⟨Nat.zero_le _, Nat.zero_le _⟩ hw (fun r60 _ H locs hr60 hw => ?_)
            have hr60 : r60 = F_X7_of u59 q2 5 := hr60
            have hT1 := hT1.trans (bnd_eq hr60)
            try have hS := Eq.mp (bnd_eq hr60) hS
            refine lv_iconst (v := 1) hx hb dX7_merges_136 (by decide) ?_
            refine lv_icmp_ne (tgt := 145) hx hb dX7_merges_137 (by decide) (fun c62 => ?_) (fun c62 => ?_)
            · skip
              have hT1 := hT1.trans (if_neg c62)
              try have hS := Eq.mp (if_neg c62) hS
              refine lv_aload_n hx hb dX7_merges_145 rfl (lv_at hl 1 rfl) ?_
              refine lv_iload_n hx hb dX7_merges_146 rfl (lv_at hl 3 rfl) ?_
              refine lv_iconst (v := 0) hx hb dX7_merges_147 (by decide) ?_
              refine lv_iconst (v := 0) hx hb dX7_merges_148 (by decide) ?_
              have hSc : S_X7_sets u59 q2 0 0 := hS.1
              have hS := hS.2
              refine gcV_v (rest := []) X (c_X7_sets l D cy ad rest u59 q2 0 0 hSc) gy_X7_sets gX7_merges_X7_sets ⟨rfl, rfl, Nat.le_of_ble_eq_true rfl, Nat.le_of_ble_eq_true rfl⟩ 0 rfl rfl rfl hl rfl (Nat.le_of_ble_eq_true rfl) dX7_merges_149 ⟨Nat.zero_le _, Nat.zero_le _⟩ hw (fun u64 H locs hu64 hw => ?_)
              have hu64 : u64 = F_X7_sets u59 q2 0 0 := hu64
              have hT1 := hT1.trans (bnd_eq hu64)
              try have hS := Eq.mp (bnd_eq hu64) hS
              refine lv_aload_n hx hb dX7_merges_152 rfl (lv_at hl 1 rfl) ?_
              refine g_get (v := .ref (ad 1)) (C := RX7) (T := TX7) (N := 16) (ci := 9) X inX7 hw 0 rfl rfl 1 (by decide) (List.mem_of_getElem? (i := 1) rfl) rfl rfl dX7_merges_153 ?_
              refine lv_sipush (v := 1422) hx hb dX7_merges_156 (by decide) ?_
              refine lv_dup2_11 hx hb dX7_merges_159 rfl rfl ?_
              refine g_ialdk (k := 1422) rfl X hw 1 rfl (vk rfl) dX7_merges_160 ?_
              refine lv_iconst (v := 1) hx hb dX7_merges_161 (by decide) ?_
              refine lv_iadd hx hb dX7_merges_162 ?_
              refine g_iastk (k := 1422) rfl (w' := MW cy ad (sR u64 0 (upd (u64.1 0) 1422 ((u64.1 0 1422) + 1))) ++ rest) X hw 1 rfl (vk rfl) rfl dX7_merges_163 (fun H locs hw => ?_)
              obtain ⟨u65, hu65⟩ : ∃ z, z = sR u64 0 (upd (u64.1 0) 1422 ((u64.1 0 1422) + 1)) := ⟨_, rfl⟩
              rw [← hu65] at hw
              have hT1 := hT1.trans (bnd_eq hu65)
              try have hS := Eq.mp (bnd_eq hu65) hS
              exact hret _ _ _ _ _ dX7_merges_164 ((hF.trans (lp_r hT1)).symm.trans hsp) hw
            · skip
              have hT1 := hT1.trans (if_pos c62)
              try have hS := Eq.mp (if_pos c62) hS
              refine lv_aload_n hx hb dX7_merges_140 rfl (lv_at hl 1 rfl) ?_
              refine lv_iload_n hx hb dX7_merges_141 rfl (lv_at hl 3 rfl) ?_
              have hSc : S_X7_takesBack u59 q2 := hS.1
              have hS := hS.2
              refine gcV_v (rest := []) X (c_X7_takesBack l D cy ad rest u59 q2 hSc) gy_X7_takesBack gX7_merges_X7_takesBack ⟨rfl, rfl, Nat.le_of_ble_eq_true rfl, Nat.le_of_ble_eq_true rfl⟩ 0 rfl rfl rfl hl rfl (Nat.le_of_ble_eq_true rfl) dX7_merges_142 ⟨Nat.zero_le _, Nat.zero_le _⟩ hw (fun u67 H locs hu67 hw => ?_)
              have hu67 : u67 = F_X7_takesBack u59 q2 := hu67
              have hT1 := hT1.trans (bnd_eq hu67)
              try have hS := Eq.mp (bnd_eq hu67) hS
              refine lv_aload_n hx hb dX7_merges_145 rfl (lv_at hl 1 rfl) ?_
              refine lv_iload_n hx hb dX7_merges_146 rfl (lv_at hl 3 rfl) ?_
              refine lv_iconst (v := 0) hx hb dX7_merges_147 (by decide) ?_
              refine lv_iconst (v := 0) hx hb dX7_merges_148 (by decide) ?_
              have hSc : S_X7_sets u67 q2 0 0 := hS.1
              have hS := hS.2
              refine gcV_v (rest := []) X (c_X7_sets l D cy ad rest u67 q2 0 0 hSc) gy_X7_sets gX7_merges_X7_sets ⟨rfl, rfl, Nat.le_of_ble_eq_true rfl, Nat.le_of_ble_eq_true rfl⟩ 0 rfl rfl rfl hl rfl (Nat.le_of_ble_eq_true rfl) dX7_merges_149 ⟨Nat.zero_le _, Nat.zero_le _⟩ hw (fun u69 H locs hu69 hw => ?_)
              have hu69 : u69 = F_X7_sets u67 q2 0 0 := hu69
              have hT1 := hT1.trans (bnd_eq hu69)
              try have hS := Eq.mp (bnd_eq hu69) hS
              refine lv_aload_n hx hb dX7_merges_152 rfl (lv_at hl 1 rfl) ?_
              refine g_get (v := .ref (ad 1)) (C := RX7) (T := TX7) (N := 16) (ci := 9) X inX7 hw 0 rfl rfl 1 (by decide) (List.mem_of_getElem? (i := 1) rfl) rfl rfl dX7_merges_153 ?_
              refine lv_sipush (v := 1422) hx hb dX7_merges_156 (by decide) ?_
              refine lv_dup2_11 hx hb dX7_merges_159 rfl rfl ?_
              refine g_ialdk (k := 1422) rfl X hw 1 rfl (vk rfl) dX7_merges_160 ?_
              refine lv_iconst (v := 1) hx hb dX7_merges_161 (by decide) ?_
              refine lv_iadd hx hb dX7_merges_162 ?_
              refine g_iastk (k := 1422) rfl (w' := MW cy ad (sR u69 0 (upd (u69.1 0) 1422 ((u69.1 0 1422) + 1))) ++ rest) X hw 1 rfl (vk rfl) rfl dX7_merges_163 (fun H locs hw => ?_)
              obtain ⟨u70, hu70⟩ : ∃ z, z = sR u69 0 (upd (u69.1 0) 1422 ((u69.1 0 1422) + 1)) := ⟨_, rfl⟩
              rw [← hu70] at hw
              have hT1 := hT1.trans (bnd_eq hu70)
              try have hS := Eq.mp (bnd_eq hu70) hS
              exact hret _ _ _ _ _ dX7_merges_164 ((hF.trans (lp_r hT1)).symm.trans hsp) hw
          · skip
            have hT1 := hT1.trans (if_neg c55)
            try have hS := Eq.mp (if_neg c55) hS
            refine lv_aload_n hx hb dX7_merges_112 rfl (lv_at hl 1 rfl) ?_
            refine lv_iload_n hx hb dX7_merges_113 rfl (lv_at hl 2 rfl) ?_
            refine lv_iconst (v := 3) hx hb dX7_merges_114 (by decide) ?_
            have hSc : S_X7_of u50 q1 3 := hS.1
            have hS := hS.2
            refine gcV_i (rest := [.int 3, .int q1, .ref (ad 0)]) X (c_X7_of l D cy ad rest u50 q1 3 hSc) gy_X7_of gX7_merges_X7_of ⟨rfl, rfl, Nat.le_of_ble_eq_true rfl, Nat.le_of_ble_eq_true rfl⟩ 0 rfl rfl rfl hl rfl (Nat.le_of_ble_eq_true rfl) dX7_merges_115 ⟨Nat.zero_le _, Nat.zero_le _⟩ hw (fun r71 _ H locs hr71 hw => ?_)
            have hr71 : r71 = F_X7_of u50 q1 3 := hr71
            rw [show r71 = r51 from hr71.trans hr51.symm]
            refine lv_goto (tgt := 127) hx hb dX7_merges_118 (by decide) ?_
            have hSc : S_X7_sets u50 q1 3 r51 := hS.1
            have hS := hS.2
            refine gcV_v (rest := []) X (c_X7_sets l D cy ad rest u50 q1 3 r51 hSc) gy_X7_sets gX7_merges_X7_sets ⟨rfl, rfl, Nat.le_of_ble_eq_true rfl, Nat.le_of_ble_eq_true rfl⟩ 0 rfl rfl rfl hl rfl (Nat.le_of_ble_eq_true rfl) dX7_merges_127 ⟨Nat.zero_le _, Nat.zero_le _⟩ hw (fun u74 H locs hu74 hw => ?_)
            have hu74 : u74 = F_X7_sets u50 q1 3 r51 := hu74
            have hT1 := hT1.trans (bnd_eq hu74)
            try have hS := Eq.mp (bnd_eq hu74) hS
            refine lv_aload_n hx hb dX7_merges_130 rfl (lv_at hl 1 rfl) ?_
            refine lv_iload_n hx hb dX7_merges_131 rfl (lv_at hl 3 rfl) ?_
            refine lv_iconst (v := 5) hx hb dX7_merges_132 (by decide) ?_
            have hSc : S_X7_of u74 q2 5 := hS.1
            have hS := hS.2
            refine gcV_i (rest := []) X (c_X7_of l D cy ad rest u74 q2 5 hSc) gy_X7_of gX7_merges_X7_of ⟨rfl, rfl, Nat.le_of_ble_eq_true rfl, Nat.le_of_ble_eq_true rfl⟩ 0 rfl rfl rfl hl rfl (Nat.le_of_ble_eq_true rfl) dX7_merges_133 ⟨Nat.zero_le _, Nat.zero_le _⟩ hw (fun r75 _ H locs hr75 hw => ?_)
            have hr75 : r75 = F_X7_of u74 q2 5 := hr75
            have hT1 := hT1.trans (bnd_eq hr75)
            try have hS := Eq.mp (bnd_eq hr75) hS
            refine lv_iconst (v := 1) hx hb dX7_merges_136 (by decide) ?_
            refine lv_icmp_ne (tgt := 145) hx hb dX7_merges_137 (by decide) (fun c77 => ?_) (fun c77 => ?_)
            · skip
              have hT1 := hT1.trans (if_neg c77)
              try have hS := Eq.mp (if_neg c77) hS
              refine lv_aload_n hx hb dX7_merges_145 rfl (lv_at hl 1 rfl) ?_
              refine lv_iload_n hx hb dX7_merges_146 rfl (lv_at hl 3 rfl) ?_
              refine lv_iconst (v := 0) hx hb dX7_merges_147 (by decide) ?_
              refine lv_iconst (v := 0) hx hb dX7_merges_148 (by decide) ?_
              have hSc : S_X7_sets u74 q2 0 0 := hS.1
              have hS := hS.2
              refine gcV_v (rest := []) X (c_X7_sets l D cy ad rest u74 q2 0 0 hSc) gy_X7_sets gX7_merges_X7_sets ⟨rfl, rfl, Nat.le_of_ble_eq_true rfl, Nat.le_of_ble_eq_true rfl⟩ 0 rfl rfl rfl hl rfl (Nat.le_of_ble_eq_true rfl) dX7_merges_149 ⟨Nat.zero_le _, Nat.zero_le _⟩ hw (fun u79 H locs hu79 hw => ?_)
              have hu79 : u79 = F_X7_sets u74 q2 0 0 := hu79
              have hT1 := hT1.trans (bnd_eq hu79)
              try have hS := Eq.mp (bnd_eq hu79) hS
              refine lv_aload_n hx hb dX7_merges_152 rfl (lv_at hl 1 rfl) ?_
              refine g_get (v := .ref (ad 1)) (C := RX7) (T := TX7) (N := 16) (ci := 9) X inX7 hw 0 rfl rfl 1 (by decide) (List.mem_of_getElem? (i := 1) rfl) rfl rfl dX7_merges_153 ?_
              refine lv_sipush (v := 1422) hx hb dX7_merges_156 (by decide) ?_
              refine lv_dup2_11 hx hb dX7_merges_159 rfl rfl ?_
              refine g_ialdk (k := 1422) rfl X hw 1 rfl (vk rfl) dX7_merges_160 ?_
              refine lv_iconst (v := 1) hx hb dX7_merges_161 (by decide) ?_
              refine lv_iadd hx hb dX7_merges_162 ?_
              refine g_iastk (k := 1422) rfl (w' := MW cy ad (sR u79 0 (upd (u79.1 0) 1422 ((u79.1 0 1422) + 1))) ++ rest) X hw 1 rfl (vk rfl) rfl dX7_merges_163 (fun H locs hw => ?_)
              obtain ⟨u80, hu80⟩ : ∃ z, z = sR u79 0 (upd (u79.1 0) 1422 ((u79.1 0 1422) + 1)) := ⟨_, rfl⟩
              rw [← hu80] at hw
              have hT1 := hT1.trans (bnd_eq hu80)
              try have hS := Eq.mp (bnd_eq hu80) hS
              exact hret _ _ _ _ _ dX7_merges_164 ((hF.trans (lp_r hT1)).symm.trans hsp) hw
            · skip
              have hT1 := hT1.trans (if_pos c77)
              try have hS := Eq.mp (if_pos c77) hS
              refine lv_aload_n hx hb dX7_merges_140 rfl (lv_at hl 1 rfl) ?_
              refine lv_iload_n hx hb dX7_merges_141 rfl (lv_at hl 3 rfl) ?_
              have hSc : S_X7_takesBack u74 q2 := hS.1
              have hS := hS.2
              refine gcV_v (rest := []) X (c_X7_takesBack l D cy ad rest u74 q2 hSc) gy_X7_takesBack gX7_merges_X7_takesBack ⟨rfl, rfl, Nat.le_of_ble_eq_true rfl, Nat.le_of_ble_eq_true rfl⟩ 0 rfl rfl rfl hl rfl (Nat.le_of_ble_eq_true rfl) dX7_merges_142 ⟨Nat.zero_le _, Nat.zero_le _⟩ hw (fun u82 H locs hu82 hw => ?_)
              have hu82 : u82 = F_X7_takesBack u74 q2 := hu82
              have hT1 := hT1.trans (bnd_eq hu82)
              try have hS := Eq.mp (bnd_eq hu82) hS
              refine lv_aload_n hx hb dX7_merges_145 rfl (lv_at hl 1 rfl) ?_
              refine lv_iload_n hx hb dX7_merges_146 rfl (lv_at hl 3 rfl) ?_
              refine lv_iconst (v := 0) hx hb dX7_merges_147 (by decide) ?_
              refine lv_iconst (v := 0) hx hb dX7_merges_148 (by decide) ?_
              have hSc : S_X7_sets u82 q2 0 0 := hS.1
              have hS := hS.2
              refine gcV_v (rest := []) X (c_X7_sets l D cy ad rest u82 q2 0 0 hSc) gy_X7_sets gX7_merges_X7_sets ⟨rfl, rfl, Nat.le_of_ble_eq_true rfl, Nat.le_of_ble_eq_true rfl⟩ 0 rfl rfl rfl hl rfl (Nat.le_of_ble_eq_true rfl) dX7_merges_149 ⟨Nat.zero_le _, Nat.zero_le _⟩ hw (fun u84 H locs hu84 hw => ?_)
              have hu84 : u84 = F_X7_sets u82 q2 0 0 := hu84
              have hT1 := hT1.trans (bnd_eq hu84)
              try have hS := Eq.mp (bnd_eq hu84) hS
              refine lv_aload_n hx hb dX7_merges_152 rfl (lv_at hl 1 rfl) ?_
              refine g_get (v := .ref (ad 1)) (C := RX7) (T := TX7) (N := 16) (ci := 9) X inX7 hw 0 rfl rfl 1 (by decide) (List.mem_of_getElem? (i := 1) rfl) rfl rfl dX7_merges_153 ?_
              refine lv_sipush (v := 1422) hx hb dX7_merges_156 (by decide) ?_
              refine lv_dup2_11 hx hb dX7_merges_159 rfl rfl ?_
              refine g_ialdk (k := 1422) rfl X hw 1 rfl (vk rfl) dX7_merges_160 ?_
              refine lv_iconst (v := 1) hx hb dX7_merges_161 (by decide) ?_
              refine lv_iadd hx hb dX7_merges_162 ?_
              refine g_iastk (k := 1422) rfl (w' := MW cy ad (sR u84 0 (upd (u84.1 0) 1422 ((u84.1 0 1422) + 1))) ++ rest) X hw 1 rfl (vk rfl) rfl dX7_merges_163 (fun H locs hw => ?_)
              obtain ⟨u85, hu85⟩ : ∃ z, z = sR u84 0 (upd (u84.1 0) 1422 ((u84.1 0 1422) + 1)) := ⟨_, rfl⟩
              rw [← hu85] at hw
              have hT1 := hT1.trans (bnd_eq hu85)
              try have hS := Eq.mp (bnd_eq hu85) hS
              exact hret _ _ _ _ _ dX7_merges_164 ((hF.trans (lp_r hT1)).symm.trans hsp) hw
      · skip
        have hT1 := hT1.trans (if_neg c2)
        try have hS := Eq.mp (if_neg c2) hS
        refine lv_aload_n hx hb dX7_merges_14 rfl (lv_at hl 1 rfl) ?_
        refine g_get (v := .ref (ad 1)) (C := RX7) (T := TX7) (N := 16) (ci := 9) X inX7 hw 0 rfl rfl 1 (by decide) (List.mem_of_getElem? (i := 1) rfl) rfl rfl dX7_merges_15 ?_
        refine lv_iconst (v := 4) hx hb dX7_merges_18 (by decide) ?_
        refine lv_iload_n hx hb dX7_merges_19 rfl (lv_at hl 0 rfl) ?_
        refine lv_imul hx hb dX7_merges_20 ?_
        refine lv_iconst (v := 3) hx hb dX7_merges_21 (by decide) ?_
        refine lv_iadd hx hb dX7_merges_22 ?_
        refine lv_aload_n hx hb dX7_merges_23 rfl (lv_at hl 1 rfl) ?_
        refine g_get (v := .ref (ad 1)) (C := RX7) (T := TX7) (N := 16) (ci := 9) X inX7 hw 0 rfl rfl 1 (by decide) (List.mem_of_getElem? (i := 1) rfl) rfl rfl dX7_merges_24 ?_
        refine lv_iconst (v := 4) hx hb dX7_merges_27 (by decide) ?_
        refine lv_iload_n hx hb dX7_merges_28 rfl (lv_at hl 0 rfl) ?_
        refine lv_imul hx hb dX7_merges_29 ?_
        refine lv_iconst (v := 3) hx hb dX7_merges_30 (by decide) ?_
        refine lv_iadd hx hb dX7_merges_31 ?_
        refine g_iald X hw 1 rfl hS.1 dX7_merges_32 ?_
        have hS := hS.2
        refine lv_iload_n hx hb dX7_merges_33 rfl (lv_at hl 3 rfl) ?_
        refine lv_icmp_ne (tgt := 41) hx hb dX7_merges_34 (by decide) (fun c86 => ?_) (fun c86 => ?_)
        · skip
          have hT1 := hT1.trans (if_neg c86)
          try have hS := Eq.mp (if_neg c86) hS
          refine lv_aload_n hx hb dX7_merges_41 rfl (lv_at hl 1 rfl) ?_
          refine g_get (v := .ref (ad 1)) (C := RX7) (T := TX7) (N := 16) (ci := 9) X inX7 hw 0 rfl rfl 1 (by decide) (List.mem_of_getElem? (i := 1) rfl) rfl rfl dX7_merges_42 ?_
          refine lv_iconst (v := 4) hx hb dX7_merges_45 (by decide) ?_
          refine lv_iload_n hx hb dX7_merges_46 rfl (lv_at hl 0 rfl) ?_
          refine lv_imul hx hb dX7_merges_47 ?_
          refine lv_iconst (v := 3) hx hb dX7_merges_48 (by decide) ?_
          refine lv_iadd hx hb dX7_merges_49 ?_
          refine g_iald X hw 1 rfl hS.1 dX7_merges_50 ?_
          have hS := hS.2
          refine g_iast (w' := MW cy ad (sR w1 0 (upd (w1.1 0) ((4 * v1_3) + 3).toNatClampNeg (w1.1 0 ((4 * v1_3) + 3).toNatClampNeg))) ++ rest) X hw 1 rfl hS.1 rfl dX7_merges_51 (fun H locs hw => ?_)
          have hS := hS.2
          obtain ⟨u87, hu87⟩ : ∃ z, z = sR w1 0 (upd (w1.1 0) ((4 * v1_3) + 3).toNatClampNeg (w1.1 0 ((4 * v1_3) + 3).toNatClampNeg)) := ⟨_, rfl⟩
          rw [← hu87] at hw
          have hT1 := hT1.trans (bnd_eq hu87)
          try have hS := Eq.mp (bnd_eq hu87) hS
          refine lv_iinc (v := (v1_3 + 1)) (lv' := [(3, .int (v1_3 + 1)), (0, .ref (ad 0)), (1, .int q1), (2, .int q2)]) hx hb dX7_merges_52 hl (k := 0) rfl rfl (by decide) rfl (fun ls hl => ?_)
          refine lv_goto (tgt := 2) hx hb dX7_merges_55 (by decide) ?_
          exact ih1 (v1_3 + 1) u87 (hF.trans (lp_l hT1)) (hLn1 _ hT1) _ _ ls (lv_sub hl [0, 1, 2, 3] rfl) hw
        · skip
          have hT1 := hT1.trans (if_pos c86)
          try have hS := Eq.mp (if_pos c86) hS
          refine lv_iload_n hx hb dX7_merges_37 rfl (lv_at hl 2 rfl) ?_
          refine lv_goto (tgt := 51) hx hb dX7_merges_38 (by decide) ?_
          refine g_iast (w' := MW cy ad (sR w1 0 (upd (w1.1 0) ((4 * v1_3) + 3).toNatClampNeg q1)) ++ rest) X hw 1 rfl hS.1 rfl dX7_merges_51 (fun H locs hw => ?_)
          have hS := hS.2
          obtain ⟨u88, hu88⟩ : ∃ z, z = sR w1 0 (upd (w1.1 0) ((4 * v1_3) + 3).toNatClampNeg q1) := ⟨_, rfl⟩
          rw [← hu88] at hw
          have hT1 := hT1.trans (bnd_eq hu88)
          try have hS := Eq.mp (bnd_eq hu88) hS
          refine lv_iinc (v := (v1_3 + 1)) (lv' := [(3, .int (v1_3 + 1)), (0, .ref (ad 0)), (1, .int q1), (2, .int q2)]) hx hb dX7_merges_52 hl (k := 0) rfl rfl (by decide) rfl (fun ls hl => ?_)
          refine lv_goto (tgt := 2) hx hb dX7_merges_55 (by decide) ?_
          exact ih1 (v1_3 + 1) u88 (hF.trans (lp_l hT1)) (hLn1 _ hT1) _ _ ls (lv_sub hl [0, 1, 2, 3] rfl) hw
  exact L1 _ 0 C hF hS _ _ ls (lv_sub hl [0, 1, 2, 3] rfl) hw
theorem gy_X7_mergesOne : gY yX7_mergesOne RX7 cX7_mergesOne 4 (some .boolean) wsX7_mergesOne 1 := ⟨⟨_, rfl⟩, rfl, by decide +kernel, by decide +kernel, by decide +kernel⟩
def st_X7_mergesOne_18 (q1 : Int32) (v1_2 : Int32) (v3_3 : Int32) (w3 : CS) : (Int32 × CS) ⊕ ((Int32 × CS) ⊕ (Int32 × CS)) := (if (w3.1 0 1401) ≤ v3_3 then .inr (.inl ((v1_2 + 1), w3)) else (bnd (F_X7_isOpen w3 v1_2) (fun r5 => (if r5 = 0 then .inl ((v3_3 + 1), w3) else (bnd (F_X7_isOpen w3 v3_3) (fun r8 => (if r8 = 0 then .inl ((v3_3 + 1), w3) else (bnd (F_X7_of w3 v1_2 1) (fun r11 => (if r11 = q1 then (bnd (F_X7_of w3 v3_3 1) (fun r14 => (if r14 = q1 then (bnd (F_X7_meet w3 v1_2 v3_3) (fun r17 => (if r17 = 0 then .inl ((v3_3 + 1), w3) else (bnd (F_X7_merges w3 v1_2 v3_3) (fun u21 => .inr (.inr ((1, u21)))))))) else .inl ((v3_3 + 1), w3)))) else .inl ((v3_3 + 1), w3)))))))))))
def Sst_X7_mergesOne_18 (q1 : Int32) (v1_2 : Int32) (v3_3 : Int32) (w3 : CS) : Prop := (if (w3.1 0 1401) ≤ v3_3 then True else (S_X7_isOpen w3 v1_2 ∧ (bnd (F_X7_isOpen w3 v1_2) (fun r5 => (if r5 = 0 then True else (S_X7_isOpen w3 v3_3 ∧ (bnd (F_X7_isOpen w3 v3_3) (fun r8 => (if r8 = 0 then True else (S_X7_of w3 v1_2 1 ∧ (bnd (F_X7_of w3 v1_2 1) (fun r11 => (if r11 = q1 then (S_X7_of w3 v3_3 1 ∧ (bnd (F_X7_of w3 v3_3 1) (fun r14 => (if r14 = q1 then (S_X7_meet w3 v1_2 v3_3 ∧ (bnd (F_X7_meet w3 v1_2 v3_3) (fun r17 => (if r17 = 0 then True else (S_X7_merges w3 v1_2 v3_3 ∧ True))))) else True)))) else True)))))))))))))
def st_X7_mergesOne_2 (q1 : Int32) (C : CS) (v1_2 : Int32) (w1 : CS) : (Int32 × CS) ⊕ (Int32 × CS) := (if (w1.1 0 1401) ≤ v1_2 then .inr ((0, w1)) else lp (fun (z : Int32 × CS) => st_X7_mergesOne_18 q1 v1_2 z.1 z.2) (.inr (0, C)) (((w1.1 0 1401).toInt - (v1_2 + 1).toInt).toNat + 1) ((v1_2 + 1), w1))
def Sst_X7_mergesOne_2 (q1 : Int32) (C : CS) (v1_2 : Int32) (w1 : CS) : Prop := (if (w1.1 0 1401) ≤ v1_2 then True else lpS (fun (z : Int32 × CS) => st_X7_mergesOne_18 q1 v1_2 z.1 z.2) (fun (z : Int32 × CS) => Sst_X7_mergesOne_18 q1 v1_2 z.1 z.2) (((w1.1 0 1401).toInt - (v1_2 + 1).toInt).toNat + 1) ((v1_2 + 1), w1))
def F_X7_mergesOne (C : CS) (q1 : Int32) : Int32 × CS := lp (fun (z : Int32 × CS) => st_X7_mergesOne_2 q1 C z.1 z.2) (0, C) (((C.1 0 1401).toInt - (0 : Int32).toInt).toNat + 1) (0, C)
def S_X7_mergesOne (C : CS) (q1 : Int32) : Prop := lpS (fun (z : Int32 × CS) => st_X7_mergesOne_2 q1 C z.1 z.2) (fun (z : Int32 × CS) => Sst_X7_mergesOne_2 q1 C z.1 z.2) (((C.1 0 1401).toInt - (0 : Int32).toInt).toNat + 1) (0, C)
abbrev rmX7_mergesOne : Room := { frames := 4, cells := 0, slots := 0, locals := 92 }
set_option maxHeartbeats 4000000 in
set_option maxRecDepth 100000 in
theorem c_X7_mergesOne (l : Launch) (D : va_G) (cy : Nat → ClassId) (ad : Nat → Nat) (rest : va_W) (C : CS) (q1 : Int32) (hS : S_X7_mergesOne C q1) : GMi l yX7_mergesOne wsX7_mergesOne rmX7_mergesOne D cy [.ref (ad 0), .int q1] (MW cy ad C ++ rest) (fun (r : Int32) (u : CS) => (r = (F_X7_mergesOne C q1).1 ∧ u = (F_X7_mergesOne C q1).2) ∧ (r = 0 ∨ r = 1)) (fun u => MW cy ad u ++ rest) := by
  refine GMz.intro cX7_mergesOne 4 RX7 (by decide) rfl rfl (Nat.le_of_ble_eq_true rfl) ?_
  intro p e s m args below meth c A Q ls X hret hl hw
  have hx := X.1
  have hb := X.2.1
  have hl : lv_has ls 4 [(0, .ref (ad 0)), (1, .int q1)] := hl
  have inX7 : ∀ w ∈ wsX70, w ∈ wsX7_mergesOne := fun w h => List.mem_cons_of_mem _ (List.mem_append_left _ (List.mem_append_right _ h))
  obtain ⟨sp, hsp⟩ : ∃ sp, sp = F_X7_mergesOne C q1 := ⟨_, rfl⟩
  have hF := hsp.trans (F_X7_mergesOne.eq_1 C q1)
  have hS := Eq.mp (S_X7_mergesOne.eq_1 C q1) hS
  refine lv_iconst (v := 0) hx hb dX7_mergesOne_0 (by decide) ?_
  refine lv_istore_n (lv' := [(2, .int 0), (0, .ref (ad 0)), (1, .int q1)]) hx hb dX7_mergesOne_1 rfl hl (by decide) rfl (fun ls hl => ?_)
  have L1 : ∀ (n1 : Nat) (v1_2 : Int32) (w1 : CS), sp = lp (fun (z : Int32 × CS) => st_X7_mergesOne_2 q1 C z.1 z.2) (0, C) n1 (v1_2, w1) → lpS (fun (z : Int32 × CS) => st_X7_mergesOne_2 q1 C z.1 z.2) (fun (z : Int32 × CS) => Sst_X7_mergesOne_2 q1 C z.1 z.2) n1 (v1_2, w1) → ∀ (H : Heap) (locs : List Loc) (ls : Array Slot), lv_has ls 4 [(2, .int v1_2), (0, .ref (ad 0)), (1, .int q1)] → gw D A s.heap (MW cy ad w1 ++ rest) H locs → W p l e rmX7_mergesOne s m args below meth c H locs 0 0 Q (F0 m 2 ls []) := by
    intro n1
    induction n1 with
    | zero => intro v1_2 w1 hF hL; exact False.elim hL
    | succ n1 ih1 =>
      intro v1_2 w1 hF hL H locs ls hl hw
      have hT1 := st_X7_mergesOne_2.eq_1 q1 C v1_2 w1
      have hLn1 := hL.2
      have hS := Eq.mp (Sst_X7_mergesOne_2.eq_1 q1 C v1_2 w1) hL.1
      refine lv_iload_n hx hb dX7_mergesOne_2 rfl (lv_at hl 0 rfl) ?_
      refine lv_aload_n hx hb dX7_mergesOne_3 rfl (lv_at hl 1 rfl) ?_
      refine g_get (v := .ref (ad 1)) (C := RX7) (T := TX7) (N := 16) (ci := 9) X inX7 hw 0 rfl rfl 1 (by decide) (List.mem_of_getElem? (i := 1) rfl) rfl rfl dX7_mergesOne_4 ?_
      refine lv_sipush (v := 1401) hx hb dX7_mergesOne_7 (by decide) ?_
      refine g_ialdk (k := 1401) rfl X hw 1 rfl (vk rfl) dX7_mergesOne_10 ?_
      refine lv_icmp_ge (tgt := 95) hx hb dX7_mergesOne_11 (by decide) (fun c2 => ?_) (fun c2 => ?_)
      · skip
        have hT1 := hT1.trans (if_pos c2)
        try have hS := Eq.mp (if_pos c2) hS
        refine lv_iconst (v := 0) hx hb dX7_mergesOne_95 (by decide) ?_
        exact hret _ _ _ _ _ _ dX7_mergesOne_96 (Or.inl rfl) ⟨⟨congrArg Prod.fst ((hF.trans (lp_r hT1)).symm.trans hsp), congrArg Prod.snd ((hF.trans (lp_r hT1)).symm.trans hsp)⟩, (Or.inl rfl)⟩ hw
      · skip
        have hT1 := hT1.trans (if_neg c2)
        try have hS := Eq.mp (if_neg c2) hS
        refine lv_iload_n hx hb dX7_mergesOne_14 rfl (lv_at hl 0 rfl) ?_
        refine lv_iconst (v := 1) hx hb dX7_mergesOne_15 (by decide) ?_
        refine lv_iadd hx hb dX7_mergesOne_16 ?_
        refine lv_istore_n (lv' := [(3, .int (v1_2 + 1)), (2, .int v1_2), (0, .ref (ad 0)), (1, .int q1)]) hx hb dX7_mergesOne_17 rfl hl (by decide) rfl (fun ls hl => ?_)
        have L3 : ∀ (n3 : Nat) (v3_3 : Int32) (w3 : CS), st_X7_mergesOne_2 q1 C v1_2 w1 = lp (fun (z : Int32 × CS) => st_X7_mergesOne_18 q1 v1_2 z.1 z.2) (.inr (0, C)) n3 (v3_3, w3) → lpS (fun (z : Int32 × CS) => st_X7_mergesOne_18 q1 v1_2 z.1 z.2) (fun (z : Int32 × CS) => Sst_X7_mergesOne_18 q1 v1_2 z.1 z.2) n3 (v3_3, w3) → ∀ (H : Heap) (locs : List Loc) (ls : Array Slot), lv_has ls 4 [(3, .int v3_3), (2, .int v1_2), (0, .ref (ad 0)), (1, .int q1)] → gw D A s.heap (MW cy ad w3 ++ rest) H locs → W p l e rmX7_mergesOne s m args below meth c H locs 0 0 Q (F0 m 18 ls []) := by
          intro n3
          induction n3 with
          | zero => intro v3_3 w3 hT1 hL; exact False.elim hL
          | succ n3 ih3 =>
            intro v3_3 w3 hT1 hL H locs ls hl hw
            have hT3 := st_X7_mergesOne_18.eq_1 q1 v1_2 v3_3 w3
            have hLn3 := hL.2
            have hS := Eq.mp (Sst_X7_mergesOne_18.eq_1 q1 v1_2 v3_3 w3) hL.1
            refine lv_iload_n hx hb dX7_mergesOne_18 rfl (lv_at hl 0 rfl) ?_
            refine lv_aload_n hx hb dX7_mergesOne_19 rfl (lv_at hl 2 rfl) ?_
            refine g_get (v := .ref (ad 1)) (C := RX7) (T := TX7) (N := 16) (ci := 9) X inX7 hw 0 rfl rfl 1 (by decide) (List.mem_of_getElem? (i := 1) rfl) rfl rfl dX7_mergesOne_20 ?_
            refine lv_sipush (v := 1401) hx hb dX7_mergesOne_23 (by decide) ?_
            refine g_ialdk (k := 1401) rfl X hw 1 rfl (vk rfl) dX7_mergesOne_26 ?_
            refine lv_icmp_ge (tgt := 89) hx hb dX7_mergesOne_27 (by decide) (fun c4 => ?_) (fun c4 => ?_)
            · skip
              have hT3 := hT3.trans (if_pos c4)
              try have hS := Eq.mp (if_pos c4) hS
              refine lv_iinc (v := (v1_2 + 1)) (lv' := [(2, .int (v1_2 + 1)), (3, .int v3_3), (0, .ref (ad 0)), (1, .int q1)]) hx hb dX7_mergesOne_89 hl (k := 1) rfl rfl (by decide) rfl (fun ls hl => ?_)
              refine lv_goto (tgt := 2) hx hb dX7_mergesOne_92 (by decide) ?_
              exact ih1 (v1_2 + 1) w3 (hF.trans (lp_l (hT1.trans (lp_r hT3)))) (hLn1 _ (hT1.trans (lp_r hT3))) _ _ ls (lv_sub hl [0, 2, 3] rfl) hw
            · skip
              have hT3 := hT3.trans (if_neg c4)
              try have hS := Eq.mp (if_neg c4) hS
              refine lv_aload_n hx hb dX7_mergesOne_30 rfl (lv_at hl 2 rfl) ?_
              refine lv_iload_n hx hb dX7_mergesOne_31 rfl (lv_at hl 1 rfl) ?_
              have hSc : S_X7_isOpen w3 v1_2 := hS.1
              have hS := hS.2
              refine gcV_i (rest := []) X (c_X7_isOpen l D cy ad rest w3 v1_2 hSc) gy_X7_isOpen gX7_mergesOne_X7_isOpen ⟨rfl, rfl, Nat.le_of_ble_eq_true rfl, Nat.le_of_ble_eq_true rfl⟩ 0 rfl rfl rfl hl rfl (Nat.le_of_ble_eq_true rfl) dX7_mergesOne_32 ⟨Nat.zero_le _, Nat.zero_le _⟩ hw (fun r5 _ H locs hr5 hw => ?_)
              obtain ⟨hr5, zr5⟩ : r5 = F_X7_isOpen w3 v1_2 ∧ (r5 = 0 ∨ r5 = 1) := hr5
              have hT3 := hT3.trans (bnd_eq hr5)
              try have hS := Eq.mp (bnd_eq hr5) hS
              refine lv_if_eq (tgt := 83) hx hb dX7_mergesOne_35 (by decide) (fun c7 => ?_) (fun c7 => ?_)
              · skip
                have hT3 := hT3.trans (if_pos c7)
                try have hS := Eq.mp (if_pos c7) hS
                refine lv_iinc (v := (v3_3 + 1)) (lv' := [(3, .int (v3_3 + 1)), (2, .int v1_2), (0, .ref (ad 0)), (1, .int q1)]) hx hb dX7_mergesOne_83 hl (k := 0) rfl rfl (by decide) rfl (fun ls hl => ?_)
                refine lv_goto (tgt := 18) hx hb dX7_mergesOne_86 (by decide) ?_
                exact ih3 (v3_3 + 1) w3 (hT1.trans (lp_l hT3)) (hLn3 _ hT3) _ _ ls (lv_sub hl [0, 1, 2, 3] rfl) hw
              · skip
                have hT3 := hT3.trans (if_neg c7)
                try have hS := Eq.mp (if_neg c7) hS
                refine lv_aload_n hx hb dX7_mergesOne_38 rfl (lv_at hl 2 rfl) ?_
                refine lv_iload_n hx hb dX7_mergesOne_39 rfl (lv_at hl 0 rfl) ?_
                have hSc : S_X7_isOpen w3 v3_3 := hS.1
                have hS := hS.2
                refine gcV_i (rest := []) X (c_X7_isOpen l D cy ad rest w3 v3_3 hSc) gy_X7_isOpen gX7_mergesOne_X7_isOpen ⟨rfl, rfl, Nat.le_of_ble_eq_true rfl, Nat.le_of_ble_eq_true rfl⟩ 0 rfl rfl rfl hl rfl (Nat.le_of_ble_eq_true rfl) dX7_mergesOne_40 ⟨Nat.zero_le _, Nat.zero_le _⟩ hw (fun r8 _ H locs hr8 hw => ?_)
                obtain ⟨hr8, zr8⟩ : r8 = F_X7_isOpen w3 v3_3 ∧ (r8 = 0 ∨ r8 = 1) := hr8
                have hT3 := hT3.trans (bnd_eq hr8)
                try have hS := Eq.mp (bnd_eq hr8) hS
                refine lv_if_eq (tgt := 83) hx hb dX7_mergesOne_43 (by decide) (fun c10 => ?_) (fun c10 => ?_)
                · skip
                  have hT3 := hT3.trans (if_pos c10)
                  try have hS := Eq.mp (if_pos c10) hS
                  refine lv_iinc (v := (v3_3 + 1)) (lv' := [(3, .int (v3_3 + 1)), (2, .int v1_2), (0, .ref (ad 0)), (1, .int q1)]) hx hb dX7_mergesOne_83 hl (k := 0) rfl rfl (by decide) rfl (fun ls hl => ?_)
                  refine lv_goto (tgt := 18) hx hb dX7_mergesOne_86 (by decide) ?_
                  exact ih3 (v3_3 + 1) w3 (hT1.trans (lp_l hT3)) (hLn3 _ hT3) _ _ ls (lv_sub hl [0, 1, 2, 3] rfl) hw
                · skip
                  have hT3 := hT3.trans (if_neg c10)
                  try have hS := Eq.mp (if_neg c10) hS
                  refine lv_aload_n hx hb dX7_mergesOne_46 rfl (lv_at hl 2 rfl) ?_
                  refine lv_iload_n hx hb dX7_mergesOne_47 rfl (lv_at hl 1 rfl) ?_
                  refine lv_iconst (v := 1) hx hb dX7_mergesOne_48 (by decide) ?_
                  have hSc : S_X7_of w3 v1_2 1 := hS.1
                  have hS := hS.2
                  refine gcV_i (rest := []) X (c_X7_of l D cy ad rest w3 v1_2 1 hSc) gy_X7_of gX7_mergesOne_X7_of ⟨rfl, rfl, Nat.le_of_ble_eq_true rfl, Nat.le_of_ble_eq_true rfl⟩ 0 rfl rfl rfl hl rfl (Nat.le_of_ble_eq_true rfl) dX7_mergesOne_49 ⟨Nat.zero_le _, Nat.zero_le _⟩ hw (fun r11 _ H locs hr11 hw => ?_)
                  have hr11 : r11 = F_X7_of w3 v1_2 1 := hr11
                  have hT3 := hT3.trans (bnd_eq hr11)
                  try have hS := Eq.mp (bnd_eq hr11) hS
                  refine lv_iload_n hx hb dX7_mergesOne_52 rfl (lv_at hl 3 rfl) ?_
                  refine lv_icmp_ne (tgt := 83) hx hb dX7_mergesOne_53 (by decide) (fun c13 => ?_) (fun c13 => ?_)
                  · skip
                    have hT3 := hT3.trans (if_neg c13)
                    try have hS := Eq.mp (if_neg c13) hS
                    refine lv_iinc (v := (v3_3 + 1)) (lv' := [(3, .int (v3_3 + 1)), (2, .int v1_2), (0, .ref (ad 0)), (1, .int q1)]) hx hb dX7_mergesOne_83 hl (k := 0) rfl rfl (by decide) rfl (fun ls hl => ?_)
                    refine lv_goto (tgt := 18) hx hb dX7_mergesOne_86 (by decide) ?_
                    exact ih3 (v3_3 + 1) w3 (hT1.trans (lp_l hT3)) (hLn3 _ hT3) _ _ ls (lv_sub hl [0, 1, 2, 3] rfl) hw
                  · skip
                    have hT3 := hT3.trans (if_pos c13)
                    try have hS := Eq.mp (if_pos c13) hS
                    refine lv_aload_n hx hb dX7_mergesOne_56 rfl (lv_at hl 2 rfl) ?_
                    refine lv_iload_n hx hb dX7_mergesOne_57 rfl (lv_at hl 0 rfl) ?_
                    refine lv_iconst (v := 1) hx hb dX7_mergesOne_58 (by decide) ?_
                    have hSc : S_X7_of w3 v3_3 1 := hS.1
                    have hS := hS.2
                    refine gcV_i (rest := []) X (c_X7_of l D cy ad rest w3 v3_3 1 hSc) gy_X7_of gX7_mergesOne_X7_of ⟨rfl, rfl, Nat.le_of_ble_eq_true rfl, Nat.le_of_ble_eq_true rfl⟩ 0 rfl rfl rfl hl rfl (Nat.le_of_ble_eq_true rfl) dX7_mergesOne_59 ⟨Nat.zero_le _, Nat.zero_le _⟩ hw (fun r14 _ H locs hr14 hw => ?_)
                    have hr14 : r14 = F_X7_of w3 v3_3 1 := hr14
                    have hT3 := hT3.trans (bnd_eq hr14)
                    try have hS := Eq.mp (bnd_eq hr14) hS
                    refine lv_iload_n hx hb dX7_mergesOne_62 rfl (lv_at hl 3 rfl) ?_
                    refine lv_icmp_ne (tgt := 83) hx hb dX7_mergesOne_63 (by decide) (fun c16 => ?_) (fun c16 => ?_)
                    · skip
                      have hT3 := hT3.trans (if_neg c16)
                      try have hS := Eq.mp (if_neg c16) hS
                      refine lv_iinc (v := (v3_3 + 1)) (lv' := [(3, .int (v3_3 + 1)), (2, .int v1_2), (0, .ref (ad 0)), (1, .int q1)]) hx hb dX7_mergesOne_83 hl (k := 0) rfl rfl (by decide) rfl (fun ls hl => ?_)
                      refine lv_goto (tgt := 18) hx hb dX7_mergesOne_86 (by decide) ?_
                      exact ih3 (v3_3 + 1) w3 (hT1.trans (lp_l hT3)) (hLn3 _ hT3) _ _ ls (lv_sub hl [0, 1, 2, 3] rfl) hw
                    · skip
                      have hT3 := hT3.trans (if_pos c16)
                      try have hS := Eq.mp (if_pos c16) hS
                      refine lv_aload_n hx hb dX7_mergesOne_66 rfl (lv_at hl 2 rfl) ?_
                      refine lv_iload_n hx hb dX7_mergesOne_67 rfl (lv_at hl 1 rfl) ?_
                      refine lv_iload_n hx hb dX7_mergesOne_68 rfl (lv_at hl 0 rfl) ?_
                      have hSc : S_X7_meet w3 v1_2 v3_3 := hS.1
                      have hS := hS.2
                      refine gcV_i (rest := []) X (c_X7_meet l D cy ad rest w3 v1_2 v3_3 hSc) gy_X7_meet gX7_mergesOne_X7_meet ⟨rfl, rfl, Nat.le_of_ble_eq_true rfl, Nat.le_of_ble_eq_true rfl⟩ 0 rfl rfl rfl hl rfl (Nat.le_of_ble_eq_true rfl) dX7_mergesOne_69 ⟨Nat.zero_le _, Nat.zero_le _⟩ hw (fun r17 _ H locs hr17 hw => ?_)
                      obtain ⟨hr17, zr17⟩ : r17 = F_X7_meet w3 v1_2 v3_3 ∧ (r17 = 0 ∨ r17 = 1) := hr17
                      have hT3 := hT3.trans (bnd_eq hr17)
                      try have hS := Eq.mp (bnd_eq hr17) hS
                      refine lv_if_eq (tgt := 83) hx hb dX7_mergesOne_72 (by decide) (fun c19 => ?_) (fun c19 => ?_)
                      · skip
                        have hT3 := hT3.trans (if_pos c19)
                        try have hS := Eq.mp (if_pos c19) hS
                        refine lv_iinc (v := (v3_3 + 1)) (lv' := [(3, .int (v3_3 + 1)), (2, .int v1_2), (0, .ref (ad 0)), (1, .int q1)]) hx hb dX7_mergesOne_83 hl (k := 0) rfl rfl (by decide) rfl (fun ls hl => ?_)
                        refine lv_goto (tgt := 18) hx hb dX7_mergesOne_86 (by decide) ?_
                        exact ih3 (v3_3 + 1) w3 (hT1.trans (lp_l hT3)) (hLn3 _ hT3) _ _ ls (lv_sub hl [0, 1, 2, 3] rfl) hw
                      · skip
                        have hT3 := hT3.trans (if_neg c19)
                        try have hS := Eq.mp (if_neg c19) hS
                        refine lv_aload_n hx hb dX7_mergesOne_75 rfl (lv_at hl 2 rfl) ?_
                        refine lv_iload_n hx hb dX7_mergesOne_76 rfl (lv_at hl 1 rfl) ?_
                        refine lv_iload_n hx hb dX7_mergesOne_77 rfl (lv_at hl 0 rfl) ?_
                        have hSc : S_X7_merges w3 v1_2 v3_3 := hS.1
                        have hS := hS.2
                        refine gcV_v (rest := []) X (c_X7_merges l D cy ad rest w3 v1_2 v3_3 hSc) gy_X7_merges gX7_mergesOne_X7_merges ⟨rfl, rfl, Nat.le_of_ble_eq_true rfl, Nat.le_of_ble_eq_true rfl⟩ 0 rfl rfl rfl hl rfl (Nat.le_of_ble_eq_true rfl) dX7_mergesOne_78 ⟨Nat.zero_le _, Nat.zero_le _⟩ hw (fun u21 H locs hu21 hw => ?_)
                        have hu21 : u21 = F_X7_merges w3 v1_2 v3_3 := hu21
                        have hT3 := hT3.trans (bnd_eq hu21)
                        try have hS := Eq.mp (bnd_eq hu21) hS
                        refine lv_iconst (v := 1) hx hb dX7_mergesOne_81 (by decide) ?_
                        exact hret _ _ _ _ _ _ dX7_mergesOne_82 (Or.inr rfl) ⟨⟨congrArg Prod.fst ((hF.trans (lp_r (hT1.trans (lp_r hT3)))).symm.trans hsp), congrArg Prod.snd ((hF.trans (lp_r (hT1.trans (lp_r hT3)))).symm.trans hsp)⟩, (Or.inr rfl)⟩ hw
        exact L3 _ (v1_2 + 1) w1 hT1 hS _ _ ls (lv_sub hl [0, 1, 2, 3] rfl) hw
  exact L1 _ 0 C hF hS _ _ ls (lv_sub hl [0, 1, 2] rfl) hw
theorem gy_X7_isLateNow : gY yX7_isLateNow RX7 cX7_isLateNow 2 (some .boolean) wsX7_isLateNow 1 := ⟨⟨_, rfl⟩, rfl, by decide +kernel, by decide +kernel, by decide +kernel⟩
def F_X7_isLateNow (C : CS) (q1 : Int32) : Int32 := (if 0 ≤ (lg_cmp (q1.toInt64 + (C.1 0 1419).toInt64) ((C.1 0 1418).toInt64)) then 0 else 1)
abbrev rmX7_isLateNow : Room := { frames := 0, cells := 0, slots := 0, locals := 0 }
set_option maxHeartbeats 4000000 in
set_option maxRecDepth 100000 in
theorem c_X7_isLateNow (l : Launch) (D : va_G) (cy : Nat → ClassId) (ad : Nat → Nat) (rest : va_W) (C : CS) (q1 : Int32) : GMi l yX7_isLateNow wsX7_isLateNow rmX7_isLateNow D cy [.ref (ad 0), .int q1] (MW cy ad C ++ rest) (fun (r : Int32) (_ : Unit) => r = F_X7_isLateNow C q1 ∧ (r = 0 ∨ r = 1)) (fun _ => MW cy ad C ++ rest) := by
  refine GMz.intro cX7_isLateNow 2 RX7 (by decide) rfl rfl (Nat.le_of_ble_eq_true rfl) ?_
  intro p e s m args below meth c A Q ls X hret hl hw
  have hx := X.1
  have hb := X.2.1
  have hl : lv_has ls 2 [(0, .ref (ad 0)), (1, .int q1)] := hl
  have inX7 : ∀ w ∈ wsX70, w ∈ wsX7_isLateNow := fun w h => List.mem_cons_of_mem _ (List.mem_append_left _ (List.mem_append_right _ h))
  obtain ⟨sp, hsp⟩ : ∃ sp, sp = F_X7_isLateNow C q1 := ⟨_, rfl⟩
  have hF := hsp.trans (F_X7_isLateNow.eq_1 C q1)
  refine lv_iload_n hx hb dX7_isLateNow_0 rfl (lv_at hl 1 rfl) ?_
  refine lv_i2l (v := q1.toInt64) hx hb dX7_isLateNow_1 rfl ?_
  refine lv_aload_n hx hb dX7_isLateNow_2 rfl (lv_at hl 0 rfl) ?_
  refine g_get (v := .ref (ad 1)) (C := RX7) (T := TX7) (N := 16) (ci := 9) X inX7 hw 0 rfl rfl 1 (by decide) (List.mem_of_getElem? (i := 1) rfl) rfl rfl dX7_isLateNow_3 ?_
  refine lv_sipush (v := 1419) hx hb dX7_isLateNow_6 (by decide) ?_
  refine g_ialdk (k := 1419) rfl X hw 1 rfl (vk rfl) dX7_isLateNow_9 ?_
  refine lv_i2l (v := (C.1 0 1419).toInt64) hx hb dX7_isLateNow_10 rfl ?_
  refine lv_ladd hx hb dX7_isLateNow_11 ?_
  refine lv_aload_n hx hb dX7_isLateNow_12 rfl (lv_at hl 0 rfl) ?_
  refine g_get (v := .ref (ad 1)) (C := RX7) (T := TX7) (N := 16) (ci := 9) X inX7 hw 0 rfl rfl 1 (by decide) (List.mem_of_getElem? (i := 1) rfl) rfl rfl dX7_isLateNow_13 ?_
  refine lv_sipush (v := 1418) hx hb dX7_isLateNow_16 (by decide) ?_
  refine g_ialdk (k := 1418) rfl X hw 1 rfl (vk rfl) dX7_isLateNow_19 ?_
  refine lv_i2l (v := (C.1 0 1418).toInt64) hx hb dX7_isLateNow_20 rfl ?_
  refine W.lcmp hx hb dX7_isLateNow_21 ?_
  refine lv_if_ge (tgt := 29) hx hb dX7_isLateNow_22 (by decide) (fun c1 => ?_) (fun c1 => ?_)
  · skip
    have hF := hF.trans (if_pos c1)
    try have hS := Eq.mp (if_pos c1) hS
    refine lv_iconst (v := 0) hx hb dX7_isLateNow_29 (by decide) ?_
    exact hret _ _ () _ _ _ dX7_isLateNow_30 (Or.inl rfl) ⟨hF.symm.trans hsp, (Or.inl rfl)⟩ hw
  · skip
    have hF := hF.trans (if_neg c1)
    try have hS := Eq.mp (if_neg c1) hS
    refine lv_iconst (v := 1) hx hb dX7_isLateNow_25 (by decide) ?_
    refine lv_goto (tgt := 30) hx hb dX7_isLateNow_26 (by decide) ?_
    exact hret _ _ () _ _ _ dX7_isLateNow_30 (Or.inr rfl) ⟨hF.symm.trans hsp, (Or.inr rfl)⟩ hw
theorem gy_X7_lacks : gY yX7_lacks RX7 cX7_lacks 3 (some .int) wsX7_lacks 2 := ⟨⟨_, rfl⟩, rfl, by decide +kernel, by decide +kernel, by decide +kernel⟩
def F_X7_lacks (C : CS) (q1 : Int32) (q2 : Int32) : Int32 := (bnd (F_X7_isKey q1) (fun r1 => (if r1 = 0 then 1 else (bnd (F_X7_in q2 0 9999) (fun r4 => (if r4 = 0 then 2 else (bnd (F_X7_isLateNow C q2) (fun r7 => (if r7 = 0 then (if (C.1 0 400) = 100 then 3 else 0) else 0)))))))))
abbrev rmX7_lacks : Room := { frames := 2, cells := 0, slots := 0, locals := 42 }
set_option maxHeartbeats 4000000 in
set_option maxRecDepth 100000 in
theorem c_X7_lacks (l : Launch) (D : va_G) (cy : Nat → ClassId) (ad : Nat → Nat) (rest : va_W) (C : CS) (q1 : Int32) (q2 : Int32) : GMi l yX7_lacks wsX7_lacks rmX7_lacks D cy [.ref (ad 0), .int q1, .int q2] (MW cy ad C ++ rest) (fun (r : Int32) (_ : Unit) => r = F_X7_lacks C q1 q2) (fun _ => MW cy ad C ++ rest) := by
  refine GMi.intro cX7_lacks 3 RX7 (by decide) rfl rfl (Nat.le_of_ble_eq_true rfl) ?_
  intro p e s m args below meth c A Q ls X hret hl hw
  have hx := X.1
  have hb := X.2.1
  have hl : lv_has ls 3 [(0, .ref (ad 0)), (1, .int q1), (2, .int q2)] := hl
  have inX7 : ∀ w ∈ wsX70, w ∈ wsX7_lacks := fun w h => List.mem_cons_of_mem _ (List.mem_append_left _ (List.mem_append_right _ h))
  obtain ⟨sp, hsp⟩ : ∃ sp, sp = F_X7_lacks C q1 q2 := ⟨_, rfl⟩
  have hF := hsp.trans (F_X7_lacks.eq_1 C q1 q2)
  refine lv_iload_n hx hb dX7_lacks_0 rfl (lv_at hl 1 rfl) ?_
  refine gcS_i (rest := []) X (c_X7_isKey l D cy (MW cy ad C ++ rest) q1) gy_X7_isKey gX7_lacks_X7_isKey ⟨rfl, rfl, Nat.le_of_ble_eq_true rfl, Nat.le_of_ble_eq_true rfl⟩ rfl hl rfl (Nat.le_of_ble_eq_true rfl) dX7_lacks_1 ⟨Nat.zero_le _, Nat.zero_le _⟩ hw (fun r1 _ H locs hr1 hw => ?_)
  obtain ⟨hr1, zr1⟩ : r1 = F_X7_isKey q1 ∧ (r1 = 0 ∨ r1 = 1) := hr1
  have hF := hF.trans (bnd_eq hr1)
  try have hS := Eq.mp (bnd_eq hr1) hS
  refine lv_if_ne (tgt := 9) hx hb dX7_lacks_4 (by decide) (fun c3 => ?_) (fun c3 => ?_)
  · skip
    have hF := hF.trans (if_neg c3)
    try have hS := Eq.mp (if_neg c3) hS
    refine lv_iload_n hx hb dX7_lacks_9 rfl (lv_at hl 2 rfl) ?_
    refine lv_iconst (v := 0) hx hb dX7_lacks_10 (by decide) ?_
    refine lv_sipush (v := 9999) hx hb dX7_lacks_11 (by decide) ?_
    refine gcS_i (rest := []) X (c_X7_in l D cy (MW cy ad C ++ rest) q2 0 9999) gy_X7_in gX7_lacks_X7_in ⟨rfl, rfl, Nat.le_of_ble_eq_true rfl, Nat.le_of_ble_eq_true rfl⟩ rfl hl rfl (Nat.le_of_ble_eq_true rfl) dX7_lacks_14 ⟨Nat.zero_le _, Nat.zero_le _⟩ hw (fun r4 _ H locs hr4 hw => ?_)
    obtain ⟨hr4, zr4⟩ : r4 = F_X7_in q2 0 9999 ∧ (r4 = 0 ∨ r4 = 1) := hr4
    have hF := hF.trans (bnd_eq hr4)
    try have hS := Eq.mp (bnd_eq hr4) hS
    refine lv_if_ne (tgt := 22) hx hb dX7_lacks_17 (by decide) (fun c6 => ?_) (fun c6 => ?_)
    · skip
      have hF := hF.trans (if_neg c6)
      try have hS := Eq.mp (if_neg c6) hS
      refine lv_aload_n hx hb dX7_lacks_22 rfl (lv_at hl 0 rfl) ?_
      refine lv_iload_n hx hb dX7_lacks_23 rfl (lv_at hl 2 rfl) ?_
      refine gcV_i (rest := []) X (c_X7_isLateNow l D cy ad rest C q2) gy_X7_isLateNow gX7_lacks_X7_isLateNow ⟨rfl, rfl, Nat.le_of_ble_eq_true rfl, Nat.le_of_ble_eq_true rfl⟩ 0 rfl rfl rfl hl rfl (Nat.le_of_ble_eq_true rfl) dX7_lacks_24 ⟨Nat.zero_le _, Nat.zero_le _⟩ hw (fun r7 _ H locs hr7 hw => ?_)
      obtain ⟨hr7, zr7⟩ : r7 = F_X7_isLateNow C q2 ∧ (r7 = 0 ∨ r7 = 1) := hr7
      have hF := hF.trans (bnd_eq hr7)
      try have hS := Eq.mp (bnd_eq hr7) hS
      refine lv_if_ne (tgt := 47) hx hb dX7_lacks_27 (by decide) (fun c9 => ?_) (fun c9 => ?_)
      · skip
        have hF := hF.trans (if_neg c9)
        try have hS := Eq.mp (if_neg c9) hS
        refine lv_iconst (v := 0) hx hb dX7_lacks_47 (by decide) ?_
        exact hret _ _ () _ _ _ dX7_lacks_48 (hF.symm.trans hsp) hw
      · skip
        have hF := hF.trans (if_pos c9)
        try have hS := Eq.mp (if_pos c9) hS
        refine lv_aload_n hx hb dX7_lacks_30 rfl (lv_at hl 0 rfl) ?_
        refine g_get (v := .ref (ad 1)) (C := RX7) (T := TX7) (N := 16) (ci := 9) X inX7 hw 0 rfl rfl 1 (by decide) (List.mem_of_getElem? (i := 1) rfl) rfl rfl dX7_lacks_31 ?_
        refine lv_sipush (v := 400) hx hb dX7_lacks_34 (by decide) ?_
        refine g_ialdk (k := 400) rfl X hw 1 rfl (vk rfl) dX7_lacks_37 ?_
        refine lv_bipush (v := 100) hx hb dX7_lacks_38 (by decide) ?_
        refine lv_icmp_ne (tgt := 47) hx hb dX7_lacks_40 (by decide) (fun c10 => ?_) (fun c10 => ?_)
        · skip
          have hF := hF.trans (if_neg c10)
          try have hS := Eq.mp (if_neg c10) hS
          refine lv_iconst (v := 0) hx hb dX7_lacks_47 (by decide) ?_
          exact hret _ _ () _ _ _ dX7_lacks_48 (hF.symm.trans hsp) hw
        · skip
          have hF := hF.trans (if_pos c10)
          try have hS := Eq.mp (if_pos c10) hS
          refine lv_iconst (v := 3) hx hb dX7_lacks_43 (by decide) ?_
          refine lv_goto (tgt := 48) hx hb dX7_lacks_44 (by decide) ?_
          exact hret _ _ () _ _ _ dX7_lacks_48 (hF.symm.trans hsp) hw
    · skip
      have hF := hF.trans (if_pos c6)
      try have hS := Eq.mp (if_pos c6) hS
      refine lv_iconst (v := 2) hx hb dX7_lacks_20 (by decide) ?_
      exact hret _ _ () _ _ _ dX7_lacks_21 (hF.symm.trans hsp) hw
  · skip
    have hF := hF.trans (if_pos c3)
    try have hS := Eq.mp (if_pos c3) hS
    refine lv_iconst (v := 1) hx hb dX7_lacks_7 (by decide) ?_
    exact hret _ _ () _ _ _ dX7_lacks_8 (hF.symm.trans hsp) hw
theorem gy_X7_comes : gY yX7_comes RX7 cX7_comes 9 (some .int) wsX7_comes 3 := ⟨⟨_, rfl⟩, rfl, by decide +kernel, by decide +kernel, by decide +kernel⟩
def st_X7_comes_175 (q1 : Int32) (C : CS) (v20_6 : Int32) (w20 : CS) : (Int32 × CS) ⊕ ((Int32 × CS) ⊕ (Int32 × CS)) := (if v20_6 = 0 then (if (w20.1 0 1420) ≤ 0 then .inr (.inr (((w20.1 0 ((4 * (C.1 0 400)) + 3).toNatClampNeg), w20))) else (bnd (F_X7_many w20 (w20.1 0 ((4 * (C.1 0 400)) + 3).toNatClampNeg)) (fun r23 => (if (r23 - r23 / (w20.1 0 1420) * (w20.1 0 1420)) = 0 then (bnd ((F_X7_fires w20 0 (w20.1 0 ((4 * (C.1 0 400)) + 3).toNatClampNeg)).2) (fun u27 => (bnd ((F_X7_fires w20 0 (w20.1 0 ((4 * (C.1 0 400)) + 3).toNatClampNeg)).1) (fun r26 => .inr (.inr (((w20.1 0 ((4 * (C.1 0 400)) + 3).toNatClampNeg), u27))))))) else .inr (.inr (((w20.1 0 ((4 * (C.1 0 400)) + 3).toNatClampNeg), w20))))))) else (bnd ((F_X7_mergesOne w20 q1).2) (fun u29 => (bnd ((F_X7_mergesOne w20 q1).1) (fun r28 => .inl (r28, u29))))))
def Sst_X7_comes_175 (q1 : Int32) (C : CS) (v20_6 : Int32) (w20 : CS) : Prop := (if v20_6 = 0 then (vp_in ((4 * (C.1 0 400)) + 3) 1787 ∧ (if (w20.1 0 1420) ≤ 0 then True else (S_X7_many w20 (w20.1 0 ((4 * (C.1 0 400)) + 3).toNatClampNeg) ∧ (bnd (F_X7_many w20 (w20.1 0 ((4 * (C.1 0 400)) + 3).toNatClampNeg)) (fun r23 => ((¬ (w20.1 0 1420) = 0) ∧ (if (r23 - r23 / (w20.1 0 1420) * (w20.1 0 1420)) = 0 then (S_X7_fires w20 0 (w20.1 0 ((4 * (C.1 0 400)) + 3).toNatClampNeg) ∧ True) else True))))))) else (S_X7_mergesOne w20 q1 ∧ True))
def st_X7_comes_118 (q1 : Int32) (q2 : Int32) (C : CS) (v10_6 : Int32) (w10 : CS) : (Int32 × CS) ⊕ (Int32 × CS) := (if 10 ≤ v10_6 then (bnd (F_X7_sets w10 (C.1 0 1401) 0 1) (fun u13 => (bnd (F_X7_sets u13 (C.1 0 1401) 1 q1) (fun u15 => (bnd (F_X7_sets u15 (C.1 0 1401) 2 q2) (fun u17 => (bnd (F_X7_sets u17 (C.1 0 1401) 3 q2) (fun u19 => lp (fun (z : Int32 × CS) => st_X7_comes_175 q1 C z.1 z.2) (.inr (0, C)) 101 (1, u19))))))))) else (bnd (F_X7_sets w10 (C.1 0 1401) v10_6 0) (fun u31 => .inl ((v10_6 + 1), u31))))
def Sst_X7_comes_118 (q1 : Int32) (q2 : Int32) (C : CS) (v10_6 : Int32) (w10 : CS) : Prop := (if 10 ≤ v10_6 then (S_X7_sets w10 (C.1 0 1401) 0 1 ∧ (bnd (F_X7_sets w10 (C.1 0 1401) 0 1) (fun u13 => (S_X7_sets u13 (C.1 0 1401) 1 q1 ∧ (bnd (F_X7_sets u13 (C.1 0 1401) 1 q1) (fun u15 => (S_X7_sets u15 (C.1 0 1401) 2 q2 ∧ (bnd (F_X7_sets u15 (C.1 0 1401) 2 q2) (fun u17 => (S_X7_sets u17 (C.1 0 1401) 3 q2 ∧ (bnd (F_X7_sets u17 (C.1 0 1401) 3 q2) (fun u19 => lpS (fun (z : Int32 × CS) => st_X7_comes_175 q1 C z.1 z.2) (fun (z : Int32 × CS) => Sst_X7_comes_175 q1 C z.1 z.2) 101 (1, u19))))))))))))) else (S_X7_sets w10 (C.1 0 1401) v10_6 0 ∧ True))
def F_X7_comes (C : CS) (q1 : Int32) (q2 : Int32) (q3 : Int32) : Int32 × CS := (bnd (F_X7_isLateNow C q2) (fun r1 => (if r1 = 0 then (bnd (sR C 0 (upd (C.1 0) ((4 * (C.1 0 400)) + 0).toNatClampNeg q1)) (fun u4 => (bnd (sR u4 0 (upd (u4.1 0) ((4 * (C.1 0 400)) + 1).toNatClampNeg q2)) (fun u5 => (bnd (sR u5 0 (upd (u5.1 0) ((4 * (C.1 0 400)) + 2).toNatClampNeg q3)) (fun u6 => (bnd (sR u6 0 (upd (u6.1 0) ((4 * (C.1 0 400)) + 3).toNatClampNeg (C.1 0 1401))) (fun u7 => (bnd (sR u7 0 (upd (u7.1 0) 400 ((u7.1 0 400) + 1))) (fun u8 => (bnd (sR u8 0 (upd (u8.1 0) 1401 ((u8.1 0 1401) + 1))) (fun u9 => lp (fun (z : Int32 × CS) => st_X7_comes_118 q1 q2 C z.1 z.2) (0, C) (((10 : Int32).toInt - (0 : Int32).toInt).toNat + 1) (0, u9))))))))))))) else (bnd (sR C 0 (upd (C.1 0) 1421 ((C.1 0 1421) + 1))) (fun u32 => ((-1), u32))))))
def S_X7_comes (C : CS) (q1 : Int32) (q2 : Int32) (q3 : Int32) : Prop := (bnd (F_X7_isLateNow C q2) (fun r1 => (if r1 = 0 then (vp_in ((4 * (C.1 0 400)) + 0) 1787 ∧ (bnd (sR C 0 (upd (C.1 0) ((4 * (C.1 0 400)) + 0).toNatClampNeg q1)) (fun u4 => (vp_in ((4 * (C.1 0 400)) + 1) 1787 ∧ (bnd (sR u4 0 (upd (u4.1 0) ((4 * (C.1 0 400)) + 1).toNatClampNeg q2)) (fun u5 => (vp_in ((4 * (C.1 0 400)) + 2) 1787 ∧ (bnd (sR u5 0 (upd (u5.1 0) ((4 * (C.1 0 400)) + 2).toNatClampNeg q3)) (fun u6 => (vp_in ((4 * (C.1 0 400)) + 3) 1787 ∧ (bnd (sR u6 0 (upd (u6.1 0) ((4 * (C.1 0 400)) + 3).toNatClampNeg (C.1 0 1401))) (fun u7 => (bnd (sR u7 0 (upd (u7.1 0) 400 ((u7.1 0 400) + 1))) (fun u8 => (bnd (sR u8 0 (upd (u8.1 0) 1401 ((u8.1 0 1401) + 1))) (fun u9 => lpS (fun (z : Int32 × CS) => st_X7_comes_118 q1 q2 C z.1 z.2) (fun (z : Int32 × CS) => Sst_X7_comes_118 q1 q2 C z.1 z.2) (((10 : Int32).toInt - (0 : Int32).toInt).toNat + 1) (0, u9))))))))))))))))) else True)))
abbrev rmX7_comes : Room := { frames := 5, cells := 0, slots := 0, locals := 115 }
set_option maxHeartbeats 4000000 in
set_option maxRecDepth 100000 in
theorem c_X7_comes (l : Launch) (D : va_G) (cy : Nat → ClassId) (ad : Nat → Nat) (rest : va_W) (C : CS) (q1 : Int32) (q2 : Int32) (q3 : Int32) (hS : S_X7_comes C q1 q2 q3) : GMi l yX7_comes wsX7_comes rmX7_comes D cy [.ref (ad 0), .int q1, .int q2, .int q3] (MW cy ad C ++ rest) (fun (r : Int32) (u : CS) => r = (F_X7_comes C q1 q2 q3).1 ∧ u = (F_X7_comes C q1 q2 q3).2) (fun u => MW cy ad u ++ rest) := by
  refine GMi.intro cX7_comes 9 RX7 (by decide) rfl rfl (Nat.le_of_ble_eq_true rfl) ?_
  intro p e s m args below meth c A Q ls X hret hl hw
  have hx := X.1
  have hb := X.2.1
  have hl : lv_has ls 9 [(0, .ref (ad 0)), (1, .int q1), (2, .int q2), (3, .int q3)] := hl
  have inX7 : ∀ w ∈ wsX70, w ∈ wsX7_comes := fun w h => List.mem_cons_of_mem _ (List.mem_append_left _ (List.mem_append_left _ (List.mem_append_right _ h)))
  obtain ⟨sp, hsp⟩ : ∃ sp, sp = F_X7_comes C q1 q2 q3 := ⟨_, rfl⟩
  have hF := hsp.trans (F_X7_comes.eq_1 C q1 q2 q3)
  have hS := Eq.mp (S_X7_comes.eq_1 C q1 q2 q3) hS
  refine lv_aload_n hx hb dX7_comes_0 rfl (lv_at hl 0 rfl) ?_
  refine lv_iload_n hx hb dX7_comes_1 rfl (lv_at hl 2 rfl) ?_
  refine gcV_i (rest := []) X (c_X7_isLateNow l D cy ad rest C q2) gy_X7_isLateNow gX7_comes_X7_isLateNow ⟨rfl, rfl, Nat.le_of_ble_eq_true rfl, Nat.le_of_ble_eq_true rfl⟩ 0 rfl rfl rfl hl rfl (Nat.le_of_ble_eq_true rfl) dX7_comes_2 ⟨Nat.zero_le _, Nat.zero_le _⟩ hw (fun r1 _ H locs hr1 hw => ?_)
  obtain ⟨hr1, zr1⟩ : r1 = F_X7_isLateNow C q2 ∧ (r1 = 0 ∨ r1 = 1) := hr1
  have hF := hF.trans (bnd_eq hr1)
  try have hS := Eq.mp (bnd_eq hr1) hS
  refine lv_if_eq (tgt := 22) hx hb dX7_comes_5 (by decide) (fun c3 => ?_) (fun c3 => ?_)
  · skip
    have hF := hF.trans (if_pos c3)
    try have hS := Eq.mp (if_pos c3) hS
    refine lv_aload_n hx hb dX7_comes_22 rfl (lv_at hl 0 rfl) ?_
    refine g_get (v := .ref (ad 1)) (C := RX7) (T := TX7) (N := 16) (ci := 9) X inX7 hw 0 rfl rfl 1 (by decide) (List.mem_of_getElem? (i := 1) rfl) rfl rfl dX7_comes_23 ?_
    refine lv_sipush (v := 400) hx hb dX7_comes_26 (by decide) ?_
    refine g_ialdk (k := 400) rfl X hw 1 rfl (vk rfl) dX7_comes_29 ?_
    refine lv_istore (lv' := [(4, .int (C.1 0 400)), (0, .ref (ad 0)), (1, .int q1), (2, .int q2), (3, .int q3)]) hx hb dX7_comes_30 hl (by decide) rfl (fun ls hl => ?_)
    refine lv_aload_n hx hb dX7_comes_32 rfl (lv_at hl 1 rfl) ?_
    refine g_get (v := .ref (ad 1)) (C := RX7) (T := TX7) (N := 16) (ci := 9) X inX7 hw 0 rfl rfl 1 (by decide) (List.mem_of_getElem? (i := 1) rfl) rfl rfl dX7_comes_33 ?_
    refine lv_sipush (v := 1401) hx hb dX7_comes_36 (by decide) ?_
    refine g_ialdk (k := 1401) rfl X hw 1 rfl (vk rfl) dX7_comes_39 ?_
    refine lv_istore (lv' := [(5, .int (C.1 0 1401)), (4, .int (C.1 0 400)), (0, .ref (ad 0)), (1, .int q1), (2, .int q2), (3, .int q3)]) hx hb dX7_comes_40 hl (by decide) rfl (fun ls hl => ?_)
    refine lv_aload_n hx hb dX7_comes_42 rfl (lv_at hl 2 rfl) ?_
    refine g_get (v := .ref (ad 1)) (C := RX7) (T := TX7) (N := 16) (ci := 9) X inX7 hw 0 rfl rfl 1 (by decide) (List.mem_of_getElem? (i := 1) rfl) rfl rfl dX7_comes_43 ?_
    refine lv_iconst (v := 4) hx hb dX7_comes_46 (by decide) ?_
    refine lv_iload hx hb dX7_comes_47 (lv_at hl 1 rfl) ?_
    refine lv_imul hx hb dX7_comes_49 ?_
    refine lv_iconst (v := 0) hx hb dX7_comes_50 (by decide) ?_
    refine lv_iadd hx hb dX7_comes_51 ?_
    refine lv_iload_n hx hb dX7_comes_52 rfl (lv_at hl 3 rfl) ?_
    refine g_iast (w' := MW cy ad (sR C 0 (upd (C.1 0) ((4 * (C.1 0 400)) + 0).toNatClampNeg q1)) ++ rest) X hw 1 rfl hS.1 rfl dX7_comes_53 (fun H locs hw => ?_)
    have hS := hS.2
    obtain ⟨u4, hu4⟩ : ∃ z, z = sR C 0 (upd (C.1 0) ((4 * (C.1 0 400)) + 0).toNatClampNeg q1) := ⟨_, rfl⟩
    rw [← hu4] at hw
    have hF := hF.trans (bnd_eq hu4)
    try have hS := Eq.mp (bnd_eq hu4) hS
    refine lv_aload_n hx hb dX7_comes_54 rfl (lv_at hl 2 rfl) ?_
    refine g_get (v := .ref (ad 1)) (C := RX7) (T := TX7) (N := 16) (ci := 9) X inX7 hw 0 rfl rfl 1 (by decide) (List.mem_of_getElem? (i := 1) rfl) rfl rfl dX7_comes_55 ?_
    refine lv_iconst (v := 4) hx hb dX7_comes_58 (by decide) ?_
    refine lv_iload hx hb dX7_comes_59 (lv_at hl 1 rfl) ?_
    refine lv_imul hx hb dX7_comes_61 ?_
    refine lv_iconst (v := 1) hx hb dX7_comes_62 (by decide) ?_
    refine lv_iadd hx hb dX7_comes_63 ?_
    refine lv_iload_n hx hb dX7_comes_64 rfl (lv_at hl 4 rfl) ?_
    refine g_iast (w' := MW cy ad (sR u4 0 (upd (u4.1 0) ((4 * (C.1 0 400)) + 1).toNatClampNeg q2)) ++ rest) X hw 1 rfl hS.1 rfl dX7_comes_65 (fun H locs hw => ?_)
    have hS := hS.2
    obtain ⟨u5, hu5⟩ : ∃ z, z = sR u4 0 (upd (u4.1 0) ((4 * (C.1 0 400)) + 1).toNatClampNeg q2) := ⟨_, rfl⟩
    rw [← hu5] at hw
    have hF := hF.trans (bnd_eq hu5)
    try have hS := Eq.mp (bnd_eq hu5) hS
    refine lv_aload_n hx hb dX7_comes_66 rfl (lv_at hl 2 rfl) ?_
    refine g_get (v := .ref (ad 1)) (C := RX7) (T := TX7) (N := 16) (ci := 9) X inX7 hw 0 rfl rfl 1 (by decide) (List.mem_of_getElem? (i := 1) rfl) rfl rfl dX7_comes_67 ?_
    refine lv_iconst (v := 4) hx hb dX7_comes_70 (by decide) ?_
    refine lv_iload hx hb dX7_comes_71 (lv_at hl 1 rfl) ?_
    refine lv_imul hx hb dX7_comes_73 ?_
    refine lv_iconst (v := 2) hx hb dX7_comes_74 (by decide) ?_
    refine lv_iadd hx hb dX7_comes_75 ?_
    refine lv_iload_n hx hb dX7_comes_76 rfl (lv_at hl 5 rfl) ?_
    refine g_iast (w' := MW cy ad (sR u5 0 (upd (u5.1 0) ((4 * (C.1 0 400)) + 2).toNatClampNeg q3)) ++ rest) X hw 1 rfl hS.1 rfl dX7_comes_77 (fun H locs hw => ?_)
    have hS := hS.2
    obtain ⟨u6, hu6⟩ : ∃ z, z = sR u5 0 (upd (u5.1 0) ((4 * (C.1 0 400)) + 2).toNatClampNeg q3) := ⟨_, rfl⟩
    rw [← hu6] at hw
    have hF := hF.trans (bnd_eq hu6)
    try have hS := Eq.mp (bnd_eq hu6) hS
    refine lv_aload_n hx hb dX7_comes_78 rfl (lv_at hl 2 rfl) ?_
    refine g_get (v := .ref (ad 1)) (C := RX7) (T := TX7) (N := 16) (ci := 9) X inX7 hw 0 rfl rfl 1 (by decide) (List.mem_of_getElem? (i := 1) rfl) rfl rfl dX7_comes_79 ?_
    refine lv_iconst (v := 4) hx hb dX7_comes_82 (by decide) ?_
    refine lv_iload hx hb dX7_comes_83 (lv_at hl 1 rfl) ?_
    refine lv_imul hx hb dX7_comes_85 ?_
    refine lv_iconst (v := 3) hx hb dX7_comes_86 (by decide) ?_
    refine lv_iadd hx hb dX7_comes_87 ?_
    refine lv_iload hx hb dX7_comes_88 (lv_at hl 0 rfl) ?_
    refine g_iast (w' := MW cy ad (sR u6 0 (upd (u6.1 0) ((4 * (C.1 0 400)) + 3).toNatClampNeg (C.1 0 1401))) ++ rest) X hw 1 rfl hS.1 rfl dX7_comes_90 (fun H locs hw => ?_)
    have hS := hS.2
    obtain ⟨u7, hu7⟩ : ∃ z, z = sR u6 0 (upd (u6.1 0) ((4 * (C.1 0 400)) + 3).toNatClampNeg (C.1 0 1401)) := ⟨_, rfl⟩
    rw [← hu7] at hw
    have hF := hF.trans (bnd_eq hu7)
    try have hS := Eq.mp (bnd_eq hu7) hS
    refine lv_aload_n hx hb dX7_comes_91 rfl (lv_at hl 2 rfl) ?_
    refine g_get (v := .ref (ad 1)) (C := RX7) (T := TX7) (N := 16) (ci := 9) X inX7 hw 0 rfl rfl 1 (by decide) (List.mem_of_getElem? (i := 1) rfl) rfl rfl dX7_comes_92 ?_
    refine lv_sipush (v := 400) hx hb dX7_comes_95 (by decide) ?_
    refine lv_dup2_11 hx hb dX7_comes_98 rfl rfl ?_
    refine g_ialdk (k := 400) rfl X hw 1 rfl (vk rfl) dX7_comes_99 ?_
    refine lv_iconst (v := 1) hx hb dX7_comes_100 (by decide) ?_
    refine lv_iadd hx hb dX7_comes_101 ?_
    refine g_iastk (k := 400) rfl (w' := MW cy ad (sR u7 0 (upd (u7.1 0) 400 ((u7.1 0 400) + 1))) ++ rest) X hw 1 rfl (vk rfl) rfl dX7_comes_102 (fun H locs hw => ?_)
    obtain ⟨u8, hu8⟩ : ∃ z, z = sR u7 0 (upd (u7.1 0) 400 ((u7.1 0 400) + 1)) := ⟨_, rfl⟩
    rw [← hu8] at hw
    have hF := hF.trans (bnd_eq hu8)
    try have hS := Eq.mp (bnd_eq hu8) hS
    refine lv_aload_n hx hb dX7_comes_103 rfl (lv_at hl 2 rfl) ?_
    refine g_get (v := .ref (ad 1)) (C := RX7) (T := TX7) (N := 16) (ci := 9) X inX7 hw 0 rfl rfl 1 (by decide) (List.mem_of_getElem? (i := 1) rfl) rfl rfl dX7_comes_104 ?_
    refine lv_sipush (v := 1401) hx hb dX7_comes_107 (by decide) ?_
    refine lv_dup2_11 hx hb dX7_comes_110 rfl rfl ?_
    refine g_ialdk (k := 1401) rfl X hw 1 rfl (vk rfl) dX7_comes_111 ?_
    refine lv_iconst (v := 1) hx hb dX7_comes_112 (by decide) ?_
    refine lv_iadd hx hb dX7_comes_113 ?_
    refine g_iastk (k := 1401) rfl (w' := MW cy ad (sR u8 0 (upd (u8.1 0) 1401 ((u8.1 0 1401) + 1))) ++ rest) X hw 1 rfl (vk rfl) rfl dX7_comes_114 (fun H locs hw => ?_)
    obtain ⟨u9, hu9⟩ : ∃ z, z = sR u8 0 (upd (u8.1 0) 1401 ((u8.1 0 1401) + 1)) := ⟨_, rfl⟩
    rw [← hu9] at hw
    have hF := hF.trans (bnd_eq hu9)
    try have hS := Eq.mp (bnd_eq hu9) hS
    refine lv_iconst (v := 0) hx hb dX7_comes_115 (by decide) ?_
    refine lv_istore (lv' := [(6, .int 0), (5, .int (C.1 0 1401)), (4, .int (C.1 0 400)), (0, .ref (ad 0)), (1, .int q1), (2, .int q2), (3, .int q3)]) hx hb dX7_comes_116 hl (by decide) rfl (fun ls hl => ?_)
    have L10 : ∀ (n10 : Nat) (v10_6 : Int32) (w10 : CS), sp = lp (fun (z : Int32 × CS) => st_X7_comes_118 q1 q2 C z.1 z.2) (0, C) n10 (v10_6, w10) → lpS (fun (z : Int32 × CS) => st_X7_comes_118 q1 q2 C z.1 z.2) (fun (z : Int32 × CS) => Sst_X7_comes_118 q1 q2 C z.1 z.2) n10 (v10_6, w10) → ∀ (H : Heap) (locs : List Loc) (ls : Array Slot), lv_has ls 9 [(6, .int v10_6), (5, .int (C.1 0 1401)), (4, .int (C.1 0 400)), (0, .ref (ad 0)), (1, .int q1), (2, .int q2), (3, .int q3)] → gw D A s.heap (MW cy ad w10 ++ rest) H locs → W p l e rmX7_comes s m args below meth c H locs 0 0 Q (F0 m 118 ls []) := by
      intro n10
      induction n10 with
      | zero => intro v10_6 w10 hF hL; exact False.elim hL
      | succ n10 ih10 =>
        intro v10_6 w10 hF hL H locs ls hl hw
        have hT10 := st_X7_comes_118.eq_1 q1 q2 C v10_6 w10
        have hLn10 := hL.2
        have hS := Eq.mp (Sst_X7_comes_118.eq_1 q1 q2 C v10_6 w10) hL.1
        refine lv_iload hx hb dX7_comes_118 (lv_at hl 0 rfl) ?_
        refine lv_bipush (v := 10) hx hb dX7_comes_120 (by decide) ?_
        refine lv_icmp_ge (tgt := 140) hx hb dX7_comes_122 (by decide) (fun c11 => ?_) (fun c11 => ?_)
        · skip
          have hT10 := hT10.trans (if_pos c11)
          try have hS := Eq.mp (if_pos c11) hS
          refine lv_aload_n hx hb dX7_comes_140 rfl (lv_at hl 3 rfl) ?_
          refine lv_iload hx hb dX7_comes_141 (lv_at hl 1 rfl) ?_
          refine lv_iconst (v := 0) hx hb dX7_comes_143 (by decide) ?_
          refine lv_iconst (v := 1) hx hb dX7_comes_144 (by decide) ?_
          have hSc : S_X7_sets w10 (C.1 0 1401) 0 1 := hS.1
          have hS := hS.2
          refine gcV_v (rest := []) X (c_X7_sets l D cy ad rest w10 (C.1 0 1401) 0 1 hSc) gy_X7_sets gX7_comes_X7_sets ⟨rfl, rfl, Nat.le_of_ble_eq_true rfl, Nat.le_of_ble_eq_true rfl⟩ 0 rfl rfl rfl hl rfl (Nat.le_of_ble_eq_true rfl) dX7_comes_145 ⟨Nat.zero_le _, Nat.zero_le _⟩ hw (fun u13 H locs hu13 hw => ?_)
          have hu13 : u13 = F_X7_sets w10 (C.1 0 1401) 0 1 := hu13
          have hT10 := hT10.trans (bnd_eq hu13)
          try have hS := Eq.mp (bnd_eq hu13) hS
          refine lv_aload_n hx hb dX7_comes_148 rfl (lv_at hl 3 rfl) ?_
          refine lv_iload hx hb dX7_comes_149 (lv_at hl 1 rfl) ?_
          refine lv_iconst (v := 1) hx hb dX7_comes_151 (by decide) ?_
          refine lv_iload_n hx hb dX7_comes_152 rfl (lv_at hl 4 rfl) ?_
          have hSc : S_X7_sets u13 (C.1 0 1401) 1 q1 := hS.1
          have hS := hS.2
          refine gcV_v (rest := []) X (c_X7_sets l D cy ad rest u13 (C.1 0 1401) 1 q1 hSc) gy_X7_sets gX7_comes_X7_sets ⟨rfl, rfl, Nat.le_of_ble_eq_true rfl, Nat.le_of_ble_eq_true rfl⟩ 0 rfl rfl rfl hl rfl (Nat.le_of_ble_eq_true rfl) dX7_comes_153 ⟨Nat.zero_le _, Nat.zero_le _⟩ hw (fun u15 H locs hu15 hw => ?_)
          have hu15 : u15 = F_X7_sets u13 (C.1 0 1401) 1 q1 := hu15
          have hT10 := hT10.trans (bnd_eq hu15)
          try have hS := Eq.mp (bnd_eq hu15) hS
          refine lv_aload_n hx hb dX7_comes_156 rfl (lv_at hl 3 rfl) ?_
          refine lv_iload hx hb dX7_comes_157 (lv_at hl 1 rfl) ?_
          refine lv_iconst (v := 2) hx hb dX7_comes_159 (by decide) ?_
          refine lv_iload_n hx hb dX7_comes_160 rfl (lv_at hl 5 rfl) ?_
          have hSc : S_X7_sets u15 (C.1 0 1401) 2 q2 := hS.1
          have hS := hS.2
          refine gcV_v (rest := []) X (c_X7_sets l D cy ad rest u15 (C.1 0 1401) 2 q2 hSc) gy_X7_sets gX7_comes_X7_sets ⟨rfl, rfl, Nat.le_of_ble_eq_true rfl, Nat.le_of_ble_eq_true rfl⟩ 0 rfl rfl rfl hl rfl (Nat.le_of_ble_eq_true rfl) dX7_comes_161 ⟨Nat.zero_le _, Nat.zero_le _⟩ hw (fun u17 H locs hu17 hw => ?_)
          have hu17 : u17 = F_X7_sets u15 (C.1 0 1401) 2 q2 := hu17
          have hT10 := hT10.trans (bnd_eq hu17)
          try have hS := Eq.mp (bnd_eq hu17) hS
          refine lv_aload_n hx hb dX7_comes_164 rfl (lv_at hl 3 rfl) ?_
          refine lv_iload hx hb dX7_comes_165 (lv_at hl 1 rfl) ?_
          refine lv_iconst (v := 3) hx hb dX7_comes_167 (by decide) ?_
          refine lv_iload_n hx hb dX7_comes_168 rfl (lv_at hl 5 rfl) ?_
          have hSc : S_X7_sets u17 (C.1 0 1401) 3 q2 := hS.1
          have hS := hS.2
          refine gcV_v (rest := []) X (c_X7_sets l D cy ad rest u17 (C.1 0 1401) 3 q2 hSc) gy_X7_sets gX7_comes_X7_sets ⟨rfl, rfl, Nat.le_of_ble_eq_true rfl, Nat.le_of_ble_eq_true rfl⟩ 0 rfl rfl rfl hl rfl (Nat.le_of_ble_eq_true rfl) dX7_comes_169 ⟨Nat.zero_le _, Nat.zero_le _⟩ hw (fun u19 H locs hu19 hw => ?_)
          have hu19 : u19 = F_X7_sets u17 (C.1 0 1401) 3 q2 := hu19
          have hT10 := hT10.trans (bnd_eq hu19)
          try have hS := Eq.mp (bnd_eq hu19) hS
          refine lv_iconst (v := 1) hx hb dX7_comes_172 (by decide) ?_
          refine lv_istore (lv' := [(6, .int 1), (5, .int (C.1 0 1401)), (4, .int (C.1 0 400)), (0, .ref (ad 0)), (1, .int q1), (2, .int q2), (3, .int q3)]) hx hb dX7_comes_173 hl (by decide) rfl (fun ls hl => ?_)
          have L20 : ∀ (n20 : Nat) (v20_6 : Int32) (w20 : CS), st_X7_comes_118 q1 q2 C v10_6 w10 = lp (fun (z : Int32 × CS) => st_X7_comes_175 q1 C z.1 z.2) (.inr (0, C)) n20 (v20_6, w20) → lpS (fun (z : Int32 × CS) => st_X7_comes_175 q1 C z.1 z.2) (fun (z : Int32 × CS) => Sst_X7_comes_175 q1 C z.1 z.2) n20 (v20_6, w20) → ∀ (H : Heap) (locs : List Loc) (ls : Array Slot), lv_has ls 9 [(6, .int v20_6), (5, .int (C.1 0 1401)), (4, .int (C.1 0 400)), (0, .ref (ad 0)), (1, .int q1), (2, .int q2), (3, .int q3)] → gw D A s.heap (MW cy ad w20 ++ rest) H locs → W p l e rmX7_comes s m args below meth c H locs 0 0 Q (F0 m 175 ls []) := by
            intro n20
            induction n20 with
            | zero => intro v20_6 w20 hT10 hL; exact False.elim hL
            | succ n20 ih20 =>
              intro v20_6 w20 hT10 hL H locs ls hl hw
              have hT20 := st_X7_comes_175.eq_1 q1 C v20_6 w20
              have hLn20 := hL.2
              have hS := Eq.mp (Sst_X7_comes_175.eq_1 q1 C v20_6 w20) hL.1
              refine lv_iload hx hb dX7_comes_175 (lv_at hl 0 rfl) ?_
              refine lv_if_eq (tgt := 190) hx hb dX7_comes_177 (by decide) (fun c21 => ?_) (fun c21 => ?_)
              · skip
                have hT20 := hT20.trans (if_pos c21)
                try have hS := Eq.mp (if_pos c21) hS
                refine lv_aload_n hx hb dX7_comes_190 rfl (lv_at hl 3 rfl) ?_
                refine g_get (v := .ref (ad 1)) (C := RX7) (T := TX7) (N := 16) (ci := 9) X inX7 hw 0 rfl rfl 1 (by decide) (List.mem_of_getElem? (i := 1) rfl) rfl rfl dX7_comes_191 ?_
                refine lv_iconst (v := 4) hx hb dX7_comes_194 (by decide) ?_
                refine lv_iload hx hb dX7_comes_195 (lv_at hl 2 rfl) ?_
                refine lv_imul hx hb dX7_comes_197 ?_
                refine lv_iconst (v := 3) hx hb dX7_comes_198 (by decide) ?_
                refine lv_iadd hx hb dX7_comes_199 ?_
                refine g_iald X hw 1 rfl hS.1 dX7_comes_200 ?_
                have hS := hS.2
                refine lv_istore (lv' := [(7, .int (w20.1 0 ((4 * (C.1 0 400)) + 3).toNatClampNeg)), (6, .int v20_6), (5, .int (C.1 0 1401)), (4, .int (C.1 0 400)), (0, .ref (ad 0)), (1, .int q1), (2, .int q2), (3, .int q3)]) hx hb dX7_comes_201 hl (by decide) rfl (fun ls hl => ?_)
                refine lv_aload_n hx hb dX7_comes_203 rfl (lv_at hl 4 rfl) ?_
                refine g_get (v := .ref (ad 1)) (C := RX7) (T := TX7) (N := 16) (ci := 9) X inX7 hw 0 rfl rfl 1 (by decide) (List.mem_of_getElem? (i := 1) rfl) rfl rfl dX7_comes_204 ?_
                refine lv_sipush (v := 1420) hx hb dX7_comes_207 (by decide) ?_
                refine g_ialdk (k := 1420) rfl X hw 1 rfl (vk rfl) dX7_comes_210 ?_
                refine lv_if_le (tgt := 241) hx hb dX7_comes_211 (by decide) (fun c22 => ?_) (fun c22 => ?_)
                · skip
                  have hT20 := hT20.trans (if_pos c22)
                  try have hS := Eq.mp (if_pos c22) hS
                  refine lv_iload hx hb dX7_comes_241 (lv_at hl 0 rfl) ?_
                  exact hret _ _ _ _ _ _ dX7_comes_243 ⟨congrArg Prod.fst ((hF.trans (lp_r (hT10.trans (lp_r hT20)))).symm.trans hsp), congrArg Prod.snd ((hF.trans (lp_r (hT10.trans (lp_r hT20)))).symm.trans hsp)⟩ hw
                · skip
                  have hT20 := hT20.trans (if_neg c22)
                  try have hS := Eq.mp (if_neg c22) hS
                  refine lv_aload_n hx hb dX7_comes_214 rfl (lv_at hl 4 rfl) ?_
                  refine lv_iload hx hb dX7_comes_215 (lv_at hl 0 rfl) ?_
                  have hSc : S_X7_many w20 (w20.1 0 ((4 * (C.1 0 400)) + 3).toNatClampNeg) := hS.1
                  have hS := hS.2
                  refine gcV_i (rest := []) X (c_X7_many l D cy ad rest w20 (w20.1 0 ((4 * (C.1 0 400)) + 3).toNatClampNeg) hSc) gy_X7_many gX7_comes_X7_many ⟨rfl, rfl, Nat.le_of_ble_eq_true rfl, Nat.le_of_ble_eq_true rfl⟩ 0 rfl rfl rfl hl rfl (Nat.le_of_ble_eq_true rfl) dX7_comes_217 ⟨Nat.zero_le _, Nat.zero_le _⟩ hw (fun r23 _ H locs hr23 hw => ?_)
                  have hr23 : r23 = F_X7_many w20 (w20.1 0 ((4 * (C.1 0 400)) + 3).toNatClampNeg) := hr23
                  have hT20 := hT20.trans (bnd_eq hr23)
                  try have hS := Eq.mp (bnd_eq hr23) hS
                  refine lv_aload_n hx hb dX7_comes_220 rfl (lv_at hl 4 rfl) ?_
                  refine g_get (v := .ref (ad 1)) (C := RX7) (T := TX7) (N := 16) (ci := 9) X inX7 hw 0 rfl rfl 1 (by decide) (List.mem_of_getElem? (i := 1) rfl) rfl rfl dX7_comes_221 ?_
                  refine lv_sipush (v := 1420) hx hb dX7_comes_224 (by decide) ?_
                  refine g_ialdk (k := 1420) rfl X hw 1 rfl (vk rfl) dX7_comes_227 ?_
                  have hz := hS.1
                  have hS := hS.2
                  refine lv_irem hx hb dX7_comes_228 hz ?_
                  refine lv_if_ne (tgt := 241) hx hb dX7_comes_229 (by decide) (fun c25 => ?_) (fun c25 => ?_)
                  · skip
                    have hT20 := hT20.trans (if_neg c25)
                    try have hS := Eq.mp (if_neg c25) hS
                    refine lv_iload hx hb dX7_comes_241 (lv_at hl 0 rfl) ?_
                    exact hret _ _ _ _ _ _ dX7_comes_243 ⟨congrArg Prod.fst ((hF.trans (lp_r (hT10.trans (lp_r hT20)))).symm.trans hsp), congrArg Prod.snd ((hF.trans (lp_r (hT10.trans (lp_r hT20)))).symm.trans hsp)⟩ hw
                  · skip
                    have hT20 := hT20.trans (if_pos c25)
                    try have hS := Eq.mp (if_pos c25) hS
                    refine lv_aload_n hx hb dX7_comes_232 rfl (lv_at hl 4 rfl) ?_
                    refine lv_iconst (v := 0) hx hb dX7_comes_233 (by decide) ?_
                    refine lv_iload hx hb dX7_comes_234 (lv_at hl 0 rfl) ?_
                    have hSc : S_X7_fires w20 0 (w20.1 0 ((4 * (C.1 0 400)) + 3).toNatClampNeg) := hS.1
                    have hS := hS.2
                    refine gcV_i (rest := []) X (c_X7_fires l D cy ad rest w20 0 (w20.1 0 ((4 * (C.1 0 400)) + 3).toNatClampNeg) hSc) gy_X7_fires gX7_comes_X7_fires ⟨rfl, rfl, Nat.le_of_ble_eq_true rfl, Nat.le_of_ble_eq_true rfl⟩ 0 rfl rfl rfl hl rfl (Nat.le_of_ble_eq_true rfl) dX7_comes_236 ⟨Nat.zero_le _, Nat.zero_le _⟩ hw (fun r26 u27 H locs hr26 hw => ?_)
                    obtain ⟨hr26, hu27⟩ : r26 = (F_X7_fires w20 0 (w20.1 0 ((4 * (C.1 0 400)) + 3).toNatClampNeg)).1 ∧ u27 = (F_X7_fires w20 0 (w20.1 0 ((4 * (C.1 0 400)) + 3).toNatClampNeg)).2 := hr26
                    have hT20 := hT20.trans (bnd_eq hu27)
                    try have hS := Eq.mp (bnd_eq hu27) hS
                    have hT20 := hT20.trans (bnd_eq hr26)
                    try have hS := Eq.mp (bnd_eq hr26) hS
                    refine lv_istore (lv' := [(8, .int r26), (7, .int (w20.1 0 ((4 * (C.1 0 400)) + 3).toNatClampNeg)), (6, .int v20_6), (5, .int (C.1 0 1401)), (4, .int (C.1 0 400)), (0, .ref (ad 0)), (1, .int q1), (2, .int q2), (3, .int q3)]) hx hb dX7_comes_239 hl (by decide) rfl (fun ls hl => ?_)
                    refine lv_iload hx hb dX7_comes_241 (lv_at hl 1 rfl) ?_
                    exact hret _ _ _ _ _ _ dX7_comes_243 ⟨congrArg Prod.fst ((hF.trans (lp_r (hT10.trans (lp_r hT20)))).symm.trans hsp), congrArg Prod.snd ((hF.trans (lp_r (hT10.trans (lp_r hT20)))).symm.trans hsp)⟩ hw
              · skip
                have hT20 := hT20.trans (if_neg c21)
                try have hS := Eq.mp (if_neg c21) hS
                refine lv_aload_n hx hb dX7_comes_180 rfl (lv_at hl 3 rfl) ?_
                refine lv_iload_n hx hb dX7_comes_181 rfl (lv_at hl 4 rfl) ?_
                have hSc : S_X7_mergesOne w20 q1 := hS.1
                have hS := hS.2
                refine gcV_i (rest := []) X (c_X7_mergesOne l D cy ad rest w20 q1 hSc) gy_X7_mergesOne gX7_comes_X7_mergesOne ⟨rfl, rfl, Nat.le_of_ble_eq_true rfl, Nat.le_of_ble_eq_true rfl⟩ 0 rfl rfl rfl hl rfl (Nat.le_of_ble_eq_true rfl) dX7_comes_182 ⟨Nat.zero_le _, Nat.zero_le _⟩ hw (fun r28 u29 H locs hr28 hw => ?_)
                obtain ⟨⟨hr28, hu29⟩, zr28⟩ : (r28 = (F_X7_mergesOne w20 q1).1 ∧ u29 = (F_X7_mergesOne w20 q1).2) ∧ (r28 = 0 ∨ r28 = 1) := hr28
                have hT20 := hT20.trans (bnd_eq hu29)
                try have hS := Eq.mp (bnd_eq hu29) hS
                have hT20 := hT20.trans (bnd_eq hr28)
                try have hS := Eq.mp (bnd_eq hr28) hS
                refine lv_istore (lv' := [(6, .int r28), (5, .int (C.1 0 1401)), (4, .int (C.1 0 400)), (0, .ref (ad 0)), (1, .int q1), (2, .int q2), (3, .int q3)]) hx hb dX7_comes_185 hl (by decide) rfl (fun ls hl => ?_)
                refine lv_goto (tgt := 175) hx hb dX7_comes_187 (by decide) ?_
                exact ih20 r28 u29 (hT10.trans (lp_l hT20)) (hLn20 _ hT20) _ _ ls (lv_sub hl [0, 1, 2, 3, 4, 5, 6] rfl) hw
          exact L20 _ 1 u19 hT10 hS _ _ ls (lv_sub hl [0, 1, 2, 3, 4, 5, 6] rfl) hw
        · skip
          have hT10 := hT10.trans (if_neg c11)
          try have hS := Eq.mp (if_neg c11) hS
          refine lv_aload_n hx hb dX7_comes_125 rfl (lv_at hl 3 rfl) ?_
          refine lv_iload hx hb dX7_comes_126 (lv_at hl 1 rfl) ?_
          refine lv_iload hx hb dX7_comes_128 (lv_at hl 0 rfl) ?_
          refine lv_iconst (v := 0) hx hb dX7_comes_130 (by decide) ?_
          have hSc : S_X7_sets w10 (C.1 0 1401) v10_6 0 := hS.1
          have hS := hS.2
          refine gcV_v (rest := []) X (c_X7_sets l D cy ad rest w10 (C.1 0 1401) v10_6 0 hSc) gy_X7_sets gX7_comes_X7_sets ⟨rfl, rfl, Nat.le_of_ble_eq_true rfl, Nat.le_of_ble_eq_true rfl⟩ 0 rfl rfl rfl hl rfl (Nat.le_of_ble_eq_true rfl) dX7_comes_131 ⟨Nat.zero_le _, Nat.zero_le _⟩ hw (fun u31 H locs hu31 hw => ?_)
          have hu31 : u31 = F_X7_sets w10 (C.1 0 1401) v10_6 0 := hu31
          have hT10 := hT10.trans (bnd_eq hu31)
          try have hS := Eq.mp (bnd_eq hu31) hS
          refine lv_iinc (v := (v10_6 + 1)) (lv' := [(6, .int (v10_6 + 1)), (5, .int (C.1 0 1401)), (4, .int (C.1 0 400)), (0, .ref (ad 0)), (1, .int q1), (2, .int q2), (3, .int q3)]) hx hb dX7_comes_134 hl (k := 0) rfl rfl (by decide) rfl (fun ls hl => ?_)
          refine lv_goto (tgt := 118) hx hb dX7_comes_137 (by decide) ?_
          exact ih10 (v10_6 + 1) u31 (hF.trans (lp_l hT10)) (hLn10 _ hT10) _ _ ls (lv_sub hl [0, 1, 2, 3, 4, 5, 6] rfl) hw
    exact L10 _ 0 u9 hF hS _ _ ls (lv_sub hl [0, 1, 2, 3, 4, 5, 6] rfl) hw
  · skip
    have hF := hF.trans (if_neg c3)
    try have hS := Eq.mp (if_neg c3) hS
    refine lv_aload_n hx hb dX7_comes_8 rfl (lv_at hl 0 rfl) ?_
    refine g_get (v := .ref (ad 1)) (C := RX7) (T := TX7) (N := 16) (ci := 9) X inX7 hw 0 rfl rfl 1 (by decide) (List.mem_of_getElem? (i := 1) rfl) rfl rfl dX7_comes_9 ?_
    refine lv_sipush (v := 1421) hx hb dX7_comes_12 (by decide) ?_
    refine lv_dup2_11 hx hb dX7_comes_15 rfl rfl ?_
    refine g_ialdk (k := 1421) rfl X hw 1 rfl (vk rfl) dX7_comes_16 ?_
    refine lv_iconst (v := 1) hx hb dX7_comes_17 (by decide) ?_
    refine lv_iadd hx hb dX7_comes_18 ?_
    refine g_iastk (k := 1421) rfl (w' := MW cy ad (sR C 0 (upd (C.1 0) 1421 ((C.1 0 1421) + 1))) ++ rest) X hw 1 rfl (vk rfl) rfl dX7_comes_19 (fun H locs hw => ?_)
    obtain ⟨u32, hu32⟩ : ∃ z, z = sR C 0 (upd (C.1 0) 1421 ((C.1 0 1421) + 1)) := ⟨_, rfl⟩
    rw [← hu32] at hw
    have hF := hF.trans (bnd_eq hu32)
    try have hS := Eq.mp (bnd_eq hu32) hS
    refine lv_iconst (v := (-1)) hx hb dX7_comes_20 (by decide) ?_
    exact hret _ _ _ _ _ _ dX7_comes_21 ⟨congrArg Prod.fst (hF.symm.trans hsp), congrArg Prod.snd (hF.symm.trans hsp)⟩ hw
theorem gy_X7_add : gY yX7_add RX7 cX7_add 5 (some .int) wsX7_add 3 := ⟨⟨_, rfl⟩, rfl, by decide +kernel, by decide +kernel, by decide +kernel⟩
def F_X7_add (C : CS) (q1 : Int32) (q2 : Int32) (q3 : Int32) : Int32 × CS := (bnd (F_X7_lacks C q1 q2) (fun r1 => (if r1 = 0 then (bnd ((F_X7_comes C q1 q2 q3).2) (fun u5 => (bnd ((F_X7_comes C q1 q2 q3).1) (fun r4 => (bnd ((F_X7_done u5 r4).2) (fun u7 => (bnd ((F_X7_done u5 r4).1) (fun r6 => (r6, u7))))))))) else (bnd ((F_X7_fails C r1).2) (fun u9 => (bnd ((F_X7_fails C r1).1) (fun r8 => (r8, u9))))))))
def S_X7_add (C : CS) (q1 : Int32) (q2 : Int32) (q3 : Int32) : Prop := (bnd (F_X7_lacks C q1 q2) (fun r1 => (if r1 = 0 then (S_X7_comes C q1 q2 q3 ∧ True) else True)))
abbrev rmX7_add : Room := { frames := 6, cells := 0, slots := 0, locals := 143 }
set_option maxHeartbeats 4000000 in
set_option maxRecDepth 100000 in
theorem c_X7_add (l : Launch) (D : va_G) (cy : Nat → ClassId) (ad : Nat → Nat) (rest : va_W) (C : CS) (q1 : Int32) (q2 : Int32) (q3 : Int32) (hS : S_X7_add C q1 q2 q3) : GMi l yX7_add wsX7_add rmX7_add D cy [.ref (ad 0), .int q1, .int q2, .int q3] (MW cy ad C ++ rest) (fun (r : Int32) (u : CS) => r = (F_X7_add C q1 q2 q3).1 ∧ u = (F_X7_add C q1 q2 q3).2) (fun u => MW cy ad u ++ rest) := by
  refine GMi.intro cX7_add 5 RX7 (by decide) rfl rfl (Nat.le_of_ble_eq_true rfl) ?_
  intro p e s m args below meth c A Q ls X hret hl hw
  have hx := X.1
  have hb := X.2.1
  have hl : lv_has ls 5 [(0, .ref (ad 0)), (1, .int q1), (2, .int q2), (3, .int q3)] := hl
  obtain ⟨sp, hsp⟩ : ∃ sp, sp = F_X7_add C q1 q2 q3 := ⟨_, rfl⟩
  have hF := hsp.trans (F_X7_add.eq_1 C q1 q2 q3)
  have hS := Eq.mp (S_X7_add.eq_1 C q1 q2 q3) hS
  refine lv_aload_n hx hb dX7_add_0 rfl (lv_at hl 0 rfl) ?_
  refine lv_iload_n hx hb dX7_add_1 rfl (lv_at hl 1 rfl) ?_
  refine lv_iload_n hx hb dX7_add_2 rfl (lv_at hl 2 rfl) ?_
  refine gcV_i (rest := []) X (c_X7_lacks l D cy ad rest C q1 q2) gy_X7_lacks gX7_add_X7_lacks ⟨rfl, rfl, Nat.le_of_ble_eq_true rfl, Nat.le_of_ble_eq_true rfl⟩ 0 rfl rfl rfl hl rfl (Nat.le_of_ble_eq_true rfl) dX7_add_3 ⟨Nat.zero_le _, Nat.zero_le _⟩ hw (fun r1 _ H locs hr1 hw => ?_)
  have hr1 : r1 = F_X7_lacks C q1 q2 := hr1
  have hF := hF.trans (bnd_eq hr1)
  try have hS := Eq.mp (bnd_eq hr1) hS
  refine lv_istore (lv' := [(4, .int r1), (0, .ref (ad 0)), (1, .int q1), (2, .int q2), (3, .int q3)]) hx hb dX7_add_6 hl (by decide) rfl (fun ls hl => ?_)
  refine lv_iload hx hb dX7_add_8 (lv_at hl 0 rfl) ?_
  refine lv_if_eq (tgt := 22) hx hb dX7_add_10 (by decide) (fun c3 => ?_) (fun c3 => ?_)
  · skip
    have hF := hF.trans (if_pos c3)
    try have hS := Eq.mp (if_pos c3) hS
    refine lv_aload_n hx hb dX7_add_22 rfl (lv_at hl 1 rfl) ?_
    refine lv_aload_n hx hb dX7_add_23 rfl (lv_at hl 1 rfl) ?_
    refine lv_iload_n hx hb dX7_add_24 rfl (lv_at hl 2 rfl) ?_
    refine lv_iload_n hx hb dX7_add_25 rfl (lv_at hl 3 rfl) ?_
    refine lv_iload_n hx hb dX7_add_26 rfl (lv_at hl 4 rfl) ?_
    have hSc : S_X7_comes C q1 q2 q3 := hS.1
    have hS := hS.2
    refine gcV_i (rest := [.ref (ad 0)]) X (c_X7_comes l D cy ad rest C q1 q2 q3 hSc) gy_X7_comes gX7_add_X7_comes ⟨rfl, rfl, Nat.le_of_ble_eq_true rfl, Nat.le_of_ble_eq_true rfl⟩ 0 rfl rfl rfl hl rfl (Nat.le_of_ble_eq_true rfl) dX7_add_27 ⟨Nat.zero_le _, Nat.zero_le _⟩ hw (fun r4 u5 H locs hr4 hw => ?_)
    obtain ⟨hr4, hu5⟩ : r4 = (F_X7_comes C q1 q2 q3).1 ∧ u5 = (F_X7_comes C q1 q2 q3).2 := hr4
    have hF := hF.trans (bnd_eq hu5)
    try have hS := Eq.mp (bnd_eq hu5) hS
    have hF := hF.trans (bnd_eq hr4)
    try have hS := Eq.mp (bnd_eq hr4) hS
    refine gcV_i (rest := []) X (c_X7_done l D cy ad rest u5 r4) gy_X7_done gX7_add_X7_done ⟨rfl, rfl, Nat.le_of_ble_eq_true rfl, Nat.le_of_ble_eq_true rfl⟩ 0 rfl rfl rfl hl rfl (Nat.le_of_ble_eq_true rfl) dX7_add_30 ⟨Nat.zero_le _, Nat.zero_le _⟩ hw (fun r6 u7 H locs hr6 hw => ?_)
    obtain ⟨hr6, hu7⟩ : r6 = (F_X7_done u5 r4).1 ∧ u7 = (F_X7_done u5 r4).2 := hr6
    have hF := hF.trans (bnd_eq hu7)
    try have hS := Eq.mp (bnd_eq hu7) hS
    have hF := hF.trans (bnd_eq hr6)
    try have hS := Eq.mp (bnd_eq hr6) hS
    exact hret _ _ _ _ _ _ dX7_add_33 ⟨congrArg Prod.fst (hF.symm.trans hsp), congrArg Prod.snd (hF.symm.trans hsp)⟩ hw
  · skip
    have hF := hF.trans (if_neg c3)
    try have hS := Eq.mp (if_neg c3) hS
    refine lv_aload_n hx hb dX7_add_13 rfl (lv_at hl 1 rfl) ?_
    refine lv_iload hx hb dX7_add_14 (lv_at hl 0 rfl) ?_
    refine gcV_i (rest := []) X (c_X7_fails l D cy ad rest C r1) gy_X7_fails gX7_add_X7_fails ⟨rfl, rfl, Nat.le_of_ble_eq_true rfl, Nat.le_of_ble_eq_true rfl⟩ 0 rfl rfl rfl hl rfl (Nat.le_of_ble_eq_true rfl) dX7_add_16 ⟨Nat.zero_le _, Nat.zero_le _⟩ hw (fun r8 u9 H locs hr8 hw => ?_)
    obtain ⟨hr8, hu9⟩ : r8 = (F_X7_fails C r1).1 ∧ u9 = (F_X7_fails C r1).2 := hr8
    have hF := hF.trans (bnd_eq hu9)
    try have hS := Eq.mp (bnd_eq hu9) hS
    have hF := hF.trans (bnd_eq hr8)
    try have hS := Eq.mp (bnd_eq hr8) hS
    refine lv_goto (tgt := 33) hx hb dX7_add_19 (by decide) ?_
    exact hret _ _ _ _ _ _ dX7_add_33 ⟨congrArg Prod.fst (hF.symm.trans hsp), congrArg Prod.snd (hF.symm.trans hsp)⟩ hw
theorem gy_X7_bound : gY yX7_bound RX7 cX7_bound 2 (some .int) wsX7_bound 1 := ⟨⟨_, rfl⟩, rfl, by decide +kernel, by decide +kernel, by decide +kernel⟩
def F_X7_bound (C : CS) (q1 : Int32) : Int32 := (bnd (F_X7_of C q1 3) (fun r1 => (bnd (F_X7_gapOf C q1) (fun r3 => ((r1 + r3) + (C.1 0 1419))))))
def S_X7_bound (C : CS) (q1 : Int32) : Prop := (S_X7_of C q1 3 ∧ (bnd (F_X7_of C q1 3) (fun r1 => (S_X7_gapOf C q1 ∧ True))))
abbrev rmX7_bound : Room := { frames := 2, cells := 0, slots := 0, locals := 43 }
set_option maxHeartbeats 4000000 in
set_option maxRecDepth 100000 in
theorem c_X7_bound (l : Launch) (D : va_G) (cy : Nat → ClassId) (ad : Nat → Nat) (rest : va_W) (C : CS) (q1 : Int32) (hS : S_X7_bound C q1) : GMi l yX7_bound wsX7_bound rmX7_bound D cy [.ref (ad 0), .int q1] (MW cy ad C ++ rest) (fun (r : Int32) (_ : Unit) => r = F_X7_bound C q1) (fun _ => MW cy ad C ++ rest) := by
  refine GMi.intro cX7_bound 2 RX7 (by decide) rfl rfl (Nat.le_of_ble_eq_true rfl) ?_
  intro p e s m args below meth c A Q ls X hret hl hw
  have hx := X.1
  have hb := X.2.1
  have hl : lv_has ls 2 [(0, .ref (ad 0)), (1, .int q1)] := hl
  have inX7 : ∀ w ∈ wsX70, w ∈ wsX7_bound := fun w h => List.mem_cons_of_mem _ (List.mem_append_left _ (List.mem_append_right _ h))
  obtain ⟨sp, hsp⟩ : ∃ sp, sp = F_X7_bound C q1 := ⟨_, rfl⟩
  have hF := hsp.trans (F_X7_bound.eq_1 C q1)
  have hS := Eq.mp (S_X7_bound.eq_1 C q1) hS
  refine lv_aload_n hx hb dX7_bound_0 rfl (lv_at hl 0 rfl) ?_
  refine lv_iload_n hx hb dX7_bound_1 rfl (lv_at hl 1 rfl) ?_
  refine lv_iconst (v := 3) hx hb dX7_bound_2 (by decide) ?_
  have hSc : S_X7_of C q1 3 := hS.1
  have hS := hS.2
  refine gcV_i (rest := []) X (c_X7_of l D cy ad rest C q1 3 hSc) gy_X7_of gX7_bound_X7_of ⟨rfl, rfl, Nat.le_of_ble_eq_true rfl, Nat.le_of_ble_eq_true rfl⟩ 0 rfl rfl rfl hl rfl (Nat.le_of_ble_eq_true rfl) dX7_bound_3 ⟨Nat.zero_le _, Nat.zero_le _⟩ hw (fun r1 _ H locs hr1 hw => ?_)
  have hr1 : r1 = F_X7_of C q1 3 := hr1
  have hF := hF.trans (bnd_eq hr1)
  try have hS := Eq.mp (bnd_eq hr1) hS
  refine lv_aload_n hx hb dX7_bound_6 rfl (lv_at hl 0 rfl) ?_
  refine lv_iload_n hx hb dX7_bound_7 rfl (lv_at hl 1 rfl) ?_
  have hSc : S_X7_gapOf C q1 := hS.1
  have hS := hS.2
  refine gcV_i (rest := [.int r1]) X (c_X7_gapOf l D cy ad rest C q1 hSc) gy_X7_gapOf gX7_bound_X7_gapOf ⟨rfl, rfl, Nat.le_of_ble_eq_true rfl, Nat.le_of_ble_eq_true rfl⟩ 0 rfl rfl rfl hl rfl (Nat.le_of_ble_eq_true rfl) dX7_bound_8 ⟨Nat.zero_le _, Nat.zero_le _⟩ hw (fun r3 _ H locs hr3 hw => ?_)
  have hr3 : r3 = F_X7_gapOf C q1 := hr3
  have hF := hF.trans (bnd_eq hr3)
  try have hS := Eq.mp (bnd_eq hr3) hS
  refine lv_iadd hx hb dX7_bound_11 ?_
  refine lv_aload_n hx hb dX7_bound_12 rfl (lv_at hl 0 rfl) ?_
  refine g_get (v := .ref (ad 1)) (C := RX7) (T := TX7) (N := 16) (ci := 9) X inX7 hw 0 rfl rfl 1 (by decide) (List.mem_of_getElem? (i := 1) rfl) rfl rfl dX7_bound_13 ?_
  refine lv_sipush (v := 1419) hx hb dX7_bound_16 (by decide) ?_
  refine g_ialdk (k := 1419) rfl X hw 1 rfl (vk rfl) dX7_bound_19 ?_
  refine lv_iadd hx hb dX7_bound_20 ?_
  exact hret _ _ () _ _ _ dX7_bound_21 (hF.symm.trans hsp) hw
theorem gy_X7_nextOf : gY yX7_nextOf RX7 cX7_nextOf 3 (some .int) wsX7_nextOf 0 := ⟨⟨_, rfl⟩, rfl, by decide +kernel, by decide +kernel, by decide +kernel⟩
def st_X7_nextOf_4 (C : CS) (v1_2 : Int32) (v1_1 : Int32) : (Int32 × Int32) ⊕ Int32 := (if (C.1 0 1401) ≤ v1_2 then .inr (v1_1) else (bnd (F_X7_isOpen C v1_2) (fun r3 => (if r3 = 0 then .inl ((v1_2 + 1), v1_1) else (bnd (F_X7_bound C v1_2) (fun r6 => (if (C.1 0 1418) ≤ r6 then .inl ((v1_2 + 1), v1_1) else (if v1_1 = (-1) then .inl ((v1_2 + 1), v1_2) else (bnd (F_X7_of C v1_2 3) (fun r10 => (bnd (F_X7_of C v1_1 3) (fun r12 => (if r12 ≤ r10 then .inl ((v1_2 + 1), v1_1) else .inl ((v1_2 + 1), v1_2))))))))))))))
def Sst_X7_nextOf_4 (C : CS) (v1_2 : Int32) (v1_1 : Int32) : Prop := (if (C.1 0 1401) ≤ v1_2 then True else (S_X7_isOpen C v1_2 ∧ (bnd (F_X7_isOpen C v1_2) (fun r3 => (if r3 = 0 then True else (S_X7_bound C v1_2 ∧ (bnd (F_X7_bound C v1_2) (fun r6 => (if (C.1 0 1418) ≤ r6 then True else (if v1_1 = (-1) then True else (S_X7_of C v1_2 3 ∧ (bnd (F_X7_of C v1_2 3) (fun r10 => (S_X7_of C v1_1 3 ∧ True))))))))))))))
def F_X7_nextOf (C : CS) : Int32 := lp (fun (z : Int32 × Int32) => st_X7_nextOf_4 C z.1 z.2) 0 (((C.1 0 1401).toInt - (0 : Int32).toInt).toNat + 1) (0, (-1))
def S_X7_nextOf (C : CS) : Prop := lpS (fun (z : Int32 × Int32) => st_X7_nextOf_4 C z.1 z.2) (fun (z : Int32 × Int32) => Sst_X7_nextOf_4 C z.1 z.2) (((C.1 0 1401).toInt - (0 : Int32).toInt).toNat + 1) (0, (-1))
abbrev rmX7_nextOf : Room := { frames := 3, cells := 0, slots := 0, locals := 64 }
set_option maxHeartbeats 4000000 in
set_option maxRecDepth 100000 in
theorem c_X7_nextOf (l : Launch) (D : va_G) (cy : Nat → ClassId) (ad : Nat → Nat) (rest : va_W) (C : CS) (hS : S_X7_nextOf C) : GMi l yX7_nextOf wsX7_nextOf rmX7_nextOf D cy [.ref (ad 0)] (MW cy ad C ++ rest) (fun (r : Int32) (_ : Unit) => r = F_X7_nextOf C) (fun _ => MW cy ad C ++ rest) := by
  refine GMi.intro cX7_nextOf 3 RX7 (by decide) rfl rfl (Nat.le_of_ble_eq_true rfl) ?_
  intro p e s m args below meth c A Q ls X hret hl hw
  have hx := X.1
  have hb := X.2.1
  have hl : lv_has ls 3 [(0, .ref (ad 0))] := hl
  have inX7 : ∀ w ∈ wsX70, w ∈ wsX7_nextOf := fun w h => List.mem_cons_of_mem _ (List.mem_append_left _ (List.mem_append_right _ h))
  obtain ⟨sp, hsp⟩ : ∃ sp, sp = F_X7_nextOf C := ⟨_, rfl⟩
  have hF := hsp.trans (F_X7_nextOf.eq_1 C)
  have hS := Eq.mp (S_X7_nextOf.eq_1 C) hS
  refine lv_iconst (v := (-1)) hx hb dX7_nextOf_0 (by decide) ?_
  refine lv_istore_n (lv' := [(1, .int (-1)), (0, .ref (ad 0))]) hx hb dX7_nextOf_1 rfl hl (by decide) rfl (fun ls hl => ?_)
  refine lv_iconst (v := 0) hx hb dX7_nextOf_2 (by decide) ?_
  refine lv_istore_n (lv' := [(2, .int 0), (1, .int (-1)), (0, .ref (ad 0))]) hx hb dX7_nextOf_3 rfl hl (by decide) rfl (fun ls hl => ?_)
  have L1 : ∀ (n1 : Nat) (v1_2 : Int32) (v1_1 : Int32), sp = lp (fun (z : Int32 × Int32) => st_X7_nextOf_4 C z.1 z.2) 0 n1 (v1_2, v1_1) → lpS (fun (z : Int32 × Int32) => st_X7_nextOf_4 C z.1 z.2) (fun (z : Int32 × Int32) => Sst_X7_nextOf_4 C z.1 z.2) n1 (v1_2, v1_1) → ∀ (H : Heap) (locs : List Loc) (ls : Array Slot), lv_has ls 3 [(2, .int v1_2), (1, .int v1_1), (0, .ref (ad 0))] → gw D A s.heap (MW cy ad C ++ rest) H locs → W p l e rmX7_nextOf s m args below meth c H locs 0 0 Q (F0 m 4 ls []) := by
    intro n1
    induction n1 with
    | zero => intro v1_2 v1_1 hF hL; exact False.elim hL
    | succ n1 ih1 =>
      intro v1_2 v1_1 hF hL H locs ls hl hw
      have hT1 := st_X7_nextOf_4.eq_1 C v1_2 v1_1
      have hLn1 := hL.2
      have hS := Eq.mp (Sst_X7_nextOf_4.eq_1 C v1_2 v1_1) hL.1
      refine lv_iload_n hx hb dX7_nextOf_4 rfl (lv_at hl 0 rfl) ?_
      refine lv_aload_n hx hb dX7_nextOf_5 rfl (lv_at hl 2 rfl) ?_
      refine g_get (v := .ref (ad 1)) (C := RX7) (T := TX7) (N := 16) (ci := 9) X inX7 hw 0 rfl rfl 1 (by decide) (List.mem_of_getElem? (i := 1) rfl) rfl rfl dX7_nextOf_6 ?_
      refine lv_sipush (v := 1401) hx hb dX7_nextOf_9 (by decide) ?_
      refine g_ialdk (k := 1401) rfl X hw 1 rfl (vk rfl) dX7_nextOf_12 ?_
      refine lv_icmp_ge (tgt := 68) hx hb dX7_nextOf_13 (by decide) (fun c2 => ?_) (fun c2 => ?_)
      · skip
        have hT1 := hT1.trans (if_pos c2)
        try have hS := Eq.mp (if_pos c2) hS
        refine lv_iload_n hx hb dX7_nextOf_68 rfl (lv_at hl 1 rfl) ?_
        exact hret _ _ () _ _ _ dX7_nextOf_69 ((hF.trans (lp_r hT1)).symm.trans hsp) hw
      · skip
        have hT1 := hT1.trans (if_neg c2)
        try have hS := Eq.mp (if_neg c2) hS
        refine lv_aload_n hx hb dX7_nextOf_16 rfl (lv_at hl 2 rfl) ?_
        refine lv_iload_n hx hb dX7_nextOf_17 rfl (lv_at hl 0 rfl) ?_
        have hSc : S_X7_isOpen C v1_2 := hS.1
        have hS := hS.2
        refine gcV_i (rest := []) X (c_X7_isOpen l D cy ad rest C v1_2 hSc) gy_X7_isOpen gX7_nextOf_X7_isOpen ⟨rfl, rfl, Nat.le_of_ble_eq_true rfl, Nat.le_of_ble_eq_true rfl⟩ 0 rfl rfl rfl hl rfl (Nat.le_of_ble_eq_true rfl) dX7_nextOf_18 ⟨Nat.zero_le _, Nat.zero_le _⟩ hw (fun r3 _ H locs hr3 hw => ?_)
        obtain ⟨hr3, zr3⟩ : r3 = F_X7_isOpen C v1_2 ∧ (r3 = 0 ∨ r3 = 1) := hr3
        have hT1 := hT1.trans (bnd_eq hr3)
        try have hS := Eq.mp (bnd_eq hr3) hS
        refine lv_if_eq (tgt := 62) hx hb dX7_nextOf_21 (by decide) (fun c5 => ?_) (fun c5 => ?_)
        · skip
          have hT1 := hT1.trans (if_pos c5)
          try have hS := Eq.mp (if_pos c5) hS
          refine lv_iinc (v := (v1_2 + 1)) (lv' := [(2, .int (v1_2 + 1)), (1, .int v1_1), (0, .ref (ad 0))]) hx hb dX7_nextOf_62 hl (k := 0) rfl rfl (by decide) rfl (fun ls hl => ?_)
          refine lv_goto (tgt := 4) hx hb dX7_nextOf_65 (by decide) ?_
          exact ih1 (v1_2 + 1) v1_1 (hF.trans (lp_l hT1)) (hLn1 _ hT1) _ _ ls (lv_sub hl [0, 1, 2] rfl) hw
        · skip
          have hT1 := hT1.trans (if_neg c5)
          try have hS := Eq.mp (if_neg c5) hS
          refine lv_aload_n hx hb dX7_nextOf_24 rfl (lv_at hl 2 rfl) ?_
          refine lv_iload_n hx hb dX7_nextOf_25 rfl (lv_at hl 0 rfl) ?_
          have hSc : S_X7_bound C v1_2 := hS.1
          have hS := hS.2
          refine gcV_i (rest := []) X (c_X7_bound l D cy ad rest C v1_2 hSc) gy_X7_bound gX7_nextOf_X7_bound ⟨rfl, rfl, Nat.le_of_ble_eq_true rfl, Nat.le_of_ble_eq_true rfl⟩ 0 rfl rfl rfl hl rfl (Nat.le_of_ble_eq_true rfl) dX7_nextOf_26 ⟨Nat.zero_le _, Nat.zero_le _⟩ hw (fun r6 _ H locs hr6 hw => ?_)
          have hr6 : r6 = F_X7_bound C v1_2 := hr6
          have hT1 := hT1.trans (bnd_eq hr6)
          try have hS := Eq.mp (bnd_eq hr6) hS
          refine lv_aload_n hx hb dX7_nextOf_29 rfl (lv_at hl 2 rfl) ?_
          refine g_get (v := .ref (ad 1)) (C := RX7) (T := TX7) (N := 16) (ci := 9) X inX7 hw 0 rfl rfl 1 (by decide) (List.mem_of_getElem? (i := 1) rfl) rfl rfl dX7_nextOf_30 ?_
          refine lv_sipush (v := 1418) hx hb dX7_nextOf_33 (by decide) ?_
          refine g_ialdk (k := 1418) rfl X hw 1 rfl (vk rfl) dX7_nextOf_36 ?_
          refine lv_icmp_ge (tgt := 62) hx hb dX7_nextOf_37 (by decide) (fun c8 => ?_) (fun c8 => ?_)
          · skip
            have hT1 := hT1.trans (if_pos c8)
            try have hS := Eq.mp (if_pos c8) hS
            refine lv_iinc (v := (v1_2 + 1)) (lv' := [(2, .int (v1_2 + 1)), (1, .int v1_1), (0, .ref (ad 0))]) hx hb dX7_nextOf_62 hl (k := 0) rfl rfl (by decide) rfl (fun ls hl => ?_)
            refine lv_goto (tgt := 4) hx hb dX7_nextOf_65 (by decide) ?_
            exact ih1 (v1_2 + 1) v1_1 (hF.trans (lp_l hT1)) (hLn1 _ hT1) _ _ ls (lv_sub hl [0, 1, 2] rfl) hw
          · skip
            have hT1 := hT1.trans (if_neg c8)
            try have hS := Eq.mp (if_neg c8) hS
            refine lv_iload_n hx hb dX7_nextOf_40 rfl (lv_at hl 1 rfl) ?_
            refine lv_iconst (v := (-1)) hx hb dX7_nextOf_41 (by decide) ?_
            refine lv_icmp_eq (tgt := 60) hx hb dX7_nextOf_42 (by decide) (fun c9 => ?_) (fun c9 => ?_)
            · skip
              have hT1 := hT1.trans (if_pos c9)
              try have hS := Eq.mp (if_pos c9) hS
              refine lv_iload_n hx hb dX7_nextOf_60 rfl (lv_at hl 0 rfl) ?_
              refine lv_istore_n (lv' := [(1, .int v1_2), (2, .int v1_2), (0, .ref (ad 0))]) hx hb dX7_nextOf_61 rfl hl (by decide) rfl (fun ls hl => ?_)
              refine lv_iinc (v := (v1_2 + 1)) (lv' := [(2, .int (v1_2 + 1)), (1, .int v1_2), (0, .ref (ad 0))]) hx hb dX7_nextOf_62 hl (k := 1) rfl rfl (by decide) rfl (fun ls hl => ?_)
              refine lv_goto (tgt := 4) hx hb dX7_nextOf_65 (by decide) ?_
              exact ih1 (v1_2 + 1) v1_2 (hF.trans (lp_l hT1)) (hLn1 _ hT1) _ _ ls (lv_sub hl [0, 1, 2] rfl) hw
            · skip
              have hT1 := hT1.trans (if_neg c9)
              try have hS := Eq.mp (if_neg c9) hS
              refine lv_aload_n hx hb dX7_nextOf_45 rfl (lv_at hl 2 rfl) ?_
              refine lv_iload_n hx hb dX7_nextOf_46 rfl (lv_at hl 0 rfl) ?_
              refine lv_iconst (v := 3) hx hb dX7_nextOf_47 (by decide) ?_
              have hSc : S_X7_of C v1_2 3 := hS.1
              have hS := hS.2
              refine gcV_i (rest := []) X (c_X7_of l D cy ad rest C v1_2 3 hSc) gy_X7_of gX7_nextOf_X7_of ⟨rfl, rfl, Nat.le_of_ble_eq_true rfl, Nat.le_of_ble_eq_true rfl⟩ 0 rfl rfl rfl hl rfl (Nat.le_of_ble_eq_true rfl) dX7_nextOf_48 ⟨Nat.zero_le _, Nat.zero_le _⟩ hw (fun r10 _ H locs hr10 hw => ?_)
              have hr10 : r10 = F_X7_of C v1_2 3 := hr10
              have hT1 := hT1.trans (bnd_eq hr10)
              try have hS := Eq.mp (bnd_eq hr10) hS
              refine lv_aload_n hx hb dX7_nextOf_51 rfl (lv_at hl 2 rfl) ?_
              refine lv_iload_n hx hb dX7_nextOf_52 rfl (lv_at hl 1 rfl) ?_
              refine lv_iconst (v := 3) hx hb dX7_nextOf_53 (by decide) ?_
              have hSc : S_X7_of C v1_1 3 := hS.1
              have hS := hS.2
              refine gcV_i (rest := [.int r10]) X (c_X7_of l D cy ad rest C v1_1 3 hSc) gy_X7_of gX7_nextOf_X7_of ⟨rfl, rfl, Nat.le_of_ble_eq_true rfl, Nat.le_of_ble_eq_true rfl⟩ 0 rfl rfl rfl hl rfl (Nat.le_of_ble_eq_true rfl) dX7_nextOf_54 ⟨Nat.zero_le _, Nat.zero_le _⟩ hw (fun r12 _ H locs hr12 hw => ?_)
              have hr12 : r12 = F_X7_of C v1_1 3 := hr12
              have hT1 := hT1.trans (bnd_eq hr12)
              try have hS := Eq.mp (bnd_eq hr12) hS
              refine lv_icmp_ge (tgt := 62) hx hb dX7_nextOf_57 (by decide) (fun c14 => ?_) (fun c14 => ?_)
              · skip
                have hT1 := hT1.trans (if_pos c14)
                try have hS := Eq.mp (if_pos c14) hS
                refine lv_iinc (v := (v1_2 + 1)) (lv' := [(2, .int (v1_2 + 1)), (1, .int v1_1), (0, .ref (ad 0))]) hx hb dX7_nextOf_62 hl (k := 0) rfl rfl (by decide) rfl (fun ls hl => ?_)
                refine lv_goto (tgt := 4) hx hb dX7_nextOf_65 (by decide) ?_
                exact ih1 (v1_2 + 1) v1_1 (hF.trans (lp_l hT1)) (hLn1 _ hT1) _ _ ls (lv_sub hl [0, 1, 2] rfl) hw
              · skip
                have hT1 := hT1.trans (if_neg c14)
                try have hS := Eq.mp (if_neg c14) hS
                refine lv_iload_n hx hb dX7_nextOf_60 rfl (lv_at hl 0 rfl) ?_
                refine lv_istore_n (lv' := [(1, .int v1_2), (2, .int v1_2), (0, .ref (ad 0))]) hx hb dX7_nextOf_61 rfl hl (by decide) rfl (fun ls hl => ?_)
                refine lv_iinc (v := (v1_2 + 1)) (lv' := [(2, .int (v1_2 + 1)), (1, .int v1_2), (0, .ref (ad 0))]) hx hb dX7_nextOf_62 hl (k := 1) rfl rfl (by decide) rfl (fun ls hl => ?_)
                refine lv_goto (tgt := 4) hx hb dX7_nextOf_65 (by decide) ?_
                exact ih1 (v1_2 + 1) v1_2 (hF.trans (lp_l hT1)) (hLn1 _ hT1) _ _ ls (lv_sub hl [0, 1, 2] rfl) hw
  exact L1 _ 0 (-1) hF hS _ _ ls (lv_sub hl [0, 1, 2] rfl) hw
theorem gy_X7_advances : gY yX7_advances RX7 cX7_advances 5 (some .int) wsX7_advances 1 := ⟨⟨_, rfl⟩, rfl, by decide +kernel, by decide +kernel, by decide +kernel⟩
def st_X7_advances_16 (v4_3 : Int32) (v4_2 : Int32) (w4 : CS) : (Int32 × Int32 × CS) ⊕ (Int32 × CS) := (if v4_3 < 0 then .inr ((v4_2, w4)) else (bnd ((F_X7_fires w4 1 v4_3).2) (fun u7 => (bnd ((F_X7_fires w4 1 v4_3).1) (fun r6 => (bnd (F_X7_sets u7 v4_3 4 1) (fun u9 => (bnd (F_X7_nextOf u9) (fun r10 => .inl (r10, (v4_2 + 1), u9))))))))))
def Sst_X7_advances_16 (v4_3 : Int32) (v4_2 : Int32) (w4 : CS) : Prop := (if v4_3 < 0 then True else (S_X7_fires w4 1 v4_3 ∧ (bnd ((F_X7_fires w4 1 v4_3).2) (fun u7 => (bnd ((F_X7_fires w4 1 v4_3).1) (fun r6 => (S_X7_sets u7 v4_3 4 1 ∧ (bnd (F_X7_sets u7 v4_3 4 1) (fun u9 => (S_X7_nextOf u9 ∧ True))))))))))
def F_X7_advances (C : CS) (q1 : Int32) : Int32 × CS := (bnd (sR C 0 (upd (C.1 0) 1418 q1)) (fun u1 => (bnd (F_X7_nextOf u1) (fun r2 => lp (fun (z : Int32 × Int32 × CS) => st_X7_advances_16 z.1 z.2.1 z.2.2) (0, C) 101 (r2, 0, u1)))))
def S_X7_advances (C : CS) (q1 : Int32) : Prop := (bnd (sR C 0 (upd (C.1 0) 1418 q1)) (fun u1 => (S_X7_nextOf u1 ∧ (bnd (F_X7_nextOf u1) (fun r2 => lpS (fun (z : Int32 × Int32 × CS) => st_X7_advances_16 z.1 z.2.1 z.2.2) (fun (z : Int32 × Int32 × CS) => Sst_X7_advances_16 z.1 z.2.1 z.2.2) 101 (r2, 0, u1))))))
abbrev rmX7_advances : Room := { frames := 4, cells := 0, slots := 0, locals := 93 }
set_option maxHeartbeats 4000000 in
set_option maxRecDepth 100000 in
theorem c_X7_advances (l : Launch) (D : va_G) (cy : Nat → ClassId) (ad : Nat → Nat) (rest : va_W) (C : CS) (q1 : Int32) (hS : S_X7_advances C q1) : GMi l yX7_advances wsX7_advances rmX7_advances D cy [.ref (ad 0), .int q1] (MW cy ad C ++ rest) (fun (r : Int32) (u : CS) => r = (F_X7_advances C q1).1 ∧ u = (F_X7_advances C q1).2) (fun u => MW cy ad u ++ rest) := by
  refine GMi.intro cX7_advances 5 RX7 (by decide) rfl rfl (Nat.le_of_ble_eq_true rfl) ?_
  intro p e s m args below meth c A Q ls X hret hl hw
  have hx := X.1
  have hb := X.2.1
  have hl : lv_has ls 5 [(0, .ref (ad 0)), (1, .int q1)] := hl
  have inX7 : ∀ w ∈ wsX70, w ∈ wsX7_advances := fun w h => List.mem_cons_of_mem _ (List.mem_append_left _ (List.mem_append_right _ h))
  obtain ⟨sp, hsp⟩ : ∃ sp, sp = F_X7_advances C q1 := ⟨_, rfl⟩
  have hF := hsp.trans (F_X7_advances.eq_1 C q1)
  have hS := Eq.mp (S_X7_advances.eq_1 C q1) hS
  refine lv_aload_n hx hb dX7_advances_0 rfl (lv_at hl 0 rfl) ?_
  refine g_get (v := .ref (ad 1)) (C := RX7) (T := TX7) (N := 16) (ci := 9) X inX7 hw 0 rfl rfl 1 (by decide) (List.mem_of_getElem? (i := 1) rfl) rfl rfl dX7_advances_1 ?_
  refine lv_sipush (v := 1418) hx hb dX7_advances_4 (by decide) ?_
  refine lv_iload_n hx hb dX7_advances_7 rfl (lv_at hl 1 rfl) ?_
  refine g_iastk (k := 1418) rfl (w' := MW cy ad (sR C 0 (upd (C.1 0) 1418 q1)) ++ rest) X hw 1 rfl (vk rfl) rfl dX7_advances_8 (fun H locs hw => ?_)
  obtain ⟨u1, hu1⟩ : ∃ z, z = sR C 0 (upd (C.1 0) 1418 q1) := ⟨_, rfl⟩
  rw [← hu1] at hw
  have hF := hF.trans (bnd_eq hu1)
  try have hS := Eq.mp (bnd_eq hu1) hS
  refine lv_iconst (v := 0) hx hb dX7_advances_9 (by decide) ?_
  refine lv_istore_n (lv' := [(2, .int 0), (0, .ref (ad 0)), (1, .int q1)]) hx hb dX7_advances_10 rfl hl (by decide) rfl (fun ls hl => ?_)
  refine lv_aload_n hx hb dX7_advances_11 rfl (lv_at hl 1 rfl) ?_
  have hSc : S_X7_nextOf u1 := hS.1
  have hS := hS.2
  refine gcV_i (rest := []) X (c_X7_nextOf l D cy ad rest u1  hSc) gy_X7_nextOf gX7_advances_X7_nextOf ⟨rfl, rfl, Nat.le_of_ble_eq_true rfl, Nat.le_of_ble_eq_true rfl⟩ 0 rfl rfl rfl hl rfl (Nat.le_of_ble_eq_true rfl) dX7_advances_12 ⟨Nat.zero_le _, Nat.zero_le _⟩ hw (fun r2 _ H locs hr2 hw => ?_)
  have hr2 : r2 = F_X7_nextOf u1 := hr2
  have hF := hF.trans (bnd_eq hr2)
  try have hS := Eq.mp (bnd_eq hr2) hS
  refine lv_istore_n (lv' := [(3, .int r2), (2, .int 0), (0, .ref (ad 0)), (1, .int q1)]) hx hb dX7_advances_15 rfl hl (by decide) rfl (fun ls hl => ?_)
  have L4 : ∀ (n4 : Nat) (v4_3 : Int32) (v4_2 : Int32) (w4 : CS), sp = lp (fun (z : Int32 × Int32 × CS) => st_X7_advances_16 z.1 z.2.1 z.2.2) (0, C) n4 (v4_3, v4_2, w4) → lpS (fun (z : Int32 × Int32 × CS) => st_X7_advances_16 z.1 z.2.1 z.2.2) (fun (z : Int32 × Int32 × CS) => Sst_X7_advances_16 z.1 z.2.1 z.2.2) n4 (v4_3, v4_2, w4) → ∀ (H : Heap) (locs : List Loc) (ls : Array Slot), lv_has ls 5 [(3, .int v4_3), (2, .int v4_2), (0, .ref (ad 0)), (1, .int q1)] → gw D A s.heap (MW cy ad w4 ++ rest) H locs → W p l e rmX7_advances s m args below meth c H locs 0 0 Q (F0 m 16 ls []) := by
    intro n4
    induction n4 with
    | zero => intro v4_3 v4_2 w4 hF hL; exact False.elim hL
    | succ n4 ih4 =>
      intro v4_3 v4_2 w4 hF hL H locs ls hl hw
      have hT4 := st_X7_advances_16.eq_1 v4_3 v4_2 w4
      have hLn4 := hL.2
      have hS := Eq.mp (Sst_X7_advances_16.eq_1 v4_3 v4_2 w4) hL.1
      refine lv_iload_n hx hb dX7_advances_16 rfl (lv_at hl 0 rfl) ?_
      refine lv_if_lt (tgt := 46) hx hb dX7_advances_17 (by decide) (fun c5 => ?_) (fun c5 => ?_)
      · skip
        have hT4 := hT4.trans (if_pos c5)
        try have hS := Eq.mp (if_pos c5) hS
        refine lv_iload_n hx hb dX7_advances_46 rfl (lv_at hl 1 rfl) ?_
        exact hret _ _ _ _ _ _ dX7_advances_47 ⟨congrArg Prod.fst ((hF.trans (lp_r hT4)).symm.trans hsp), congrArg Prod.snd ((hF.trans (lp_r hT4)).symm.trans hsp)⟩ hw
      · skip
        have hT4 := hT4.trans (if_neg c5)
        try have hS := Eq.mp (if_neg c5) hS
        refine lv_aload_n hx hb dX7_advances_20 rfl (lv_at hl 2 rfl) ?_
        refine lv_iconst (v := 1) hx hb dX7_advances_21 (by decide) ?_
        refine lv_iload_n hx hb dX7_advances_22 rfl (lv_at hl 0 rfl) ?_
        have hSc : S_X7_fires w4 1 v4_3 := hS.1
        have hS := hS.2
        refine gcV_i (rest := []) X (c_X7_fires l D cy ad rest w4 1 v4_3 hSc) gy_X7_fires gX7_advances_X7_fires ⟨rfl, rfl, Nat.le_of_ble_eq_true rfl, Nat.le_of_ble_eq_true rfl⟩ 0 rfl rfl rfl hl rfl (Nat.le_of_ble_eq_true rfl) dX7_advances_23 ⟨Nat.zero_le _, Nat.zero_le _⟩ hw (fun r6 u7 H locs hr6 hw => ?_)
        obtain ⟨hr6, hu7⟩ : r6 = (F_X7_fires w4 1 v4_3).1 ∧ u7 = (F_X7_fires w4 1 v4_3).2 := hr6
        have hT4 := hT4.trans (bnd_eq hu7)
        try have hS := Eq.mp (bnd_eq hu7) hS
        have hT4 := hT4.trans (bnd_eq hr6)
        try have hS := Eq.mp (bnd_eq hr6) hS
        refine lv_istore (lv' := [(4, .int r6), (3, .int v4_3), (2, .int v4_2), (0, .ref (ad 0)), (1, .int q1)]) hx hb dX7_advances_26 hl (by decide) rfl (fun ls hl => ?_)
        refine lv_aload_n hx hb dX7_advances_28 rfl (lv_at hl 3 rfl) ?_
        refine lv_iload_n hx hb dX7_advances_29 rfl (lv_at hl 1 rfl) ?_
        refine lv_iconst (v := 4) hx hb dX7_advances_30 (by decide) ?_
        refine lv_iconst (v := 1) hx hb dX7_advances_31 (by decide) ?_
        have hSc : S_X7_sets u7 v4_3 4 1 := hS.1
        have hS := hS.2
        refine gcV_v (rest := []) X (c_X7_sets l D cy ad rest u7 v4_3 4 1 hSc) gy_X7_sets gX7_advances_X7_sets ⟨rfl, rfl, Nat.le_of_ble_eq_true rfl, Nat.le_of_ble_eq_true rfl⟩ 0 rfl rfl rfl hl rfl (Nat.le_of_ble_eq_true rfl) dX7_advances_32 ⟨Nat.zero_le _, Nat.zero_le _⟩ hw (fun u9 H locs hu9 hw => ?_)
        have hu9 : u9 = F_X7_sets u7 v4_3 4 1 := hu9
        have hT4 := hT4.trans (bnd_eq hu9)
        try have hS := Eq.mp (bnd_eq hu9) hS
        refine lv_iinc (v := (v4_2 + 1)) (lv' := [(2, .int (v4_2 + 1)), (4, .int r6), (3, .int v4_3), (0, .ref (ad 0)), (1, .int q1)]) hx hb dX7_advances_35 hl (k := 2) rfl rfl (by decide) rfl (fun ls hl => ?_)
        refine lv_aload_n hx hb dX7_advances_38 rfl (lv_at hl 3 rfl) ?_
        have hSc : S_X7_nextOf u9 := hS.1
        have hS := hS.2
        refine gcV_i (rest := []) X (c_X7_nextOf l D cy ad rest u9  hSc) gy_X7_nextOf gX7_advances_X7_nextOf ⟨rfl, rfl, Nat.le_of_ble_eq_true rfl, Nat.le_of_ble_eq_true rfl⟩ 0 rfl rfl rfl hl rfl (Nat.le_of_ble_eq_true rfl) dX7_advances_39 ⟨Nat.zero_le _, Nat.zero_le _⟩ hw (fun r10 _ H locs hr10 hw => ?_)
        have hr10 : r10 = F_X7_nextOf u9 := hr10
        have hT4 := hT4.trans (bnd_eq hr10)
        try have hS := Eq.mp (bnd_eq hr10) hS
        refine lv_istore_n (lv' := [(3, .int r10), (2, .int (v4_2 + 1)), (4, .int r6), (0, .ref (ad 0)), (1, .int q1)]) hx hb dX7_advances_42 rfl hl (by decide) rfl (fun ls hl => ?_)
        refine lv_goto (tgt := 16) hx hb dX7_advances_43 (by decide) ?_
        exact ih4 r10 (v4_2 + 1) u9 (hF.trans (lp_l hT4)) (hLn4 _ hT4) _ _ ls (lv_sub hl [0, 1, 3, 4] rfl) hw
  exact L4 _ r2 0 u1 hF hS _ _ ls (lv_sub hl [0, 1, 2, 3] rfl) hw
theorem gy_X7_advance : gY yX7_advance RX7 cX7_advance 2 (some .int) wsX7_advance 1 := ⟨⟨_, rfl⟩, rfl, by decide +kernel, by decide +kernel, by decide +kernel⟩
def F_X7_advance (C : CS) (q1 : Int32) : Int32 × CS := (bnd (F_X7_in q1 (C.1 0 1418) 20000) (fun r1 => (if r1 = 0 then (bnd ((F_X7_fails C 1).2) (fun u5 => (bnd ((F_X7_fails C 1).1) (fun r4 => (r4, u5))))) else (bnd ((F_X7_advances C q1).2) (fun u7 => (bnd ((F_X7_advances C q1).1) (fun r6 => (bnd ((F_X7_done u7 r6).2) (fun u9 => (bnd ((F_X7_done u7 r6).1) (fun r8 => (r8, u9))))))))))))
def S_X7_advance (C : CS) (q1 : Int32) : Prop := (bnd (F_X7_in q1 (C.1 0 1418) 20000) (fun r1 => (if r1 = 0 then True else (S_X7_advances C q1 ∧ True))))
abbrev rmX7_advance : Room := { frames := 5, cells := 0, slots := 0, locals := 117 }
set_option maxHeartbeats 4000000 in
set_option maxRecDepth 100000 in
theorem c_X7_advance (l : Launch) (D : va_G) (cy : Nat → ClassId) (ad : Nat → Nat) (rest : va_W) (C : CS) (q1 : Int32) (hS : S_X7_advance C q1) : GMi l yX7_advance wsX7_advance rmX7_advance D cy [.ref (ad 0), .int q1] (MW cy ad C ++ rest) (fun (r : Int32) (u : CS) => r = (F_X7_advance C q1).1 ∧ u = (F_X7_advance C q1).2) (fun u => MW cy ad u ++ rest) := by
  refine GMi.intro cX7_advance 2 RX7 (by decide) rfl rfl (Nat.le_of_ble_eq_true rfl) ?_
  intro p e s m args below meth c A Q ls X hret hl hw
  have hx := X.1
  have hb := X.2.1
  have hl : lv_has ls 2 [(0, .ref (ad 0)), (1, .int q1)] := hl
  have inX7 : ∀ w ∈ wsX70, w ∈ wsX7_advance := fun w h => List.mem_cons_of_mem _ (List.mem_append_left _ (List.mem_append_right _ h))
  obtain ⟨sp, hsp⟩ : ∃ sp, sp = F_X7_advance C q1 := ⟨_, rfl⟩
  have hF := hsp.trans (F_X7_advance.eq_1 C q1)
  have hS := Eq.mp (S_X7_advance.eq_1 C q1) hS
  refine lv_iload_n hx hb dX7_advance_0 rfl (lv_at hl 1 rfl) ?_
  refine lv_aload_n hx hb dX7_advance_1 rfl (lv_at hl 0 rfl) ?_
  refine g_get (v := .ref (ad 1)) (C := RX7) (T := TX7) (N := 16) (ci := 9) X inX7 hw 0 rfl rfl 1 (by decide) (List.mem_of_getElem? (i := 1) rfl) rfl rfl dX7_advance_2 ?_
  refine lv_sipush (v := 1418) hx hb dX7_advance_5 (by decide) ?_
  refine g_ialdk (k := 1418) rfl X hw 1 rfl (vk rfl) dX7_advance_8 ?_
  refine lv_sipush (v := 20000) hx hb dX7_advance_9 (by decide) ?_
  refine gcS_i (rest := []) X (c_X7_in l D cy (MW cy ad C ++ rest) q1 (C.1 0 1418) 20000) gy_X7_in gX7_advance_X7_in ⟨rfl, rfl, Nat.le_of_ble_eq_true rfl, Nat.le_of_ble_eq_true rfl⟩ rfl hl rfl (Nat.le_of_ble_eq_true rfl) dX7_advance_12 ⟨Nat.zero_le _, Nat.zero_le _⟩ hw (fun r1 _ H locs hr1 hw => ?_)
  obtain ⟨hr1, zr1⟩ : r1 = F_X7_in q1 (C.1 0 1418) 20000 ∧ (r1 = 0 ∨ r1 = 1) := hr1
  have hF := hF.trans (bnd_eq hr1)
  try have hS := Eq.mp (bnd_eq hr1) hS
  refine lv_if_eq (tgt := 30) hx hb dX7_advance_15 (by decide) (fun c3 => ?_) (fun c3 => ?_)
  · skip
    have hF := hF.trans (if_pos c3)
    try have hS := Eq.mp (if_pos c3) hS
    refine lv_aload_n hx hb dX7_advance_30 rfl (lv_at hl 0 rfl) ?_
    refine lv_iconst (v := 1) hx hb dX7_advance_31 (by decide) ?_
    refine gcV_i (rest := []) X (c_X7_fails l D cy ad rest C 1) gy_X7_fails gX7_advance_X7_fails ⟨rfl, rfl, Nat.le_of_ble_eq_true rfl, Nat.le_of_ble_eq_true rfl⟩ 0 rfl rfl rfl hl rfl (Nat.le_of_ble_eq_true rfl) dX7_advance_32 ⟨Nat.zero_le _, Nat.zero_le _⟩ hw (fun r4 u5 H locs hr4 hw => ?_)
    obtain ⟨hr4, hu5⟩ : r4 = (F_X7_fails C 1).1 ∧ u5 = (F_X7_fails C 1).2 := hr4
    have hF := hF.trans (bnd_eq hu5)
    try have hS := Eq.mp (bnd_eq hu5) hS
    have hF := hF.trans (bnd_eq hr4)
    try have hS := Eq.mp (bnd_eq hr4) hS
    exact hret _ _ _ _ _ _ dX7_advance_35 ⟨congrArg Prod.fst (hF.symm.trans hsp), congrArg Prod.snd (hF.symm.trans hsp)⟩ hw
  · skip
    have hF := hF.trans (if_neg c3)
    try have hS := Eq.mp (if_neg c3) hS
    refine lv_aload_n hx hb dX7_advance_18 rfl (lv_at hl 0 rfl) ?_
    refine lv_aload_n hx hb dX7_advance_19 rfl (lv_at hl 0 rfl) ?_
    refine lv_iload_n hx hb dX7_advance_20 rfl (lv_at hl 1 rfl) ?_
    have hSc : S_X7_advances C q1 := hS.1
    have hS := hS.2
    refine gcV_i (rest := [.ref (ad 0)]) X (c_X7_advances l D cy ad rest C q1 hSc) gy_X7_advances gX7_advance_X7_advances ⟨rfl, rfl, Nat.le_of_ble_eq_true rfl, Nat.le_of_ble_eq_true rfl⟩ 0 rfl rfl rfl hl rfl (Nat.le_of_ble_eq_true rfl) dX7_advance_21 ⟨Nat.zero_le _, Nat.zero_le _⟩ hw (fun r6 u7 H locs hr6 hw => ?_)
    obtain ⟨hr6, hu7⟩ : r6 = (F_X7_advances C q1).1 ∧ u7 = (F_X7_advances C q1).2 := hr6
    have hF := hF.trans (bnd_eq hu7)
    try have hS := Eq.mp (bnd_eq hu7) hS
    have hF := hF.trans (bnd_eq hr6)
    try have hS := Eq.mp (bnd_eq hr6) hS
    refine gcV_i (rest := []) X (c_X7_done l D cy ad rest u7 r6) gy_X7_done gX7_advance_X7_done ⟨rfl, rfl, Nat.le_of_ble_eq_true rfl, Nat.le_of_ble_eq_true rfl⟩ 0 rfl rfl rfl hl rfl (Nat.le_of_ble_eq_true rfl) dX7_advance_24 ⟨Nat.zero_le _, Nat.zero_le _⟩ hw (fun r8 u9 H locs hr8 hw => ?_)
    obtain ⟨hr8, hu9⟩ : r8 = (F_X7_done u7 r6).1 ∧ u9 = (F_X7_done u7 r6).2 := hr8
    have hF := hF.trans (bnd_eq hu9)
    try have hS := Eq.mp (bnd_eq hu9) hS
    have hF := hF.trans (bnd_eq hr8)
    try have hS := Eq.mp (bnd_eq hr8) hS
    refine lv_goto (tgt := 35) hx hb dX7_advance_27 (by decide) ?_
    exact hret _ _ _ _ _ _ dX7_advance_35 ⟨congrArg Prod.fst (hF.symm.trans hsp), congrArg Prod.snd (hF.symm.trans hsp)⟩ hw
