theorem gy_X7_init : gY yX7_init RX7 cX7_init 1 none wsX7_init 0 := ⟨⟨_, rfl⟩, rfl, by decide +kernel, by decide +kernel, by decide +kernel⟩
abbrev rmX7_init : Room := { frames := 6, cells := 4, slots := 5401, locals := 200 }
def M00 : CS := (fun _ _ => 0, fun k => if k = 3 then -1 else 0, fun _ => 0)
set_option maxHeartbeats 4000000 in
set_option maxRecDepth 100000 in
theorem c_X7_init (S7_starts : S_X7_starts M00) (l : Launch) (D : va_G) (cy : Nat → ClassId) (h : Nat) (rest : va_W) : GKv l yX7_init wsX7_init rmX7_init D cy [.ref h] ((h, .inr (9, [.int 0, .null, .long 0, .null, .long 0, .null, .long 0, .int 0, .null, .int 0, .int 0, .int 0, .int 0, .int 0, .int 0, .int 0])) :: rest) (fun (b : Nat → Nat) => b 0 = h ∧ True) (fun b => MW cy b (F_X7_starts M00) ++ rest) 4 5401 := by
  refine GKv.intro cX7_init 1 RX7 (by decide) rfl rfl rfl (Nat.le_of_ble_eq_true rfl) ?_
  intro p e s m args below meth c A Q ls X hN hin hret hl hw
  have hx := X.1
  have hb := X.2.1
  have hl : lv_has ls 1 [(0, .ref h)] := hl
  have inX7 : ∀ w ∈ wsX70, w ∈ wsX7_init := fun w h => List.mem_cons_of_mem _ (List.mem_append_left _ (List.mem_append_right _ h))
  refine lv_aload_n hx hb dX7_init_0 rfl (lv_at hl 0 rfl) ?_
  refine W.objInit hx hb X.2.2.2.2.1 (X.2.2.2.2.2.1 _ (List.mem_of_getElem? (i := 1) rfl)) (X.2.2.2.2.2.1 _ (List.mem_of_getElem? (i := 2) rfl)) (X.2.2.2.2.2.1 _ (List.mem_of_getElem? (i := 3) rfl)) rfl (hl.1.trans X.2.2.2.1.symm) rfl dX7_init_1 (Nat.le_of_ble_eq_true rfl) (Nat.le_of_ble_eq_true rfl) ?_
  refine W.eq (g2 := F0 m 4 ls []) rfl ?_
  refine lv_aload_n hx hb dX7_init_4 rfl (lv_at hl 0 rfl) ?_
  refine lv_sipush (v := 1787) hx hb dX7_init_5 (by decide) ?_
  refine g_newa X 0 (ty := .int) (a0 := (1787, .inl (fun _ => 0))) (N' := 1787) rfl rfl (fun _ h => by cases h) (List.mem_of_getElem? (i := 4) rfl) hw (fun _ => rfl) (by decide) (by decide) (by decide) (Nat.le_of_ble_eq_true rfl) (Nat.le_of_ble_eq_true rfl) dX7_init_8 (fun o1 H hw => ?_)
  refine g_putF (v := .ref o1) (C := RX7) (T := TX7) (N := 16) (ci := 9) (w' := (o1, .inl (cy 0, 1787, .inl (fun _ => 0))) :: ((h, .inr (9, [.int 0, .ref o1, .long 0, .null, .long 0, .null, .long 0, .int 0, .null, .int 0, .int 0, .int 0, .int 0, .int 0, .int 0, .int 0])) :: rest)) X hin inX7 tyX7 tyX7_ok nmX7 hw 1 rfl rfl 1 (by decide) (List.mem_of_getElem? (i := 5) rfl) rfl rfl rfl rfl rfl (Nat.le_of_ble_eq_true rfl) rfl dX7_init_10 (fun H locs hw => ?_)
  refine lv_aload_n hx hb dX7_init_13 rfl (lv_at hl 0 rfl) ?_
  refine lv_sipush (v := 1787) hx hb dX7_init_14 (by decide) ?_
  refine g_newa X 0 (ty := .int) (a0 := (1787, .inl (fun _ => 0))) (N' := 1787) rfl rfl (fun _ h => by cases h) (List.mem_of_getElem? (i := 4) rfl) hw (fun _ => rfl) (by decide) (by decide) (by decide) (Nat.le_of_ble_eq_true rfl) (Nat.le_of_ble_eq_true rfl) dX7_init_17 (fun o2 H hw => ?_)
  refine g_putF (v := .ref o2) (C := RX7) (T := TX7) (N := 16) (ci := 9) (w' := (o2, .inl (cy 0, 1787, .inl (fun _ => 0))) :: ((o1, .inl (cy 0, 1787, .inl (fun _ => 0))) :: ((h, .inr (9, [.int 0, .ref o1, .long 0, .ref o2, .long 0, .null, .long 0, .int 0, .null, .int 0, .int 0, .int 0, .int 0, .int 0, .int 0, .int 0])) :: rest))) X hin inX7 tyX7 tyX7_ok nmX7 hw 2 rfl rfl 3 (by decide) (List.mem_of_getElem? (i := 6) rfl) rfl rfl rfl rfl rfl (Nat.le_of_ble_eq_true rfl) rfl dX7_init_19 (fun H locs hw => ?_)
  refine lv_aload_n hx hb dX7_init_22 rfl (lv_at hl 0 rfl) ?_
  refine lv_sipush (v := 1787) hx hb dX7_init_23 (by decide) ?_
  refine g_newa X 0 (ty := .int) (a0 := (1787, .inl (fun _ => 0))) (N' := 1787) rfl rfl (fun _ h => by cases h) (List.mem_of_getElem? (i := 4) rfl) hw (fun _ => rfl) (by decide) (by decide) (by decide) (Nat.le_of_ble_eq_true rfl) (Nat.le_of_ble_eq_true rfl) dX7_init_26 (fun o3 H hw => ?_)
  refine g_putF (v := .ref o3) (C := RX7) (T := TX7) (N := 16) (ci := 9) (w' := (o3, .inl (cy 0, 1787, .inl (fun _ => 0))) :: ((o2, .inl (cy 0, 1787, .inl (fun _ => 0))) :: ((o1, .inl (cy 0, 1787, .inl (fun _ => 0))) :: ((h, .inr (9, [.int 0, .ref o1, .long 0, .ref o2, .long 0, .ref o3, .long 0, .int 0, .null, .int 0, .int 0, .int 0, .int 0, .int 0, .int 0, .int 0])) :: rest)))) X hin inX7 tyX7 tyX7_ok nmX7 hw 3 rfl rfl 5 (by decide) (List.mem_of_getElem? (i := 7) rfl) rfl rfl rfl rfl rfl (Nat.le_of_ble_eq_true rfl) rfl dX7_init_28 (fun H locs hw => ?_)
  refine lv_aload_n hx hb dX7_init_31 rfl (lv_at hl 0 rfl) ?_
  refine lv_bipush (v := 40) hx hb dX7_init_32 (by decide) ?_
  refine g_newa X 1 (ty := .char) (a0 := (40, .inl (fun _ => 0))) (N' := 40) rfl rfl (fun _ h => by cases h) (List.mem_of_getElem? (i := 8) rfl) hw (fun _ => rfl) (by decide) (by decide) (by decide) (Nat.le_of_ble_eq_true rfl) (Nat.le_of_ble_eq_true rfl) dX7_init_34 (fun o4 H hw => ?_)
  refine g_putF (v := .ref o4) (C := RX7) (T := TX7) (N := 16) (ci := 9) (w' := (o4, .inl (cy 1, 40, .inl (fun _ => 0))) :: ((o3, .inl (cy 0, 1787, .inl (fun _ => 0))) :: ((o2, .inl (cy 0, 1787, .inl (fun _ => 0))) :: ((o1, .inl (cy 0, 1787, .inl (fun _ => 0))) :: ((h, .inr (9, [.int 0, .ref o1, .long 0, .ref o2, .long 0, .ref o3, .long 0, .int 0, .ref o4, .int 0, .int 0, .int 0, .int 0, .int 0, .int 0, .int 0])) :: rest))))) X hin inX7 tyX7 tyX7_ok nmX7 hw 4 rfl rfl 8 (by decide) (List.mem_of_getElem? (i := 9) rfl) rfl rfl rfl rfl rfl (Nat.le_of_ble_eq_true rfl) rfl dX7_init_36 (fun H locs hw => ?_)
  refine lv_aload_n hx hb dX7_init_39 rfl (lv_at hl 0 rfl) ?_
  refine lv_iconst (v := (-1)) hx hb dX7_init_40 (by decide) ?_
  refine g_put (v := .int (-1)) (C := RX7) (T := TX7) (N := 16) (ci := 9) (w' := (o4, .inl (cy 1, 40, .inl (fun _ => 0))) :: ((o3, .inl (cy 0, 1787, .inl (fun _ => 0))) :: ((o2, .inl (cy 0, 1787, .inl (fun _ => 0))) :: ((o1, .inl (cy 0, 1787, .inl (fun _ => 0))) :: ((h, .inr (9, [.int 0, .ref o1, .long 0, .ref o2, .long 0, .ref o3, .long 0, .int 0, .ref o4, .int 0, .int (-1), .int 0, .int 0, .int 0, .int 0, .int 0])) :: rest))))) X inX7 tyX7 tyX7_ok nmX7 hw 4 rfl rfl 10 (by decide) (List.mem_of_getElem? (i := 10) rfl) rfl rfl rfl rfl (Nat.le_of_ble_eq_true rfl) rfl dX7_init_41 (fun H locs hw => ?_)
  refine lv_aload_n hx hb dX7_init_44 rfl (lv_at hl 0 rfl) ?_
  have hw : gw D A s.heap ([(o4, .inl (cy 1, 40, .inl (fun _ => 0))), (o3, .inl (cy 0, 1787, .inl (fun _ => 0))), (o2, .inl (cy 0, 1787, .inl (fun _ => 0))), (o1, .inl (cy 0, 1787, .inl (fun _ => 0))), (h, .inr (9, [.int 0, .ref o1, .long 0, .ref o2, .long 0, .ref o3, .long 0, .int 0, .ref o4, .int 0, .int (-1), .int 0, .int 0, .int 0, .int 0, .int 0]))] ++ rest) H locs := hw
  have hw := gw_perm (L' := MW cy (fun k => [h, o1, o2, o3, o4].getD k 0) M00) [4, 3, 2, 1, 0] rfl rfl hw rfl
  refine gcV_v (rest := []) X (c_X7_starts l D cy (fun k => [h, o1, o2, o3, o4].getD k 0) rest M00 S7_starts) gy_X7_starts gX7_init_X7_starts ⟨rfl, rfl, Nat.le_of_ble_eq_true rfl, Nat.le_of_ble_eq_true rfl⟩ 0 rfl rfl rfl hl rfl (Nat.le_of_ble_eq_true rfl) dX7_init_45 ⟨Nat.le_of_ble_eq_true rfl, Nat.le_of_ble_eq_true rfl⟩ hw (fun u H locs hu hw => ?_)
  have hu : u = F_X7_starts M00 := hu
  rw [hu] at hw
  exact hret _ (fun k => [h, o1, o2, o3, o4].getD k 0) _ _ _ _ _ dX7_init_48 ⟨rfl, trivial⟩ hw (Nat.le_of_ble_eq_true rfl) (Nat.le_of_ble_eq_true rfl)
