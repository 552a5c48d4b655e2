theorem gy_X6_needKey : gY yX6_needKey RX6 cX6_needKey 1 none wsX6_needKey 1 := ⟨⟨_, rfl⟩, rfl, by decide +kernel, by decide +kernel, by decide +kernel⟩
def F_X6_needKey (q1 : Int32) : String ⊕ Unit := (if q1 < 0 then .inl "java/lang/IndexOutOfBoundsException" else (if q1 < 8 then .inr () else .inl "java/lang/IndexOutOfBoundsException"))
abbrev rmX6_needKey : Room := { frames := 6, cells := 1, slots := 6, locals := 200 }
set_option maxHeartbeats 4000000 in
set_option maxRecDepth 100000 in
theorem c_X6_needKey (l : Launch) (hlt : l.stackTraces = false) (D : va_G) (cy : Nat → ClassId) (ss : Nat → Nat) (ad : Nat → Nat) (rest : va_W) (C : CS) (q1 : Int32) : GXv l yX6_needKey wsX6_needKey rmX6_needKey D cy ss [.int q1] (CW cy ad C ++ rest) (fun (_ : Unit) => F_X6_needKey q1 = .inr ()) (fun _ => CW cy ad C ++ rest) (fun (E : String) (_ : Unit) => F_X6_needKey q1 = .inl E ∧ E ∈ (["java/lang/IndexOutOfBoundsException"] : List String)) 1 6 := by
  refine GXv.intro cX6_needKey 1 RX6 (by decide) rfl rfl (Nat.le_of_ble_eq_true rfl) ?_
  intro p e s m args below meth c A Q ls X hE hnt hret hthr hprop hl hw
  have hx := X.1
  have hb := X.2.1
  have hl : lv_has ls 1 [(0, .int q1)] := hl
  obtain ⟨sp, hsp⟩ : ∃ sp, sp = F_X6_needKey q1 := ⟨_, rfl⟩
  have hF := hsp.trans (F_X6_needKey.eq_1 q1)
  refine lv_iload_n hx hb dX6_needKey_0 rfl (lv_at hl 0 rfl) ?_
  refine lv_if_lt (tgt := 10) hx hb dX6_needKey_1 (by decide) (fun c1 => ?_) (fun c1 => ?_)
  · skip
    have hF := hF.trans (if_pos c1)
    exact hthr _ _ () _ _ _ _ _ _ (fun Qc XC mc ms free hxx hff hcc hss => vx_throwSW (A := A) hx hb hlt X.2.2.2.2.1 (by decide +kernel) (by decide +kernel) (X.2.2.2.2.2.1 _ (List.mem_of_getElem? (i := 1) rfl)) (X.2.2.2.2.2.1 _ (List.mem_of_getElem? (i := 2) rfl)) hE.2.2.1.1 (vx_hat (fun w h => X.2.2.2.2.2.1 w (List.mem_cons_of_mem _ (List.mem_append_right _ h))) ax_206 (gBIO_of hE.2.2.2)) ax_206g hE.1 hE.2.1 hw.2.2 (hl.1.trans X.2.2.2.1.symm) dX6_needKey_10 dX6_needKey_13 dX6_needKey_14 dX6_needKey_17 dX6_needKey_20 (fun x hx => (hnt x hx).elim) (Nat.le_of_ble_eq_true rfl) (Nat.le_of_ble_eq_true rfl) (Nat.le_of_ble_eq_true rfl) (Nat.le_of_ble_eq_true rfl) X.2.2.1 hxx hff hcc hss) ⟨hsp.symm.trans hF, (List.mem_of_getElem? (i := 0) rfl)⟩ hw (Nat.le_of_ble_eq_true rfl) (Nat.le_of_ble_eq_true rfl)
  · skip
    have hF := hF.trans (if_neg c1)
    refine lv_iload_n hx hb dX6_needKey_4 rfl (lv_at hl 0 rfl) ?_
    refine lv_bipush (v := 8) hx hb dX6_needKey_5 (by decide) ?_
    refine lv_icmp_lt (tgt := 21) hx hb dX6_needKey_7 (by decide) (fun c2 => ?_) (fun c2 => ?_)
    · skip
      have hF := hF.trans (if_pos c2)
      exact hret _ () _ _ _ _ _ dX6_needKey_21 (hsp.symm.trans hF) hw (Nat.le_of_ble_eq_true rfl) (Nat.le_of_ble_eq_true rfl)
    · skip
      have hF := hF.trans (if_neg c2)
      exact hthr _ _ () _ _ _ _ _ _ (fun Qc XC mc ms free hxx hff hcc hss => vx_throwSW (A := A) hx hb hlt X.2.2.2.2.1 (by decide +kernel) (by decide +kernel) (X.2.2.2.2.2.1 _ (List.mem_of_getElem? (i := 1) rfl)) (X.2.2.2.2.2.1 _ (List.mem_of_getElem? (i := 2) rfl)) hE.2.2.1.1 (vx_hat (fun w h => X.2.2.2.2.2.1 w (List.mem_cons_of_mem _ (List.mem_append_right _ h))) ax_206 (gBIO_of hE.2.2.2)) ax_206g hE.1 hE.2.1 hw.2.2 (hl.1.trans X.2.2.2.1.symm) dX6_needKey_10 dX6_needKey_13 dX6_needKey_14 dX6_needKey_17 dX6_needKey_20 (fun x hx => (hnt x hx).elim) (Nat.le_of_ble_eq_true rfl) (Nat.le_of_ble_eq_true rfl) (Nat.le_of_ble_eq_true rfl) (Nat.le_of_ble_eq_true rfl) X.2.2.1 hxx hff hcc hss) ⟨hsp.symm.trans hF, (List.mem_of_getElem? (i := 0) rfl)⟩ hw (Nat.le_of_ble_eq_true rfl) (Nat.le_of_ble_eq_true rfl)
theorem gy_X6_needWithin : gY yX6_needWithin RX6 cX6_needWithin 3 none wsX6_needWithin 3 := ⟨⟨_, rfl⟩, rfl, by decide +kernel, by decide +kernel, by decide +kernel⟩
def F_X6_needWithin (q1 : Int32) (q2 : Int32) (q3 : Int32) : String ⊕ Unit := (if q1 < q2 then .inl "java/lang/IllegalArgumentException" else (if q1 ≤ q3 then .inr () else .inl "java/lang/IllegalArgumentException"))
abbrev rmX6_needWithin : Room := { frames := 6, cells := 1, slots := 6, locals := 200 }
set_option maxHeartbeats 4000000 in
set_option maxRecDepth 100000 in
theorem c_X6_needWithin (l : Launch) (hlt : l.stackTraces = false) (D : va_G) (cy : Nat → ClassId) (ss : Nat → Nat) (ad : Nat → Nat) (rest : va_W) (C : CS) (q1 : Int32) (q2 : Int32) (q3 : Int32) : GXv l yX6_needWithin wsX6_needWithin rmX6_needWithin D cy ss [.int q1, .int q2, .int q3] (CW cy ad C ++ rest) (fun (_ : Unit) => F_X6_needWithin q1 q2 q3 = .inr ()) (fun _ => CW cy ad C ++ rest) (fun (E : String) (_ : Unit) => F_X6_needWithin q1 q2 q3 = .inl E ∧ E ∈ (["java/lang/IllegalArgumentException"] : List String)) 1 6 := by
  refine GXv.intro cX6_needWithin 3 RX6 (by decide) rfl rfl (Nat.le_of_ble_eq_true rfl) ?_
  intro p e s m args below meth c A Q ls X hE hnt hret hthr hprop hl hw
  have hx := X.1
  have hb := X.2.1
  have hl : lv_has ls 3 [(0, .int q1), (1, .int q2), (2, .int q3)] := hl
  obtain ⟨sp, hsp⟩ : ∃ sp, sp = F_X6_needWithin q1 q2 q3 := ⟨_, rfl⟩
  have hF := hsp.trans (F_X6_needWithin.eq_1 q1 q2 q3)
  refine lv_iload_n hx hb dX6_needWithin_0 rfl (lv_at hl 0 rfl) ?_
  refine lv_iload_n hx hb dX6_needWithin_1 rfl (lv_at hl 1 rfl) ?_
  refine lv_icmp_lt (tgt := 10) hx hb dX6_needWithin_2 (by decide) (fun c1 => ?_) (fun c1 => ?_)
  · skip
    have hF := hF.trans (if_pos c1)
    exact hthr _ _ () _ _ _ _ _ _ (fun Qc XC mc ms free hxx hff hcc hss => vx_throwSW (A := A) hx hb hlt X.2.2.2.2.1 (by decide +kernel) (by decide +kernel) (X.2.2.2.2.2.1 _ (List.mem_of_getElem? (i := 1) rfl)) (X.2.2.2.2.2.1 _ (List.mem_of_getElem? (i := 2) rfl)) hE.2.2.1.2.1 (vx_hat (fun w h => X.2.2.2.2.2.1 w (List.mem_cons_of_mem _ (List.mem_append_right _ h))) ax_240 (gBIA_of hE.2.2.2)) ax_240g hE.1 hE.2.1 hw.2.2 (hl.1.trans X.2.2.2.1.symm) dX6_needWithin_10 dX6_needWithin_13 dX6_needWithin_14 dX6_needWithin_17 dX6_needWithin_20 (fun x hx => (hnt x hx).elim) (Nat.le_of_ble_eq_true rfl) (Nat.le_of_ble_eq_true rfl) (Nat.le_of_ble_eq_true rfl) (Nat.le_of_ble_eq_true rfl) X.2.2.1 hxx hff hcc hss) ⟨hsp.symm.trans hF, (List.mem_of_getElem? (i := 0) rfl)⟩ hw (Nat.le_of_ble_eq_true rfl) (Nat.le_of_ble_eq_true rfl)
  · skip
    have hF := hF.trans (if_neg c1)
    refine lv_iload_n hx hb dX6_needWithin_5 rfl (lv_at hl 0 rfl) ?_
    refine lv_iload_n hx hb dX6_needWithin_6 rfl (lv_at hl 2 rfl) ?_
    refine lv_icmp_le (tgt := 21) hx hb dX6_needWithin_7 (by decide) (fun c2 => ?_) (fun c2 => ?_)
    · skip
      have hF := hF.trans (if_pos c2)
      exact hret _ () _ _ _ _ _ dX6_needWithin_21 (hsp.symm.trans hF) hw (Nat.le_of_ble_eq_true rfl) (Nat.le_of_ble_eq_true rfl)
    · skip
      have hF := hF.trans (if_neg c2)
      exact hthr _ _ () _ _ _ _ _ _ (fun Qc XC mc ms free hxx hff hcc hss => vx_throwSW (A := A) hx hb hlt X.2.2.2.2.1 (by decide +kernel) (by decide +kernel) (X.2.2.2.2.2.1 _ (List.mem_of_getElem? (i := 1) rfl)) (X.2.2.2.2.2.1 _ (List.mem_of_getElem? (i := 2) rfl)) hE.2.2.1.2.1 (vx_hat (fun w h => X.2.2.2.2.2.1 w (List.mem_cons_of_mem _ (List.mem_append_right _ h))) ax_240 (gBIA_of hE.2.2.2)) ax_240g hE.1 hE.2.1 hw.2.2 (hl.1.trans X.2.2.2.1.symm) dX6_needWithin_10 dX6_needWithin_13 dX6_needWithin_14 dX6_needWithin_17 dX6_needWithin_20 (fun x hx => (hnt x hx).elim) (Nat.le_of_ble_eq_true rfl) (Nat.le_of_ble_eq_true rfl) (Nat.le_of_ble_eq_true rfl) (Nat.le_of_ble_eq_true rfl) X.2.2.1 hxx hff hcc hss) ⟨hsp.symm.trans hF, (List.mem_of_getElem? (i := 0) rfl)⟩ hw (Nat.le_of_ble_eq_true rfl) (Nat.le_of_ble_eq_true rfl)
theorem gy_X6_needFound : gY yX6_needFound RX6 cX6_needFound 1 (some .int) wsX6_needFound 1 := ⟨⟨_, rfl⟩, rfl, by decide +kernel, by decide +kernel, by decide +kernel⟩
def F_X6_needFound (q1 : Int32) : String ⊕ Int32 := (if q1 = (-1) then .inl "java/util/NoSuchElementException" else .inr q1)
abbrev rmX6_needFound : Room := { frames := 6, cells := 1, slots := 6, locals := 200 }
set_option maxHeartbeats 4000000 in
set_option maxRecDepth 100000 in
theorem c_X6_needFound (l : Launch) (hlt : l.stackTraces = false) (D : va_G) (cy : Nat → ClassId) (ss : Nat → Nat) (ad : Nat → Nat) (rest : va_W) (C : CS) (q1 : Int32) : GXi l yX6_needFound wsX6_needFound rmX6_needFound D cy ss [.int q1] (CW cy ad C ++ rest) (fun (r : Int32) (_ : Unit) => F_X6_needFound q1 = .inr r) (fun _ => CW cy ad C ++ rest) (fun (E : String) (_ : Unit) => F_X6_needFound q1 = .inl E ∧ E ∈ (["java/util/NoSuchElementException"] : List String)) 1 6 := by
  refine GXi.intro cX6_needFound 1 RX6 (by decide) rfl rfl (Nat.le_of_ble_eq_true rfl) ?_
  intro p e s m args below meth c A Q ls X hE hnt hret hthr hprop hl hw
  have hx := X.1
  have hb := X.2.1
  have hl : lv_has ls 1 [(0, .int q1)] := hl
  obtain ⟨sp, hsp⟩ : ∃ sp, sp = F_X6_needFound q1 := ⟨_, rfl⟩
  have hF := hsp.trans (F_X6_needFound.eq_1 q1)
  refine lv_iload_n hx hb dX6_needFound_0 rfl (lv_at hl 0 rfl) ?_
  refine lv_iconst (v := (-1)) hx hb dX6_needFound_1 (by decide) ?_
  refine lv_icmp_ne (tgt := 16) hx hb dX6_needFound_2 (by decide) (fun c1 => ?_) (fun c1 => ?_)
  · skip
    have hF := hF.trans (if_neg c1)
    refine lv_iload_n hx hb dX6_needFound_16 rfl (lv_at hl 0 rfl) ?_
    exact hret _ _ () _ _ _ _ _ dX6_needFound_17 (hsp.symm.trans hF) hw (Nat.le_of_ble_eq_true rfl) (Nat.le_of_ble_eq_true rfl)
  · skip
    have hF := hF.trans (if_pos c1)
    exact hthr _ _ () _ _ _ _ _ _ (fun Qc XC mc ms free hxx hff hcc hss => ne_throwSW (A := A) hx hb hlt X.2.2.2.2.1 (by decide +kernel) (by decide +kernel) (X.2.2.2.2.2.1 _ (List.mem_of_getElem? (i := 1) rfl)) (X.2.2.2.2.2.1 _ (List.mem_of_getElem? (i := 2) rfl)) hE.2.2.1.2.2.2.2.1 (vx_hat (fun w h => X.2.2.2.2.2.1 w (List.mem_cons_of_mem _ (List.mem_append_right _ h))) ax_267 (gBNS_of hE.2.2.2)) ax_267g hE.1 hE.2.1 hw.2.2 (hl.1.trans X.2.2.2.1.symm) dX6_needFound_5 dX6_needFound_8 dX6_needFound_9 dX6_needFound_12 dX6_needFound_15 (fun x hx => (hnt x hx).elim) (Nat.le_of_ble_eq_true rfl) (Nat.le_of_ble_eq_true rfl) (Nat.le_of_ble_eq_true rfl) (Nat.le_of_ble_eq_true rfl) X.2.2.1 hxx hff hcc hss) ⟨hsp.symm.trans hF, (List.mem_of_getElem? (i := 0) rfl)⟩ hw (Nat.le_of_ble_eq_true rfl) (Nat.le_of_ble_eq_true rfl)
theorem gy_X6_needBurst : gY yX6_needBurst RX6 cX6_needBurst 2 none wsX6_needBurst 1 := ⟨⟨_, rfl⟩, rfl, by decide +kernel, by decide +kernel, by decide +kernel⟩
def F_X6_needBurst (C : CS) (q1 : Int32) : String ⊕ Unit := (bnd (F_X0_stands C q1) (fun r1 => (if r1 = 0 then .inl "java/lang/IndexOutOfBoundsException" else .inr ())))
abbrev rmX6_needBurst : Room := { frames := 6, cells := 1, slots := 6, locals := 200 }
set_option maxHeartbeats 4000000 in
set_option maxRecDepth 100000 in
theorem c_X6_needBurst (l : Launch) (hlt : l.stackTraces = false) (D : va_G) (cy : Nat → ClassId) (ss : Nat → Nat) (ad : Nat → Nat) (rest : va_W) (C : CS) (q1 : Int32) : GXv l yX6_needBurst wsX6_needBurst rmX6_needBurst D cy ss [.ref (ad 92), .int q1] (CW cy ad C ++ rest) (fun (_ : Unit) => F_X6_needBurst C q1 = .inr ()) (fun _ => CW cy ad C ++ rest) (fun (E : String) (_ : Unit) => F_X6_needBurst C q1 = .inl E ∧ E ∈ (["java/lang/IndexOutOfBoundsException"] : List String)) 1 6 := by
  refine GXv.intro cX6_needBurst 2 RX6 (by decide) rfl rfl (Nat.le_of_ble_eq_true rfl) ?_
  intro p e s m args below meth c A Q ls X hE hnt hret hthr hprop hl hw
  have hx := X.1
  have hb := X.2.1
  have hl : lv_has ls 2 [(0, .ref (ad 92)), (1, .int q1)] := hl
  have inX1 : ∀ w ∈ wsX10, w ∈ wsX6_needBurst := fun w h => List.mem_cons_of_mem _ (List.mem_append_left _ (List.mem_append_left _ (List.mem_append_left _ (List.mem_append_left _ (List.mem_append_right _ h)))))
  have inX6 : ∀ w ∈ wsX60, w ∈ wsX6_needBurst := fun w h => List.mem_cons_of_mem _ (List.mem_append_left _ (List.mem_append_left _ (List.mem_append_left _ (List.mem_append_left _ (List.mem_append_left _ (List.mem_append_right _ h))))))
  obtain ⟨sp, hsp⟩ : ∃ sp, sp = F_X6_needBurst C q1 := ⟨_, rfl⟩
  have hF := hsp.trans (F_X6_needBurst.eq_1 C q1)
  refine lv_aload_n hx hb dX6_needBurst_0 rfl (lv_at hl 0 rfl) ?_
  refine g_get (v := .ref (ad 93)) (C := RX6) (T := TX6) (N := 5) (ci := 8) X inX6 hw 92 rfl rfl 0 (by decide) (List.mem_of_getElem? (i := 3) rfl) rfl rfl dX6_needBurst_1 ?_
  refine g_get (v := .ref (ad 95)) (C := RX1) (T := TX1) (N := 10) (ci := 3) X inX1 hw 93 rfl rfl 3 (by decide) (List.mem_of_getElem? (i := 4) rfl) rfl rfl dX6_needBurst_4 ?_
  refine lv_iload_n hx hb dX6_needBurst_7 rfl (lv_at hl 1 rfl) ?_
  refine gcV_i (rest := []) X (c_X0_stands l D cy ad rest C q1) gy_X0_stands gX6_needBurst_X0_stands ⟨rfl, rfl, Nat.le_of_ble_eq_true rfl, Nat.le_of_ble_eq_true rfl⟩ 95 rfl rfl rfl hl rfl (Nat.le_of_ble_eq_true rfl) dX6_needBurst_8 ⟨Nat.le_of_ble_eq_true rfl, Nat.le_of_ble_eq_true rfl⟩ hw (fun r1 _ H locs hr1 hw => ?_)
  obtain ⟨hr1, zr1⟩ : r1 = F_X0_stands C q1 ∧ (r1 = 0 ∨ r1 = 1) := hr1
  have hF := hF.trans (bnd_eq hr1)
  refine lv_if_ne (tgt := 25) hx hb dX6_needBurst_11 (by decide) (fun c3 => ?_) (fun c3 => ?_)
  · skip
    have hF := hF.trans (if_neg c3)
    exact hret _ () _ _ _ _ _ dX6_needBurst_25 (hsp.symm.trans hF) hw (Nat.le_of_ble_eq_true rfl) (Nat.le_of_ble_eq_true rfl)
  · skip
    have hF := hF.trans (if_pos c3)
    exact hthr _ _ () _ _ _ _ _ _ (fun Qc XC mc ms free hxx hff hcc hss => vx_throwSW (A := A) hx hb hlt X.2.2.2.2.1 (by decide +kernel) (by decide +kernel) (X.2.2.2.2.2.1 _ (List.mem_of_getElem? (i := 1) rfl)) (X.2.2.2.2.2.1 _ (List.mem_of_getElem? (i := 2) rfl)) hE.2.2.1.2.2.2.1 (vx_hat (fun w h => X.2.2.2.2.2.1 w (List.mem_cons_of_mem _ (List.mem_append_left _ (List.mem_append_right _ h)))) ax_206 (gBIO_of hE.2.2.2)) ax_206g hE.1 hE.2.1 hw.2.2 (hl.1.trans X.2.2.2.1.symm) dX6_needBurst_14 dX6_needBurst_17 dX6_needBurst_18 dX6_needBurst_21 dX6_needBurst_24 (fun x hx => (hnt x hx).elim) (Nat.le_of_ble_eq_true rfl) (Nat.le_of_ble_eq_true rfl) (Nat.le_of_ble_eq_true rfl) (Nat.le_of_ble_eq_true rfl) X.2.2.1 hxx hff hcc hss) ⟨hsp.symm.trans hF, (List.mem_of_getElem? (i := 0) rfl)⟩ hw (Nat.le_of_ble_eq_true rfl) (Nat.le_of_ble_eq_true rfl)
theorem gy_X6_needOpen : gY yX6_needOpen RX6 cX6_needOpen 2 none wsX6_needOpen 1 := ⟨⟨_, rfl⟩, rfl, by decide +kernel, by decide +kernel, by decide +kernel⟩
def F_X6_needOpen (C : CS) (q1 : Int32) : String ⊕ Unit := (bnd (F_X0_isOpen C q1) (fun r1 => (if r1 = 0 then .inl "java/lang/IllegalStateException" else .inr ())))
abbrev rmX6_needOpen : Room := { frames := 6, cells := 1, slots := 6, locals := 200 }
set_option maxHeartbeats 4000000 in
set_option maxRecDepth 100000 in
theorem c_X6_needOpen (l : Launch) (hlt : l.stackTraces = false) (D : va_G) (cy : Nat → ClassId) (ss : Nat → Nat) (ad : Nat → Nat) (rest : va_W) (C : CS) (q1 : Int32) : GXv l yX6_needOpen wsX6_needOpen rmX6_needOpen D cy ss [.ref (ad 92), .int q1] (CW cy ad C ++ rest) (fun (_ : Unit) => F_X6_needOpen C q1 = .inr ()) (fun _ => CW cy ad C ++ rest) (fun (E : String) (_ : Unit) => F_X6_needOpen C q1 = .inl E ∧ E ∈ (["java/lang/IllegalStateException"] : List String)) 1 6 := by
  refine GXv.intro cX6_needOpen 2 RX6 (by decide) rfl rfl (Nat.le_of_ble_eq_true rfl) ?_
  intro p e s m args below meth c A Q ls X hE hnt hret hthr hprop hl hw
  have hx := X.1
  have hb := X.2.1
  have hl : lv_has ls 2 [(0, .ref (ad 92)), (1, .int q1)] := hl
  have inX1 : ∀ w ∈ wsX10, w ∈ wsX6_needOpen := fun w h => List.mem_cons_of_mem _ (List.mem_append_left _ (List.mem_append_left _ (List.mem_append_left _ (List.mem_append_left _ (List.mem_append_right _ h)))))
  have inX6 : ∀ w ∈ wsX60, w ∈ wsX6_needOpen := fun w h => List.mem_cons_of_mem _ (List.mem_append_left _ (List.mem_append_left _ (List.mem_append_left _ (List.mem_append_left _ (List.mem_append_left _ (List.mem_append_right _ h))))))
  obtain ⟨sp, hsp⟩ : ∃ sp, sp = F_X6_needOpen C q1 := ⟨_, rfl⟩
  have hF := hsp.trans (F_X6_needOpen.eq_1 C q1)
  refine lv_aload_n hx hb dX6_needOpen_0 rfl (lv_at hl 0 rfl) ?_
  refine g_get (v := .ref (ad 93)) (C := RX6) (T := TX6) (N := 5) (ci := 8) X inX6 hw 92 rfl rfl 0 (by decide) (List.mem_of_getElem? (i := 3) rfl) rfl rfl dX6_needOpen_1 ?_
  refine g_get (v := .ref (ad 95)) (C := RX1) (T := TX1) (N := 10) (ci := 3) X inX1 hw 93 rfl rfl 3 (by decide) (List.mem_of_getElem? (i := 4) rfl) rfl rfl dX6_needOpen_4 ?_
  refine lv_iload_n hx hb dX6_needOpen_7 rfl (lv_at hl 1 rfl) ?_
  refine gcV_i (rest := []) X (c_X0_isOpen l D cy ad rest C q1) gy_X0_isOpen gX6_needOpen_X0_isOpen ⟨rfl, rfl, Nat.le_of_ble_eq_true rfl, Nat.le_of_ble_eq_true rfl⟩ 95 rfl rfl rfl hl rfl (Nat.le_of_ble_eq_true rfl) dX6_needOpen_8 ⟨Nat.le_of_ble_eq_true rfl, Nat.le_of_ble_eq_true rfl⟩ hw (fun r1 _ H locs hr1 hw => ?_)
  obtain ⟨hr1, zr1⟩ : r1 = F_X0_isOpen C q1 ∧ (r1 = 0 ∨ r1 = 1) := hr1
  have hF := hF.trans (bnd_eq hr1)
  refine lv_if_ne (tgt := 25) hx hb dX6_needOpen_11 (by decide) (fun c3 => ?_) (fun c3 => ?_)
  · skip
    have hF := hF.trans (if_neg c3)
    exact hret _ () _ _ _ _ _ dX6_needOpen_25 (hsp.symm.trans hF) hw (Nat.le_of_ble_eq_true rfl) (Nat.le_of_ble_eq_true rfl)
  · skip
    have hF := hF.trans (if_pos c3)
    exact hthr _ _ () _ _ _ _ _ _ (fun Qc XC mc ms free hxx hff hcc hss => vx_throwSW (A := A) hx hb hlt X.2.2.2.2.1 (by decide +kernel) (by decide +kernel) (X.2.2.2.2.2.1 _ (List.mem_of_getElem? (i := 1) rfl)) (X.2.2.2.2.2.1 _ (List.mem_of_getElem? (i := 2) rfl)) hE.2.2.1.2.2.2.2.2.1 (vx_hat (fun w h => X.2.2.2.2.2.1 w (List.mem_cons_of_mem _ (List.mem_append_left _ (List.mem_append_right _ h)))) ax_88 (gBIS_of hE.2.2.2)) ax_88g hE.1 hE.2.1 hw.2.2 (hl.1.trans X.2.2.2.1.symm) dX6_needOpen_14 dX6_needOpen_17 dX6_needOpen_18 dX6_needOpen_21 dX6_needOpen_24 (fun x hx => (hnt x hx).elim) (Nat.le_of_ble_eq_true rfl) (Nat.le_of_ble_eq_true rfl) (Nat.le_of_ble_eq_true rfl) (Nat.le_of_ble_eq_true rfl) X.2.2.1 hxx hff hcc hss) ⟨hsp.symm.trans hF, (List.mem_of_getElem? (i := 0) rfl)⟩ hw (Nat.le_of_ble_eq_true rfl) (Nat.le_of_ble_eq_true rfl)
theorem gy_X6_setGap : gY yX6_setGap RX6 cX6_setGap 4 (some .int) wsX6_setGap 2 := ⟨⟨_, rfl⟩, rfl, by decide +kernel, by decide +kernel, by decide +kernel⟩
def F_X6_setGap (C : CS) (q1 : Int32) (q2 : Int32) : (String ⊕ Int32) × CS := (xbw C (F_X6_needKey q1) (fun _ => (xbw C (F_X6_needWithin q2 1 50) (fun _ => (bnd (rAt 8 (C.1 0) q1) (fun r3 => (bnd (sR C 0 (rPut 8 (C.1 0) q1 q2)) (fun u6 => (.inr r3, u6)))))))))
abbrev rmX6_setGap : Room := { frames := 7, cells := 2, slots := 12, locals := 222 }
set_option maxHeartbeats 4000000 in
set_option maxRecDepth 100000 in
theorem c_X6_setGap (l : Launch) (hlt : l.stackTraces = false) (D : va_G) (cy : Nat → ClassId) (ss : Nat → Nat) (ad : Nat → Nat) (rest : va_W) (C : CS) (q1 : Int32) (q2 : Int32) : GXi l yX6_setGap wsX6_setGap rmX6_setGap D cy ss [.ref (ad 92), .int q1, .int q2] (CW cy ad C ++ rest) (fun (r : Int32) (u : CS) => F_X6_setGap C q1 q2 = (.inr r, u)) (fun u => CW cy ad u ++ rest) (fun (E : String) (u : CS) => F_X6_setGap C q1 q2 = (.inl E, u) ∧ E ∈ (["java/lang/IndexOutOfBoundsException", "java/lang/IllegalArgumentException"] : List String)) 2 12 := by
  refine GXi.intro cX6_setGap 4 RX6 (by decide) rfl rfl (Nat.le_of_ble_eq_true rfl) ?_
  intro p e s m args below meth c A Q ls X hE hnt hret hthr hprop hl hw
  have hx := X.1
  have hb := X.2.1
  have hl : lv_has ls 4 [(0, .ref (ad 92)), (1, .int q1), (2, .int q2)] := hl
  have inX1 : ∀ w ∈ wsX10, w ∈ wsX6_setGap := fun w h => List.mem_cons_of_mem _ (List.mem_append_left _ (List.mem_append_left _ (List.mem_append_left _ (List.mem_append_left _ (List.mem_append_right _ h)))))
  have inX6 : ∀ w ∈ wsX60, w ∈ wsX6_setGap := fun w h => List.mem_cons_of_mem _ (List.mem_append_left _ (List.mem_append_left _ (List.mem_append_left _ (List.mem_append_left _ (List.mem_append_left _ (List.mem_append_right _ h))))))
  obtain ⟨sp, hsp⟩ : ∃ sp, sp = F_X6_setGap C q1 q2 := ⟨_, rfl⟩
  have hF := hsp.trans (F_X6_setGap.eq_1 C q1 q2)
  refine lv_iload_n hx hb dX6_setGap_0 rfl (lv_at hl 1 rfl) ?_
  refine gxS_v (rest := []) X hE (c_X6_needKey l hlt D cy ss ad rest C q1) gy_X6_needKey gX6_setGap_X6_needKey ⟨rfl, rfl, Nat.le_of_ble_eq_true rfl, Nat.le_of_ble_eq_true rfl⟩ rfl hl rfl (Nat.le_of_ble_eq_true rfl) dX6_setGap_1 ⟨Nat.le_of_ble_eq_true rfl, Nat.le_of_ble_eq_true rfl⟩ hw (fun E ce q9 _ H locs hp hw h1 h2 h3 => hprop _ E ce q9 C _ _ _ _ _ _ h1 h2 h3 ⟨hsp.symm.trans (hF.trans (xbw_l hp.1)), (by rw [List.mem_singleton.mp hp.2]; exact (List.mem_of_getElem? (i := 0) rfl))⟩ hw (Nat.le_of_ble_eq_true rfl) (Nat.le_of_ble_eq_true rfl)) (fun _ H locs hr1 hw => ?_)
  have hr1 : F_X6_needKey q1 = .inr () := hr1
  have hF := hF.trans (xbw_r hr1)
  refine lv_iload_n hx hb dX6_setGap_4 rfl (lv_at hl 2 rfl) ?_
  refine lv_iconst (v := 1) hx hb dX6_setGap_5 (by decide) ?_
  refine lv_bipush (v := 50) hx hb dX6_setGap_6 (by decide) ?_
  refine gxS_v (rest := []) X hE (c_X6_needWithin l hlt D cy ss ad rest C q2 1 50) gy_X6_needWithin gX6_setGap_X6_needWithin ⟨rfl, rfl, Nat.le_of_ble_eq_true rfl, Nat.le_of_ble_eq_true rfl⟩ rfl hl rfl (Nat.le_of_ble_eq_true rfl) dX6_setGap_8 ⟨Nat.le_of_ble_eq_true rfl, Nat.le_of_ble_eq_true rfl⟩ hw (fun E ce q9 _ H locs hp hw h1 h2 h3 => hprop _ E ce q9 C _ _ _ _ _ _ h1 h2 h3 ⟨hsp.symm.trans (hF.trans (xbw_l hp.1)), (by rw [List.mem_singleton.mp hp.2]; exact (List.mem_of_getElem? (i := 1) rfl))⟩ hw (Nat.le_of_ble_eq_true rfl) (Nat.le_of_ble_eq_true rfl)) (fun _ H locs hr2 hw => ?_)
  have hr2 : F_X6_needWithin q2 1 50 = .inr () := hr2
  have hF := hF.trans (xbw_r hr2)
  refine lv_aload_n hx hb dX6_setGap_11 rfl (lv_at hl 0 rfl) ?_
  refine g_get (v := .ref (ad 93)) (C := RX6) (T := TX6) (N := 5) (ci := 8) X inX6 hw 92 rfl rfl 0 (by decide) (List.mem_of_getElem? (i := 1) rfl) rfl rfl dX6_setGap_12 ?_
  refine g_get (v := .ref (ad 0)) (C := RX1) (T := TX1) (N := 10) (ci := 3) X inX1 hw 93 rfl rfl 0 (by decide) (List.mem_of_getElem? (i := 2) rfl) rfl rfl dX6_setGap_15 ?_
  refine lv_iload_n hx hb dX6_setGap_18 rfl (lv_at hl 1 rfl) ?_
  refine gcV_i (rest := []) X (cR_at l D cy ad rest C 0 (by decide) q1) gy_X4_at gX6_setGap_X4_at ⟨rfl, rfl, Nat.le_of_ble_eq_true rfl, Nat.le_of_ble_eq_true rfl⟩ 0 rfl rfl rfl hl rfl (Nat.le_of_ble_eq_true rfl) dX6_setGap_19 ⟨Nat.le_of_ble_eq_true rfl, Nat.le_of_ble_eq_true rfl⟩ hw (fun r3 _ H locs hr3 hw => ?_)
  have hr3 : r3 = rAt 8 (C.1 0) q1 := hr3
  have hF := hF.trans (bnd_eq hr3)
  refine lv_istore_n (lv' := [(3, .int r3), (0, .ref (ad 92)), (1, .int q1), (2, .int q2)]) hx hb dX6_setGap_22 rfl hl (by decide) rfl (fun ls hl => ?_)
  refine lv_aload_n hx hb dX6_setGap_23 rfl (lv_at hl 1 rfl) ?_
  refine g_get (v := .ref (ad 93)) (C := RX6) (T := TX6) (N := 5) (ci := 8) X inX6 hw 92 rfl rfl 0 (by decide) (List.mem_of_getElem? (i := 1) rfl) rfl rfl dX6_setGap_24 ?_
  refine g_get (v := .ref (ad 0)) (C := RX1) (T := TX1) (N := 10) (ci := 3) X inX1 hw 93 rfl rfl 0 (by decide) (List.mem_of_getElem? (i := 2) rfl) rfl rfl dX6_setGap_27 ?_
  refine lv_iload_n hx hb dX6_setGap_30 rfl (lv_at hl 2 rfl) ?_
  refine lv_iload_n hx hb dX6_setGap_31 rfl (lv_at hl 3 rfl) ?_
  refine gcV_v (rest := []) X (cR_put l D cy ad rest C 0 (by decide) q1 q2) gy_X4_put gX6_setGap_X4_put ⟨rfl, rfl, Nat.le_of_ble_eq_true rfl, Nat.le_of_ble_eq_true rfl⟩ 0 rfl rfl rfl hl rfl (Nat.le_of_ble_eq_true rfl) dX6_setGap_32 ⟨Nat.le_of_ble_eq_true rfl, Nat.le_of_ble_eq_true rfl⟩ hw (fun u6 H locs hu6 hw => ?_)
  have hu6 : u6 = sR C 0 (rPut 8 (C.1 0) q1 q2) := hu6
  have hF := hF.trans (bnd_eq hu6)
  refine lv_iload_n hx hb dX6_setGap_35 rfl (lv_at hl 0 rfl) ?_
  exact hret _ _ u6 _ _ _ _ _ dX6_setGap_36 (hsp.symm.trans hF) hw (Nat.le_of_ble_eq_true rfl) (Nat.le_of_ble_eq_true rfl)
theorem gy_X6_setFold : gY yX6_setFold RX6 cX6_setFold 4 (some .int) wsX6_setFold 2 := ⟨⟨_, rfl⟩, rfl, by decide +kernel, by decide +kernel, by decide +kernel⟩
def F_X6_setFold (C : CS) (q1 : Int32) (q2 : Int32) : (String ⊕ Int32) × CS := (xbw C (F_X6_needKey q1) (fun _ => (xbw C (F_X6_needWithin q2 0 3) (fun _ => (bnd (rAt 8 (C.1 1) q1) (fun r3 => (bnd (sR C 1 (rPut 8 (C.1 1) q1 q2)) (fun u6 => (.inr r3, u6)))))))))
abbrev rmX6_setFold : Room := { frames := 7, cells := 2, slots := 12, locals := 222 }
set_option maxHeartbeats 4000000 in
set_option maxRecDepth 100000 in
theorem c_X6_setFold (l : Launch) (hlt : l.stackTraces = false) (D : va_G) (cy : Nat → ClassId) (ss : Nat → Nat) (ad : Nat → Nat) (rest : va_W) (C : CS) (q1 : Int32) (q2 : Int32) : GXi l yX6_setFold wsX6_setFold rmX6_setFold D cy ss [.ref (ad 92), .int q1, .int q2] (CW cy ad C ++ rest) (fun (r : Int32) (u : CS) => F_X6_setFold C q1 q2 = (.inr r, u)) (fun u => CW cy ad u ++ rest) (fun (E : String) (u : CS) => F_X6_setFold C q1 q2 = (.inl E, u) ∧ E ∈ (["java/lang/IndexOutOfBoundsException", "java/lang/IllegalArgumentException"] : List String)) 2 12 := by
  refine GXi.intro cX6_setFold 4 RX6 (by decide) rfl rfl (Nat.le_of_ble_eq_true rfl) ?_
  intro p e s m args below meth c A Q ls X hE hnt hret hthr hprop hl hw
  have hx := X.1
  have hb := X.2.1
  have hl : lv_has ls 4 [(0, .ref (ad 92)), (1, .int q1), (2, .int q2)] := hl
  have inX1 : ∀ w ∈ wsX10, w ∈ wsX6_setFold := fun w h => List.mem_cons_of_mem _ (List.mem_append_left _ (List.mem_append_left _ (List.mem_append_left _ (List.mem_append_left _ (List.mem_append_right _ h)))))
  have inX6 : ∀ w ∈ wsX60, w ∈ wsX6_setFold := fun w h => List.mem_cons_of_mem _ (List.mem_append_left _ (List.mem_append_left _ (List.mem_append_left _ (List.mem_append_left _ (List.mem_append_left _ (List.mem_append_right _ h))))))
  obtain ⟨sp, hsp⟩ : ∃ sp, sp = F_X6_setFold C q1 q2 := ⟨_, rfl⟩
  have hF := hsp.trans (F_X6_setFold.eq_1 C q1 q2)
  refine lv_iload_n hx hb dX6_setFold_0 rfl (lv_at hl 1 rfl) ?_
  refine gxS_v (rest := []) X hE (c_X6_needKey l hlt D cy ss ad rest C q1) gy_X6_needKey gX6_setFold_X6_needKey ⟨rfl, rfl, Nat.le_of_ble_eq_true rfl, Nat.le_of_ble_eq_true rfl⟩ rfl hl rfl (Nat.le_of_ble_eq_true rfl) dX6_setFold_1 ⟨Nat.le_of_ble_eq_true rfl, Nat.le_of_ble_eq_true rfl⟩ hw (fun E ce q9 _ H locs hp hw h1 h2 h3 => hprop _ E ce q9 C _ _ _ _ _ _ h1 h2 h3 ⟨hsp.symm.trans (hF.trans (xbw_l hp.1)), (by rw [List.mem_singleton.mp hp.2]; exact (List.mem_of_getElem? (i := 0) rfl))⟩ hw (Nat.le_of_ble_eq_true rfl) (Nat.le_of_ble_eq_true rfl)) (fun _ H locs hr1 hw => ?_)
  have hr1 : F_X6_needKey q1 = .inr () := hr1
  have hF := hF.trans (xbw_r hr1)
  refine lv_iload_n hx hb dX6_setFold_4 rfl (lv_at hl 2 rfl) ?_
  refine lv_iconst (v := 0) hx hb dX6_setFold_5 (by decide) ?_
  refine lv_iconst (v := 3) hx hb dX6_setFold_6 (by decide) ?_
  refine gxS_v (rest := []) X hE (c_X6_needWithin l hlt D cy ss ad rest C q2 0 3) gy_X6_needWithin gX6_setFold_X6_needWithin ⟨rfl, rfl, Nat.le_of_ble_eq_true rfl, Nat.le_of_ble_eq_true rfl⟩ rfl hl rfl (Nat.le_of_ble_eq_true rfl) dX6_setFold_7 ⟨Nat.le_of_ble_eq_true rfl, Nat.le_of_ble_eq_true rfl⟩ hw (fun E ce q9 _ H locs hp hw h1 h2 h3 => hprop _ E ce q9 C _ _ _ _ _ _ h1 h2 h3 ⟨hsp.symm.trans (hF.trans (xbw_l hp.1)), (by rw [List.mem_singleton.mp hp.2]; exact (List.mem_of_getElem? (i := 1) rfl))⟩ hw (Nat.le_of_ble_eq_true rfl) (Nat.le_of_ble_eq_true rfl)) (fun _ H locs hr2 hw => ?_)
  have hr2 : F_X6_needWithin q2 0 3 = .inr () := hr2
  have hF := hF.trans (xbw_r hr2)
  refine lv_aload_n hx hb dX6_setFold_10 rfl (lv_at hl 0 rfl) ?_
  refine g_get (v := .ref (ad 93)) (C := RX6) (T := TX6) (N := 5) (ci := 8) X inX6 hw 92 rfl rfl 0 (by decide) (List.mem_of_getElem? (i := 1) rfl) rfl rfl dX6_setFold_11 ?_
  refine g_get (v := .ref (ad 2)) (C := RX1) (T := TX1) (N := 10) (ci := 3) X inX1 hw 93 rfl rfl 1 (by decide) (List.mem_of_getElem? (i := 2) rfl) rfl rfl dX6_setFold_14 ?_
  refine lv_iload_n hx hb dX6_setFold_17 rfl (lv_at hl 1 rfl) ?_
  refine gcV_i (rest := []) X (cR_at l D cy ad rest C 1 (by decide) q1) gy_X4_at gX6_setFold_X4_at ⟨rfl, rfl, Nat.le_of_ble_eq_true rfl, Nat.le_of_ble_eq_true rfl⟩ 2 rfl rfl rfl hl rfl (Nat.le_of_ble_eq_true rfl) dX6_setFold_18 ⟨Nat.le_of_ble_eq_true rfl, Nat.le_of_ble_eq_true rfl⟩ hw (fun r3 _ H locs hr3 hw => ?_)
  have hr3 : r3 = rAt 8 (C.1 1) q1 := hr3
  have hF := hF.trans (bnd_eq hr3)
  refine lv_istore_n (lv' := [(3, .int r3), (0, .ref (ad 92)), (1, .int q1), (2, .int q2)]) hx hb dX6_setFold_21 rfl hl (by decide) rfl (fun ls hl => ?_)
  refine lv_aload_n hx hb dX6_setFold_22 rfl (lv_at hl 1 rfl) ?_
  refine g_get (v := .ref (ad 93)) (C := RX6) (T := TX6) (N := 5) (ci := 8) X inX6 hw 92 rfl rfl 0 (by decide) (List.mem_of_getElem? (i := 1) rfl) rfl rfl dX6_setFold_23 ?_
  refine g_get (v := .ref (ad 2)) (C := RX1) (T := TX1) (N := 10) (ci := 3) X inX1 hw 93 rfl rfl 1 (by decide) (List.mem_of_getElem? (i := 2) rfl) rfl rfl dX6_setFold_26 ?_
  refine lv_iload_n hx hb dX6_setFold_29 rfl (lv_at hl 2 rfl) ?_
  refine lv_iload_n hx hb dX6_setFold_30 rfl (lv_at hl 3 rfl) ?_
  refine gcV_v (rest := []) X (cR_put l D cy ad rest C 1 (by decide) q1 q2) gy_X4_put gX6_setFold_X4_put ⟨rfl, rfl, Nat.le_of_ble_eq_true rfl, Nat.le_of_ble_eq_true rfl⟩ 2 rfl rfl rfl hl rfl (Nat.le_of_ble_eq_true rfl) dX6_setFold_31 ⟨Nat.le_of_ble_eq_true rfl, Nat.le_of_ble_eq_true rfl⟩ hw (fun u6 H locs hu6 hw => ?_)
  have hu6 : u6 = sR C 1 (rPut 8 (C.1 1) q1 q2) := hu6
  have hF := hF.trans (bnd_eq hu6)
  refine lv_iload_n hx hb dX6_setFold_34 rfl (lv_at hl 0 rfl) ?_
  exact hret _ _ u6 _ _ _ _ _ dX6_setFold_35 (hsp.symm.trans hF) hw (Nat.le_of_ble_eq_true rfl) (Nat.le_of_ble_eq_true rfl)
theorem gy_X6_setLateness : gY yX6_setLateness RX6 cX6_setLateness 3 (some .int) wsX6_setLateness 1 := ⟨⟨_, rfl⟩, rfl, by decide +kernel, by decide +kernel, by decide +kernel⟩
def F_X6_setLateness (C : CS) (q1 : Int32) : (String ⊕ Int32) × CS := (xbw C (F_X6_needWithin q1 0 100) (fun _ => (bnd (sI C 0 q1) (fun u2 => (.inr (C.2.1 0), u2)))))
abbrev rmX6_setLateness : Room := { frames := 7, cells := 1, slots := 6, locals := 222 }
set_option maxHeartbeats 4000000 in
set_option maxRecDepth 100000 in
theorem c_X6_setLateness (l : Launch) (hlt : l.stackTraces = false) (D : va_G) (cy : Nat → ClassId) (ss : Nat → Nat) (ad : Nat → Nat) (rest : va_W) (C : CS) (q1 : Int32) : GXi l yX6_setLateness wsX6_setLateness rmX6_setLateness D cy ss [.ref (ad 92), .int q1] (CW cy ad C ++ rest) (fun (r : Int32) (u : CS) => F_X6_setLateness C q1 = (.inr r, u)) (fun u => CW cy ad u ++ rest) (fun (E : String) (u : CS) => F_X6_setLateness C q1 = (.inl E, u) ∧ E ∈ (["java/lang/IllegalArgumentException"] : List String)) 1 6 := by
  refine GXi.intro cX6_setLateness 3 RX6 (by decide) rfl rfl (Nat.le_of_ble_eq_true rfl) ?_
  intro p e s m args below meth c A Q ls X hE hnt hret hthr hprop hl hw
  have hx := X.1
  have hb := X.2.1
  have hl : lv_has ls 3 [(0, .ref (ad 92)), (1, .int q1)] := hl
  have inX1 : ∀ w ∈ wsX10, w ∈ wsX6_setLateness := fun w h => List.mem_cons_of_mem _ (List.mem_append_left _ (List.mem_append_right _ h))
  have inX6 : ∀ w ∈ wsX60, w ∈ wsX6_setLateness := fun w h => List.mem_cons_of_mem _ (List.mem_append_left _ (List.mem_append_left _ (List.mem_append_right _ h)))
  obtain ⟨sp, hsp⟩ : ∃ sp, sp = F_X6_setLateness C q1 := ⟨_, rfl⟩
  have hF := hsp.trans (F_X6_setLateness.eq_1 C q1)
  refine lv_iload_n hx hb dX6_setLateness_0 rfl (lv_at hl 1 rfl) ?_
  refine lv_iconst (v := 0) hx hb dX6_setLateness_1 (by decide) ?_
  refine lv_bipush (v := 100) hx hb dX6_setLateness_2 (by decide) ?_
  refine gxS_v (rest := []) X hE (c_X6_needWithin l hlt D cy ss ad rest C q1 0 100) gy_X6_needWithin gX6_setLateness_X6_needWithin ⟨rfl, rfl, Nat.le_of_ble_eq_true rfl, Nat.le_of_ble_eq_true rfl⟩ rfl hl rfl (Nat.le_of_ble_eq_true rfl) dX6_setLateness_4 ⟨Nat.le_of_ble_eq_true rfl, Nat.le_of_ble_eq_true rfl⟩ hw (fun E ce q9 _ H locs hp hw h1 h2 h3 => hprop _ E ce q9 C _ _ _ _ _ _ h1 h2 h3 ⟨hsp.symm.trans (hF.trans (xbw_l hp.1)), (by rw [List.mem_singleton.mp hp.2]; exact (List.mem_of_getElem? (i := 0) rfl))⟩ hw (Nat.le_of_ble_eq_true rfl) (Nat.le_of_ble_eq_true rfl)) (fun _ H locs hr1 hw => ?_)
  have hr1 : F_X6_needWithin q1 0 100 = .inr () := hr1
  have hF := hF.trans (xbw_r hr1)
  refine lv_aload_n hx hb dX6_setLateness_7 rfl (lv_at hl 0 rfl) ?_
  refine g_get (v := .ref (ad 93)) (C := RX6) (T := TX6) (N := 5) (ci := 8) X inX6 hw 92 rfl rfl 0 (by decide) (List.mem_of_getElem? (i := 1) rfl) rfl rfl dX6_setLateness_8 ?_
  refine g_get (v := .int (C.2.1 0)) (C := RX1) (T := TX1) (N := 10) (ci := 3) X inX1 hw 93 rfl rfl 5 (by decide) (List.mem_of_getElem? (i := 2) rfl) rfl rfl dX6_setLateness_11 ?_
  refine lv_istore_n (lv' := [(2, .int (C.2.1 0)), (0, .ref (ad 92)), (1, .int q1)]) hx hb dX6_setLateness_14 rfl hl (by decide) rfl (fun ls hl => ?_)
  refine lv_aload_n hx hb dX6_setLateness_15 rfl (lv_at hl 1 rfl) ?_
  refine g_get (v := .ref (ad 93)) (C := RX6) (T := TX6) (N := 5) (ci := 8) X inX6 hw 92 rfl rfl 0 (by decide) (List.mem_of_getElem? (i := 1) rfl) rfl rfl dX6_setLateness_16 ?_
  refine lv_iload_n hx hb dX6_setLateness_19 rfl (lv_at hl 2 rfl) ?_
  refine g_put (v := .int q1) (C := RX1) (T := TX1) (N := 10) (ci := 3) (w' := CW cy ad (sI C 0 q1) ++ rest) X inX1 tyX1 tyX1_ok nmX1 hw 93 rfl rfl 5 (by decide) (List.mem_of_getElem? (i := 2) rfl) rfl rfl rfl rfl (Nat.le_of_ble_eq_true rfl) rfl dX6_setLateness_20 (fun H locs hw => ?_)
  obtain ⟨u2, hu2⟩ : ∃ z, z = sI C 0 q1 := ⟨_, rfl⟩
  rw [← hu2] at hw
  have hF := hF.trans (bnd_eq hu2)
  refine lv_iload_n hx hb dX6_setLateness_23 rfl (lv_at hl 0 rfl) ?_
  exact hret _ _ u2 _ _ _ _ _ dX6_setLateness_24 (hsp.symm.trans hF) hw (Nat.le_of_ble_eq_true rfl) (Nat.le_of_ble_eq_true rfl)
theorem gy_X6_setTrigger : gY yX6_setTrigger RX6 cX6_setTrigger 3 (some .int) wsX6_setTrigger 1 := ⟨⟨_, rfl⟩, rfl, by decide +kernel, by decide +kernel, by decide +kernel⟩
def F_X6_setTrigger (C : CS) (q1 : Int32) : (String ⊕ Int32) × CS := (xbw C (F_X6_needWithin q1 0 10) (fun _ => (bnd (sI C 1 q1) (fun u2 => (.inr (C.2.1 1), u2)))))
abbrev rmX6_setTrigger : Room := { frames := 7, cells := 1, slots := 6, locals := 222 }
set_option maxHeartbeats 4000000 in
set_option maxRecDepth 100000 in
theorem c_X6_setTrigger (l : Launch) (hlt : l.stackTraces = false) (D : va_G) (cy : Nat → ClassId) (ss : Nat → Nat) (ad : Nat → Nat) (rest : va_W) (C : CS) (q1 : Int32) : GXi l yX6_setTrigger wsX6_setTrigger rmX6_setTrigger D cy ss [.ref (ad 92), .int q1] (CW cy ad C ++ rest) (fun (r : Int32) (u : CS) => F_X6_setTrigger C q1 = (.inr r, u)) (fun u => CW cy ad u ++ rest) (fun (E : String) (u : CS) => F_X6_setTrigger C q1 = (.inl E, u) ∧ E ∈ (["java/lang/IllegalArgumentException"] : List String)) 1 6 := by
  refine GXi.intro cX6_setTrigger 3 RX6 (by decide) rfl rfl (Nat.le_of_ble_eq_true rfl) ?_
  intro p e s m args below meth c A Q ls X hE hnt hret hthr hprop hl hw
  have hx := X.1
  have hb := X.2.1
  have hl : lv_has ls 3 [(0, .ref (ad 92)), (1, .int q1)] := hl
  have inX1 : ∀ w ∈ wsX10, w ∈ wsX6_setTrigger := fun w h => List.mem_cons_of_mem _ (List.mem_append_left _ (List.mem_append_right _ h))
  have inX6 : ∀ w ∈ wsX60, w ∈ wsX6_setTrigger := fun w h => List.mem_cons_of_mem _ (List.mem_append_left _ (List.mem_append_left _ (List.mem_append_right _ h)))
  obtain ⟨sp, hsp⟩ : ∃ sp, sp = F_X6_setTrigger C q1 := ⟨_, rfl⟩
  have hF := hsp.trans (F_X6_setTrigger.eq_1 C q1)
  refine lv_iload_n hx hb dX6_setTrigger_0 rfl (lv_at hl 1 rfl) ?_
  refine lv_iconst (v := 0) hx hb dX6_setTrigger_1 (by decide) ?_
  refine lv_bipush (v := 10) hx hb dX6_setTrigger_2 (by decide) ?_
  refine gxS_v (rest := []) X hE (c_X6_needWithin l hlt D cy ss ad rest C q1 0 10) gy_X6_needWithin gX6_setTrigger_X6_needWithin ⟨rfl, rfl, Nat.le_of_ble_eq_true rfl, Nat.le_of_ble_eq_true rfl⟩ rfl hl rfl (Nat.le_of_ble_eq_true rfl) dX6_setTrigger_4 ⟨Nat.le_of_ble_eq_true rfl, Nat.le_of_ble_eq_true rfl⟩ hw (fun E ce q9 _ H locs hp hw h1 h2 h3 => hprop _ E ce q9 C _ _ _ _ _ _ h1 h2 h3 ⟨hsp.symm.trans (hF.trans (xbw_l hp.1)), (by rw [List.mem_singleton.mp hp.2]; exact (List.mem_of_getElem? (i := 0) rfl))⟩ hw (Nat.le_of_ble_eq_true rfl) (Nat.le_of_ble_eq_true rfl)) (fun _ H locs hr1 hw => ?_)
  have hr1 : F_X6_needWithin q1 0 10 = .inr () := hr1
  have hF := hF.trans (xbw_r hr1)
  refine lv_aload_n hx hb dX6_setTrigger_7 rfl (lv_at hl 0 rfl) ?_
  refine g_get (v := .ref (ad 93)) (C := RX6) (T := TX6) (N := 5) (ci := 8) X inX6 hw 92 rfl rfl 0 (by decide) (List.mem_of_getElem? (i := 1) rfl) rfl rfl dX6_setTrigger_8 ?_
  refine g_get (v := .int (C.2.1 1)) (C := RX1) (T := TX1) (N := 10) (ci := 3) X inX1 hw 93 rfl rfl 6 (by decide) (List.mem_of_getElem? (i := 2) rfl) rfl rfl dX6_setTrigger_11 ?_
  refine lv_istore_n (lv' := [(2, .int (C.2.1 1)), (0, .ref (ad 92)), (1, .int q1)]) hx hb dX6_setTrigger_14 rfl hl (by decide) rfl (fun ls hl => ?_)
  refine lv_aload_n hx hb dX6_setTrigger_15 rfl (lv_at hl 1 rfl) ?_
  refine g_get (v := .ref (ad 93)) (C := RX6) (T := TX6) (N := 5) (ci := 8) X inX6 hw 92 rfl rfl 0 (by decide) (List.mem_of_getElem? (i := 1) rfl) rfl rfl dX6_setTrigger_16 ?_
  refine lv_iload_n hx hb dX6_setTrigger_19 rfl (lv_at hl 2 rfl) ?_
  refine g_put (v := .int q1) (C := RX1) (T := TX1) (N := 10) (ci := 3) (w' := CW cy ad (sI C 1 q1) ++ rest) X inX1 tyX1 tyX1_ok nmX1 hw 93 rfl rfl 6 (by decide) (List.mem_of_getElem? (i := 2) rfl) rfl rfl rfl rfl (Nat.le_of_ble_eq_true rfl) rfl dX6_setTrigger_20 (fun H locs hw => ?_)
  obtain ⟨u2, hu2⟩ : ∃ z, z = sI C 1 q1 := ⟨_, rfl⟩
  rw [← hu2] at hw
  have hF := hF.trans (bnd_eq hu2)
  refine lv_iload_n hx hb dX6_setTrigger_23 rfl (lv_at hl 0 rfl) ?_
  exact hret _ _ u2 _ _ _ _ _ dX6_setTrigger_24 (hsp.symm.trans hF) hw (Nat.le_of_ble_eq_true rfl) (Nat.le_of_ble_eq_true rfl)
theorem gy_X6_add : gY yX6_add RX6 cX6_add 4 (some .int) wsX6_add 3 := ⟨⟨_, rfl⟩, rfl, by decide +kernel, by decide +kernel, by decide +kernel⟩
def F_X6_add (C : CS) (q1 : Int32) (q2 : Int32) (q3 : Int32) : (String ⊕ Int32) × CS := (xbw C (F_X6_needKey q1) (fun _ => (xbw C (F_X6_needWithin q2 0 9999) (fun _ => (if C.2.1 5 < 100 then (bnd ((F_X1_take C q1 q2 q3).2) (fun u5 => (bnd ((F_X1_take C q1 q2 q3).1) (fun r4 => (.inr r4, u5))))) else (bnd (F_X1_comesLate C q2 (C.2.1 2)) (fun r6 => (if r6 = 0 then (.inl "java/lang/IllegalStateException", C) else (bnd ((F_X1_take C q1 q2 q3).2) (fun u10 => (bnd ((F_X1_take C q1 q2 q3).1) (fun r9 => (.inr r9, u10)))))))))))))
abbrev rmX6_add : Room := { frames := 7, cells := 3, slots := 18, locals := 222 }
set_option maxHeartbeats 4000000 in
set_option maxRecDepth 100000 in
theorem c_X6_add (l : Launch) (hlt : l.stackTraces = false) (D : va_G) (cy : Nat → ClassId) (ss : Nat → Nat) (ad : Nat → Nat) (rest : va_W) (C : CS) (q1 : Int32) (q2 : Int32) (q3 : Int32) : GXi l yX6_add wsX6_add rmX6_add D cy ss [.ref (ad 92), .int q1, .int q2, .int q3] (CW cy ad C ++ rest) (fun (r : Int32) (u : CS) => F_X6_add C q1 q2 q3 = (.inr r, u)) (fun u => CW cy ad u ++ rest) (fun (E : String) (u : CS) => F_X6_add C q1 q2 q3 = (.inl E, u) ∧ E ∈ (["java/lang/IndexOutOfBoundsException", "java/lang/IllegalArgumentException", "java/lang/IllegalStateException"] : List String)) 3 18 := by
  refine GXi.intro cX6_add 4 RX6 (by decide) rfl rfl (Nat.le_of_ble_eq_true rfl) ?_
  intro p e s m args below meth c A Q ls X hE hnt hret hthr hprop hl hw
  have hx := X.1
  have hb := X.2.1
  have hl : lv_has ls 4 [(0, .ref (ad 92)), (1, .int q1), (2, .int q2), (3, .int q3)] := hl
  have inX1 : ∀ w ∈ wsX10, w ∈ wsX6_add := fun w h => List.mem_cons_of_mem _ (List.mem_append_left _ (List.mem_append_left _ (List.mem_append_left _ (List.mem_append_left _ (List.mem_append_left _ (List.mem_append_left _ (List.mem_append_left _ (List.mem_append_left _ (List.mem_append_left _ (List.mem_append_right _ h))))))))))
  have inX3 : ∀ w ∈ wsX30, w ∈ wsX6_add := fun w h => List.mem_cons_of_mem _ (List.mem_append_left _ (List.mem_append_left _ (List.mem_append_left _ (List.mem_append_left _ (List.mem_append_left _ (List.mem_append_left _ (List.mem_append_left _ (List.mem_append_left _ (List.mem_append_right _ h)))))))))
  have inX6 : ∀ w ∈ wsX60, w ∈ wsX6_add := fun w h => List.mem_cons_of_mem _ (List.mem_append_left _ (List.mem_append_left _ (List.mem_append_left _ (List.mem_append_left _ (List.mem_append_left _ (List.mem_append_left _ (List.mem_append_left _ (List.mem_append_left _ (List.mem_append_left _ (List.mem_append_left _ (List.mem_append_right _ h)))))))))))
  obtain ⟨sp, hsp⟩ : ∃ sp, sp = F_X6_add C q1 q2 q3 := ⟨_, rfl⟩
  have hF := hsp.trans (F_X6_add.eq_1 C q1 q2 q3)
  refine lv_iload_n hx hb dX6_add_0 rfl (lv_at hl 1 rfl) ?_
  refine gxS_v (rest := []) X hE (c_X6_needKey l hlt D cy ss ad rest C q1) gy_X6_needKey gX6_add_X6_needKey ⟨rfl, rfl, Nat.le_of_ble_eq_true rfl, Nat.le_of_ble_eq_true rfl⟩ rfl hl rfl (Nat.le_of_ble_eq_true rfl) dX6_add_1 ⟨Nat.le_of_ble_eq_true rfl, Nat.le_of_ble_eq_true rfl⟩ hw (fun E ce q9 _ H locs hp hw h1 h2 h3 => hprop _ E ce q9 C _ _ _ _ _ _ h1 h2 h3 ⟨hsp.symm.trans (hF.trans (xbw_l hp.1)), (by rw [List.mem_singleton.mp hp.2]; exact (List.mem_of_getElem? (i := 0) rfl))⟩ hw (Nat.le_of_ble_eq_true rfl) (Nat.le_of_ble_eq_true rfl)) (fun _ H locs hr1 hw => ?_)
  have hr1 : F_X6_needKey q1 = .inr () := hr1
  have hF := hF.trans (xbw_r hr1)
  refine lv_iload_n hx hb dX6_add_4 rfl (lv_at hl 2 rfl) ?_
  refine lv_iconst (v := 0) hx hb dX6_add_5 (by decide) ?_
  refine lv_sipush (v := 9999) hx hb dX6_add_6 (by decide) ?_
  refine gxS_v (rest := []) X hE (c_X6_needWithin l hlt D cy ss ad rest C q2 0 9999) gy_X6_needWithin gX6_add_X6_needWithin ⟨rfl, rfl, Nat.le_of_ble_eq_true rfl, Nat.le_of_ble_eq_true rfl⟩ rfl hl rfl (Nat.le_of_ble_eq_true rfl) dX6_add_9 ⟨Nat.le_of_ble_eq_true rfl, Nat.le_of_ble_eq_true rfl⟩ hw (fun E ce q9 _ H locs hp hw h1 h2 h3 => hprop _ E ce q9 C _ _ _ _ _ _ h1 h2 h3 ⟨hsp.symm.trans (hF.trans (xbw_l hp.1)), (by rw [List.mem_singleton.mp hp.2]; exact (List.mem_of_getElem? (i := 1) rfl))⟩ hw (Nat.le_of_ble_eq_true rfl) (Nat.le_of_ble_eq_true rfl)) (fun _ H locs hr2 hw => ?_)
  have hr2 : F_X6_needWithin q2 0 9999 = .inr () := hr2
  have hF := hF.trans (xbw_r hr2)
  refine lv_aload_n hx hb dX6_add_12 rfl (lv_at hl 0 rfl) ?_
  refine g_get (v := .ref (ad 93)) (C := RX6) (T := TX6) (N := 5) (ci := 8) X inX6 hw 92 rfl rfl 0 (by decide) (List.mem_of_getElem? (i := 3) rfl) rfl rfl dX6_add_13 ?_
  refine g_get (v := .ref (ad 94)) (C := RX1) (T := TX1) (N := 10) (ci := 3) X inX1 hw 93 rfl rfl 2 (by decide) (List.mem_of_getElem? (i := 4) rfl) rfl rfl dX6_add_16 ?_
  refine g_get (v := .int (C.2.1 5)) (C := RX3) (T := TX3) (N := 4) (ci := 5) X inX3 hw 94 rfl rfl 3 (by decide) (List.mem_of_getElem? (i := 5) rfl) rfl rfl dX6_add_19 ?_
  refine lv_bipush (v := 100) hx hb dX6_add_22 (by decide) ?_
  refine lv_icmp_lt (tgt := 55) hx hb dX6_add_24 (by decide) (fun c3 => ?_) (fun c3 => ?_)
  · skip
    have hF := hF.trans (if_pos c3)
    refine lv_aload_n hx hb dX6_add_55 rfl (lv_at hl 0 rfl) ?_
    refine g_get (v := .ref (ad 93)) (C := RX6) (T := TX6) (N := 5) (ci := 8) X inX6 hw 92 rfl rfl 0 (by decide) (List.mem_of_getElem? (i := 3) rfl) rfl rfl dX6_add_56 ?_
    refine lv_iload_n hx hb dX6_add_59 rfl (lv_at hl 1 rfl) ?_
    refine lv_iload_n hx hb dX6_add_60 rfl (lv_at hl 2 rfl) ?_
    refine lv_iload_n hx hb dX6_add_61 rfl (lv_at hl 3 rfl) ?_
    refine gcV_i (rest := []) X (c_X1_take l D cy ad rest C q1 q2 q3) gy_X1_take gX6_add_X1_take ⟨rfl, rfl, Nat.le_of_ble_eq_true rfl, Nat.le_of_ble_eq_true rfl⟩ 93 rfl rfl rfl hl rfl (Nat.le_of_ble_eq_true rfl) dX6_add_62 ⟨Nat.le_of_ble_eq_true rfl, Nat.le_of_ble_eq_true rfl⟩ hw (fun r4 u5 H locs hr4 hw => ?_)
    obtain ⟨hr4, hu5⟩ : r4 = (F_X1_take C q1 q2 q3).1 ∧ u5 = (F_X1_take C q1 q2 q3).2 := hr4
    have hF := hF.trans (bnd_eq hu5)
    have hF := hF.trans (bnd_eq hr4)
    exact hret _ _ u5 _ _ _ _ _ dX6_add_65 (hsp.symm.trans hF) hw (Nat.le_of_ble_eq_true rfl) (Nat.le_of_ble_eq_true rfl)
  · skip
    have hF := hF.trans (if_neg c3)
    refine lv_aload_n hx hb dX6_add_27 rfl (lv_at hl 0 rfl) ?_
    refine g_get (v := .ref (ad 93)) (C := RX6) (T := TX6) (N := 5) (ci := 8) X inX6 hw 92 rfl rfl 0 (by decide) (List.mem_of_getElem? (i := 3) rfl) rfl rfl dX6_add_28 ?_
    refine lv_iload_n hx hb dX6_add_31 rfl (lv_at hl 2 rfl) ?_
    refine lv_aload_n hx hb dX6_add_32 rfl (lv_at hl 0 rfl) ?_
    refine g_get (v := .ref (ad 93)) (C := RX6) (T := TX6) (N := 5) (ci := 8) X inX6 hw 92 rfl rfl 0 (by decide) (List.mem_of_getElem? (i := 3) rfl) rfl rfl dX6_add_33 ?_
    refine g_get (v := .int (C.2.1 2)) (C := RX1) (T := TX1) (N := 10) (ci := 3) X inX1 hw 93 rfl rfl 7 (by decide) (List.mem_of_getElem? (i := 6) rfl) rfl rfl dX6_add_36 ?_
    refine gcV_i (rest := []) X (c_X1_comesLate l D cy ad rest C q2 (C.2.1 2)) gy_X1_comesLate gX6_add_X1_comesLate ⟨rfl, rfl, Nat.le_of_ble_eq_true rfl, Nat.le_of_ble_eq_true rfl⟩ 93 rfl rfl rfl hl rfl (Nat.le_of_ble_eq_true rfl) dX6_add_39 ⟨Nat.le_of_ble_eq_true rfl, Nat.le_of_ble_eq_true rfl⟩ hw (fun r6 _ H locs hr6 hw => ?_)
    obtain ⟨hr6, zr6⟩ : r6 = F_X1_comesLate C q2 (C.2.1 2) ∧ (r6 = 0 ∨ r6 = 1) := hr6
    have hF := hF.trans (bnd_eq hr6)
    refine lv_if_ne (tgt := 55) hx hb dX6_add_42 (by decide) (fun c8 => ?_) (fun c8 => ?_)
    · skip
      have hF := hF.trans (if_neg c8)
      refine lv_aload_n hx hb dX6_add_55 rfl (lv_at hl 0 rfl) ?_
      refine g_get (v := .ref (ad 93)) (C := RX6) (T := TX6) (N := 5) (ci := 8) X inX6 hw 92 rfl rfl 0 (by decide) (List.mem_of_getElem? (i := 3) rfl) rfl rfl dX6_add_56 ?_
      refine lv_iload_n hx hb dX6_add_59 rfl (lv_at hl 1 rfl) ?_
      refine lv_iload_n hx hb dX6_add_60 rfl (lv_at hl 2 rfl) ?_
      refine lv_iload_n hx hb dX6_add_61 rfl (lv_at hl 3 rfl) ?_
      refine gcV_i (rest := []) X (c_X1_take l D cy ad rest C q1 q2 q3) gy_X1_take gX6_add_X1_take ⟨rfl, rfl, Nat.le_of_ble_eq_true rfl, Nat.le_of_ble_eq_true rfl⟩ 93 rfl rfl rfl hl rfl (Nat.le_of_ble_eq_true rfl) dX6_add_62 ⟨Nat.le_of_ble_eq_true rfl, Nat.le_of_ble_eq_true rfl⟩ hw (fun r9 u10 H locs hr9 hw => ?_)
      obtain ⟨hr9, hu10⟩ : r9 = (F_X1_take C q1 q2 q3).1 ∧ u10 = (F_X1_take C q1 q2 q3).2 := hr9
      have hF := hF.trans (bnd_eq hu10)
      have hF := hF.trans (bnd_eq hr9)
      exact hret _ _ u10 _ _ _ _ _ dX6_add_65 (hsp.symm.trans hF) hw (Nat.le_of_ble_eq_true rfl) (Nat.le_of_ble_eq_true rfl)
    · skip
      have hF := hF.trans (if_pos c8)
      exact hthr _ _ C _ _ _ _ _ _ (fun Qc XC mc ms free hxx hff hcc hss => vx_throwS (A := A) hx hb hlt X.2.2.2.2.1 (by decide +kernel) (by decide +kernel) (X.2.2.2.2.2.1 _ (List.mem_of_getElem? (i := 1) rfl)) (X.2.2.2.2.2.1 _ (List.mem_of_getElem? (i := 2) rfl)) hE.2.2.1.2.2.1 (vx_hat (fun w h => X.2.2.2.2.2.1 w (List.mem_cons_of_mem _ (List.mem_append_left _ (List.mem_append_left _ (List.mem_append_left _ (List.mem_append_left _ (List.mem_append_right _ h))))))) ax_88 (gBIS_of hE.2.2.2)) ax_88g hE.1 hE.2.1 hw.2.2 (hl.1.trans X.2.2.2.1.symm) dX6_add_45 dX6_add_48 dX6_add_49 dX6_add_51 dX6_add_54 (fun x hx => (hnt x hx).elim) (Nat.le_of_ble_eq_true rfl) (Nat.le_of_ble_eq_true rfl) (Nat.le_of_ble_eq_true rfl) (Nat.le_of_ble_eq_true rfl) X.2.2.1 hxx hff hcc hss) ⟨hsp.symm.trans hF, (List.mem_of_getElem? (i := 2) rfl)⟩ hw (Nat.le_of_ble_eq_true rfl) (Nat.le_of_ble_eq_true rfl)
theorem gy_X6_advance : gY yX6_advance RX6 cX6_advance 2 (some .int) wsX6_advance 1 := ⟨⟨_, rfl⟩, rfl, by decide +kernel, by decide +kernel, by decide +kernel⟩
def F_X6_advance (C : CS) (q1 : Int32) : (String ⊕ Int32) × CS := (xbw C (F_X6_needWithin q1 (C.2.1 2) 20000) (fun _ => (bnd ((F_X1_moveMark C q1).2) (fun u3 => (bnd ((F_X1_moveMark C q1).1) (fun r2 => (.inr r2, u3)))))))
abbrev rmX6_advance : Room := { frames := 7, cells := 1, slots := 6, locals := 222 }
set_option maxHeartbeats 4000000 in
set_option maxRecDepth 100000 in
theorem c_X6_advance (l : Launch) (hlt : l.stackTraces = false) (D : va_G) (cy : Nat → ClassId) (ss : Nat → Nat) (ad : Nat → Nat) (rest : va_W) (C : CS) (q1 : Int32) : GXi l yX6_advance wsX6_advance rmX6_advance D cy ss [.ref (ad 92), .int q1] (CW cy ad C ++ rest) (fun (r : Int32) (u : CS) => F_X6_advance C q1 = (.inr r, u)) (fun u => CW cy ad u ++ rest) (fun (E : String) (u : CS) => F_X6_advance C q1 = (.inl E, u) ∧ E ∈ (["java/lang/IllegalArgumentException"] : List String)) 1 6 := by
  refine GXi.intro cX6_advance 2 RX6 (by decide) rfl rfl (Nat.le_of_ble_eq_true rfl) ?_
  intro p e s m args below meth c A Q ls X hE hnt hret hthr hprop hl hw
  have hx := X.1
  have hb := X.2.1
  have hl : lv_has ls 2 [(0, .ref (ad 92)), (1, .int q1)] := hl
  have inX1 : ∀ w ∈ wsX10, w ∈ wsX6_advance := fun w h => List.mem_cons_of_mem _ (List.mem_append_left _ (List.mem_append_left _ (List.mem_append_left _ (List.mem_append_left _ (List.mem_append_left _ (List.mem_append_left _ (List.mem_append_right _ h)))))))
  have inX6 : ∀ w ∈ wsX60, w ∈ wsX6_advance := fun w h => List.mem_cons_of_mem _ (List.mem_append_left _ (List.mem_append_left _ (List.mem_append_left _ (List.mem_append_left _ (List.mem_append_left _ (List.mem_append_left _ (List.mem_append_left _ (List.mem_append_right _ h))))))))
  obtain ⟨sp, hsp⟩ : ∃ sp, sp = F_X6_advance C q1 := ⟨_, rfl⟩
  have hF := hsp.trans (F_X6_advance.eq_1 C q1)
  refine lv_iload_n hx hb dX6_advance_0 rfl (lv_at hl 1 rfl) ?_
  refine lv_aload_n hx hb dX6_advance_1 rfl (lv_at hl 0 rfl) ?_
  refine g_get (v := .ref (ad 93)) (C := RX6) (T := TX6) (N := 5) (ci := 8) X inX6 hw 92 rfl rfl 0 (by decide) (List.mem_of_getElem? (i := 1) rfl) rfl rfl dX6_advance_2 ?_
  refine g_get (v := .int (C.2.1 2)) (C := RX1) (T := TX1) (N := 10) (ci := 3) X inX1 hw 93 rfl rfl 7 (by decide) (List.mem_of_getElem? (i := 2) rfl) rfl rfl dX6_advance_5 ?_
  refine lv_sipush (v := 20000) hx hb dX6_advance_8 (by decide) ?_
  refine gxS_v (rest := []) X hE (c_X6_needWithin l hlt D cy ss ad rest C q1 (C.2.1 2) 20000) gy_X6_needWithin gX6_advance_X6_needWithin ⟨rfl, rfl, Nat.le_of_ble_eq_true rfl, Nat.le_of_ble_eq_true rfl⟩ rfl hl rfl (Nat.le_of_ble_eq_true rfl) dX6_advance_11 ⟨Nat.le_of_ble_eq_true rfl, Nat.le_of_ble_eq_true rfl⟩ hw (fun E ce q9 _ H locs hp hw h1 h2 h3 => hprop _ E ce q9 C _ _ _ _ _ _ h1 h2 h3 ⟨hsp.symm.trans (hF.trans (xbw_l hp.1)), (by rw [List.mem_singleton.mp hp.2]; exact (List.mem_of_getElem? (i := 0) rfl))⟩ hw (Nat.le_of_ble_eq_true rfl) (Nat.le_of_ble_eq_true rfl)) (fun _ H locs hr1 hw => ?_)
  have hr1 : F_X6_needWithin q1 (C.2.1 2) 20000 = .inr () := hr1
  have hF := hF.trans (xbw_r hr1)
  refine lv_aload_n hx hb dX6_advance_14 rfl (lv_at hl 0 rfl) ?_
  refine g_get (v := .ref (ad 93)) (C := RX6) (T := TX6) (N := 5) (ci := 8) X inX6 hw 92 rfl rfl 0 (by decide) (List.mem_of_getElem? (i := 1) rfl) rfl rfl dX6_advance_15 ?_
  refine lv_iload_n hx hb dX6_advance_18 rfl (lv_at hl 1 rfl) ?_
  refine gcV_i (rest := []) X (c_X1_moveMark l D cy ad rest C q1) gy_X1_moveMark gX6_advance_X1_moveMark ⟨rfl, rfl, Nat.le_of_ble_eq_true rfl, Nat.le_of_ble_eq_true rfl⟩ 93 rfl rfl rfl hl rfl (Nat.le_of_ble_eq_true rfl) dX6_advance_19 ⟨Nat.le_of_ble_eq_true rfl, Nat.le_of_ble_eq_true rfl⟩ hw (fun r2 u3 H locs hr2 hw => ?_)
  obtain ⟨hr2, hu3⟩ : r2 = (F_X1_moveMark C q1).1 ∧ u3 = (F_X1_moveMark C q1).2 := hr2
  have hF := hF.trans (bnd_eq hu3)
  have hF := hF.trans (bnd_eq hr2)
  exact hret _ _ u3 _ _ _ _ _ dX6_advance_22 (hsp.symm.trans hF) hw (Nat.le_of_ble_eq_true rfl) (Nat.le_of_ble_eq_true rfl)
theorem gy_X6_burst : gY yX6_burst RX6 cX6_burst 3 (some .int) wsX6_burst 2 := ⟨⟨_, rfl⟩, rfl, by decide +kernel, by decide +kernel, by decide +kernel⟩
def F_X6_burst (C : CS) (q1 : Int32) (q2 : Int32) : String ⊕ Int32 := (xbo (F_X6_needBurst C q1) (fun _ => (xbo (F_X6_needWithin q2 0 5) (fun _ => (if q2 = 0 then (bnd (rAt 100 (C.1 5) q1) (fun r4 => .inr r4)) else (if q2 = 1 then (bnd (rAt 100 (C.1 6) q1) (fun r7 => .inr r7)) else (if q2 = 2 then (bnd (rAt 100 (C.1 7) q1) (fun r10 => .inr r10)) else (if q2 = 3 then (bnd (F_X3_countOf C q1) (fun r13 => .inr r13)) else (if q2 = 4 then (bnd (F_X1_resultOf C q1) (fun r16 => .inr r16)) else (bnd (rAt 100 (C.1 9) q1) (fun r18 => .inr r18)))))))))))
abbrev rmX6_burst : Room := { frames := 7, cells := 2, slots := 12, locals := 222 }
set_option maxHeartbeats 4000000 in
set_option maxRecDepth 100000 in
theorem c_X6_burst (l : Launch) (hlt : l.stackTraces = false) (D : va_G) (cy : Nat → ClassId) (ss : Nat → Nat) (ad : Nat → Nat) (rest : va_W) (C : CS) (q1 : Int32) (q2 : Int32) : GXi l yX6_burst wsX6_burst rmX6_burst D cy ss [.ref (ad 92), .int q1, .int q2] (CW cy ad C ++ rest) (fun (r : Int32) (_ : Unit) => F_X6_burst C q1 q2 = .inr r) (fun _ => CW cy ad C ++ rest) (fun (E : String) (_ : Unit) => F_X6_burst C q1 q2 = .inl E ∧ E ∈ (["java/lang/IndexOutOfBoundsException", "java/lang/IllegalArgumentException"] : List String)) 2 12 := by
  refine GXi.intro cX6_burst 3 RX6 (by decide) rfl rfl (Nat.le_of_ble_eq_true rfl) ?_
  intro p e s m args below meth c A Q ls X hE hnt hret hthr hprop hl hw
  have hx := X.1
  have hb := X.2.1
  have hl : lv_has ls 3 [(0, .ref (ad 92)), (1, .int q1), (2, .int q2)] := hl
  have inX0 : ∀ w ∈ wsX00, w ∈ wsX6_burst := fun w h => List.mem_cons_of_mem _ (List.mem_append_left _ (List.mem_append_left _ (List.mem_append_left _ (List.mem_append_left _ (List.mem_append_left _ (List.mem_append_right _ h))))))
  have inX1 : ∀ w ∈ wsX10, w ∈ wsX6_burst := fun w h => List.mem_cons_of_mem _ (List.mem_append_left _ (List.mem_append_left _ (List.mem_append_left _ (List.mem_append_left _ (List.mem_append_left _ (List.mem_append_left _ (List.mem_append_right _ h)))))))
  have inX6 : ∀ w ∈ wsX60, w ∈ wsX6_burst := fun w h => List.mem_cons_of_mem _ (List.mem_append_left _ (List.mem_append_left _ (List.mem_append_left _ (List.mem_append_left _ (List.mem_append_left _ (List.mem_append_left _ (List.mem_append_left _ (List.mem_append_right _ h))))))))
  obtain ⟨sp, hsp⟩ : ∃ sp, sp = F_X6_burst C q1 q2 := ⟨_, rfl⟩
  have hF := hsp.trans (F_X6_burst.eq_1 C q1 q2)
  refine lv_aload_n hx hb dX6_burst_0 rfl (lv_at hl 0 rfl) ?_
  refine lv_iload_n hx hb dX6_burst_1 rfl (lv_at hl 1 rfl) ?_
  refine gxV_v (rest := []) X hE (c_X6_needBurst l hlt D cy ss ad rest C q1) gy_X6_needBurst gX6_burst_X6_needBurst ⟨rfl, rfl, Nat.le_of_ble_eq_true rfl, Nat.le_of_ble_eq_true rfl⟩ 92 rfl rfl rfl hl rfl (Nat.le_of_ble_eq_true rfl) dX6_burst_2 ⟨Nat.le_of_ble_eq_true rfl, Nat.le_of_ble_eq_true rfl⟩ hw (fun E ce q9 _ H locs hp hw h1 h2 h3 => hprop _ E ce q9 () _ _ _ _ _ _ h1 h2 h3 ⟨hsp.symm.trans (hF.trans (xbo_l hp.1)), (by rw [List.mem_singleton.mp hp.2]; exact (List.mem_of_getElem? (i := 0) rfl))⟩ hw (Nat.le_of_ble_eq_true rfl) (Nat.le_of_ble_eq_true rfl)) (fun _ H locs hr1 hw => ?_)
  have hr1 : F_X6_needBurst C q1 = .inr () := hr1
  have hF := hF.trans (xbo_r hr1)
  refine lv_iload_n hx hb dX6_burst_5 rfl (lv_at hl 2 rfl) ?_
  refine lv_iconst (v := 0) hx hb dX6_burst_6 (by decide) ?_
  refine lv_iconst (v := 5) hx hb dX6_burst_7 (by decide) ?_
  refine gxS_v (rest := []) X hE (c_X6_needWithin l hlt D cy ss ad rest C q2 0 5) gy_X6_needWithin gX6_burst_X6_needWithin ⟨rfl, rfl, Nat.le_of_ble_eq_true rfl, Nat.le_of_ble_eq_true rfl⟩ rfl hl rfl (Nat.le_of_ble_eq_true rfl) dX6_burst_8 ⟨Nat.le_of_ble_eq_true rfl, Nat.le_of_ble_eq_true rfl⟩ hw (fun E ce q9 _ H locs hp hw h1 h2 h3 => hprop _ E ce q9 () _ _ _ _ _ _ h1 h2 h3 ⟨hsp.symm.trans (hF.trans (xbo_l hp.1)), (by rw [List.mem_singleton.mp hp.2]; exact (List.mem_of_getElem? (i := 1) rfl))⟩ hw (Nat.le_of_ble_eq_true rfl) (Nat.le_of_ble_eq_true rfl)) (fun _ H locs hr2 hw => ?_)
  have hr2 : F_X6_needWithin q2 0 5 = .inr () := hr2
  have hF := hF.trans (xbo_r hr2)
  refine lv_iload_n hx hb dX6_burst_11 rfl (lv_at hl 2 rfl) ?_
  rcases Decidable.em (q2 = 0) with c3 | c3
  · skip
    have hF := hF.trans (if_pos c3)
    refine lv_tableIn (off := 36) (tgt := 48) hx hb dX6_burst_12 (by rw [c3]; decide) (by rw [c3]; decide) (by rw [c3]; decide) (by decide) ?_
    refine lv_aload_n hx hb dX6_burst_48 rfl (lv_at hl 0 rfl) ?_
    refine g_get (v := .ref (ad 93)) (C := RX6) (T := TX6) (N := 5) (ci := 8) X inX6 hw 92 rfl rfl 0 (by decide) (List.mem_of_getElem? (i := 1) rfl) rfl rfl dX6_burst_49 ?_
    refine g_get (v := .ref (ad 95)) (C := RX1) (T := TX1) (N := 10) (ci := 3) X inX1 hw 93 rfl rfl 3 (by decide) (List.mem_of_getElem? (i := 2) rfl) rfl rfl dX6_burst_52 ?_
    refine g_get (v := .ref (ad 10)) (C := RX0) (T := TX0) (N := 10) (ci := 2) X inX0 hw 95 rfl rfl 0 (by decide) (List.mem_of_getElem? (i := 3) rfl) rfl rfl dX6_burst_55 ?_
    refine lv_iload_n hx hb dX6_burst_58 rfl (lv_at hl 1 rfl) ?_
    refine gcV_i (rest := []) X (cR_at l D cy ad rest C 5 (by decide) q1) gy_X4_at gX6_burst_X4_at ⟨rfl, rfl, Nat.le_of_ble_eq_true rfl, Nat.le_of_ble_eq_true rfl⟩ 10 rfl rfl rfl hl rfl (Nat.le_of_ble_eq_true rfl) dX6_burst_59 ⟨Nat.le_of_ble_eq_true rfl, Nat.le_of_ble_eq_true rfl⟩ hw (fun r4 _ H locs hr4 hw => ?_)
    have hr4 : r4 = rAt 100 (C.1 5) q1 := hr4
    have hF := hF.trans (bnd_eq hr4)
    exact hret _ _ () _ _ _ _ _ dX6_burst_62 (hsp.symm.trans hF) hw (Nat.le_of_ble_eq_true rfl) (Nat.le_of_ble_eq_true rfl)
  · skip
    have hF := hF.trans (if_neg c3)
    rcases Decidable.em (q2 = 1) with c6 | c6
    · skip
      have hF := hF.trans (if_pos c6)
      refine lv_tableIn (off := 51) (tgt := 63) hx hb dX6_burst_12 (by rw [c6]; decide) (by rw [c6]; decide) (by rw [c6]; decide) (by decide) ?_
      refine lv_aload_n hx hb dX6_burst_63 rfl (lv_at hl 0 rfl) ?_
      refine g_get (v := .ref (ad 93)) (C := RX6) (T := TX6) (N := 5) (ci := 8) X inX6 hw 92 rfl rfl 0 (by decide) (List.mem_of_getElem? (i := 1) rfl) rfl rfl dX6_burst_64 ?_
      refine g_get (v := .ref (ad 95)) (C := RX1) (T := TX1) (N := 10) (ci := 3) X inX1 hw 93 rfl rfl 3 (by decide) (List.mem_of_getElem? (i := 2) rfl) rfl rfl dX6_burst_67 ?_
      refine g_get (v := .ref (ad 12)) (C := RX0) (T := TX0) (N := 10) (ci := 2) X inX0 hw 95 rfl rfl 1 (by decide) (List.mem_of_getElem? (i := 4) rfl) rfl rfl dX6_burst_70 ?_
      refine lv_iload_n hx hb dX6_burst_73 rfl (lv_at hl 1 rfl) ?_
      refine gcV_i (rest := []) X (cR_at l D cy ad rest C 6 (by decide) q1) gy_X4_at gX6_burst_X4_at ⟨rfl, rfl, Nat.le_of_ble_eq_true rfl, Nat.le_of_ble_eq_true rfl⟩ 12 rfl rfl rfl hl rfl (Nat.le_of_ble_eq_true rfl) dX6_burst_74 ⟨Nat.le_of_ble_eq_true rfl, Nat.le_of_ble_eq_true rfl⟩ hw (fun r7 _ H locs hr7 hw => ?_)
      have hr7 : r7 = rAt 100 (C.1 6) q1 := hr7
      have hF := hF.trans (bnd_eq hr7)
      exact hret _ _ () _ _ _ _ _ dX6_burst_77 (hsp.symm.trans hF) hw (Nat.le_of_ble_eq_true rfl) (Nat.le_of_ble_eq_true rfl)
    · skip
      have hF := hF.trans (if_neg c6)
      rcases Decidable.em (q2 = 2) with c9 | c9
      · skip
        have hF := hF.trans (if_pos c9)
        refine lv_tableIn (off := 66) (tgt := 78) hx hb dX6_burst_12 (by rw [c9]; decide) (by rw [c9]; decide) (by rw [c9]; decide) (by decide) ?_
        refine lv_aload_n hx hb dX6_burst_78 rfl (lv_at hl 0 rfl) ?_
        refine g_get (v := .ref (ad 93)) (C := RX6) (T := TX6) (N := 5) (ci := 8) X inX6 hw 92 rfl rfl 0 (by decide) (List.mem_of_getElem? (i := 1) rfl) rfl rfl dX6_burst_79 ?_
        refine g_get (v := .ref (ad 95)) (C := RX1) (T := TX1) (N := 10) (ci := 3) X inX1 hw 93 rfl rfl 3 (by decide) (List.mem_of_getElem? (i := 2) rfl) rfl rfl dX6_burst_82 ?_
        refine g_get (v := .ref (ad 14)) (C := RX0) (T := TX0) (N := 10) (ci := 2) X inX0 hw 95 rfl rfl 2 (by decide) (List.mem_of_getElem? (i := 5) rfl) rfl rfl dX6_burst_85 ?_
        refine lv_iload_n hx hb dX6_burst_88 rfl (lv_at hl 1 rfl) ?_
        refine gcV_i (rest := []) X (cR_at l D cy ad rest C 7 (by decide) q1) gy_X4_at gX6_burst_X4_at ⟨rfl, rfl, Nat.le_of_ble_eq_true rfl, Nat.le_of_ble_eq_true rfl⟩ 14 rfl rfl rfl hl rfl (Nat.le_of_ble_eq_true rfl) dX6_burst_89 ⟨Nat.le_of_ble_eq_true rfl, Nat.le_of_ble_eq_true rfl⟩ hw (fun r10 _ H locs hr10 hw => ?_)
        have hr10 : r10 = rAt 100 (C.1 7) q1 := hr10
        have hF := hF.trans (bnd_eq hr10)
        exact hret _ _ () _ _ _ _ _ dX6_burst_92 (hsp.symm.trans hF) hw (Nat.le_of_ble_eq_true rfl) (Nat.le_of_ble_eq_true rfl)
      · skip
        have hF := hF.trans (if_neg c9)
        rcases Decidable.em (q2 = 3) with c12 | c12
        · skip
          have hF := hF.trans (if_pos c12)
          refine lv_tableIn (off := 81) (tgt := 93) hx hb dX6_burst_12 (by rw [c12]; decide) (by rw [c12]; decide) (by rw [c12]; decide) (by decide) ?_
          refine lv_aload_n hx hb dX6_burst_93 rfl (lv_at hl 0 rfl) ?_
          refine g_get (v := .ref (ad 93)) (C := RX6) (T := TX6) (N := 5) (ci := 8) X inX6 hw 92 rfl rfl 0 (by decide) (List.mem_of_getElem? (i := 1) rfl) rfl rfl dX6_burst_94 ?_
          refine g_get (v := .ref (ad 94)) (C := RX1) (T := TX1) (N := 10) (ci := 3) X inX1 hw 93 rfl rfl 2 (by decide) (List.mem_of_getElem? (i := 6) rfl) rfl rfl dX6_burst_97 ?_
          refine lv_iload_n hx hb dX6_burst_100 rfl (lv_at hl 1 rfl) ?_
          refine gcV_i (rest := []) X (c_X3_countOf l D cy ad rest C q1) gy_X3_countOf gX6_burst_X3_countOf ⟨rfl, rfl, Nat.le_of_ble_eq_true rfl, Nat.le_of_ble_eq_true rfl⟩ 94 rfl rfl rfl hl rfl (Nat.le_of_ble_eq_true rfl) dX6_burst_101 ⟨Nat.le_of_ble_eq_true rfl, Nat.le_of_ble_eq_true rfl⟩ hw (fun r13 _ H locs hr13 hw => ?_)
          have hr13 : r13 = F_X3_countOf C q1 := hr13
          have hF := hF.trans (bnd_eq hr13)
          exact hret _ _ () _ _ _ _ _ dX6_burst_104 (hsp.symm.trans hF) hw (Nat.le_of_ble_eq_true rfl) (Nat.le_of_ble_eq_true rfl)
        · skip
          have hF := hF.trans (if_neg c12)
          rcases Decidable.em (q2 = 4) with c15 | c15
          · skip
            have hF := hF.trans (if_pos c15)
            refine lv_tableIn (off := 93) (tgt := 105) hx hb dX6_burst_12 (by rw [c15]; decide) (by rw [c15]; decide) (by rw [c15]; decide) (by decide) ?_
            refine lv_aload_n hx hb dX6_burst_105 rfl (lv_at hl 0 rfl) ?_
            refine g_get (v := .ref (ad 93)) (C := RX6) (T := TX6) (N := 5) (ci := 8) X inX6 hw 92 rfl rfl 0 (by decide) (List.mem_of_getElem? (i := 1) rfl) rfl rfl dX6_burst_106 ?_
            refine lv_iload_n hx hb dX6_burst_109 rfl (lv_at hl 1 rfl) ?_
            refine gcV_i (rest := []) X (c_X1_resultOf l D cy ad rest C q1) gy_X1_resultOf gX6_burst_X1_resultOf ⟨rfl, rfl, Nat.le_of_ble_eq_true rfl, Nat.le_of_ble_eq_true rfl⟩ 93 rfl rfl rfl hl rfl (Nat.le_of_ble_eq_true rfl) dX6_burst_110 ⟨Nat.le_of_ble_eq_true rfl, Nat.le_of_ble_eq_true rfl⟩ hw (fun r16 _ H locs hr16 hw => ?_)
            have hr16 : r16 = F_X1_resultOf C q1 := hr16
            have hF := hF.trans (bnd_eq hr16)
            exact hret _ _ () _ _ _ _ _ dX6_burst_113 (hsp.symm.trans hF) hw (Nat.le_of_ble_eq_true rfl) (Nat.le_of_ble_eq_true rfl)
          · skip
            have hF := hF.trans (if_neg c15)
            refine lv_tableOut (tgt := 114) hx hb dX6_burst_12 (by have := tI (z := 0) c3 rfl; have := tI (z := 1) c6 rfl; have := tI (z := 2) c9 rfl; have := tI (z := 3) c12 rfl; have := tI (z := 4) c15 rfl; omega) (by decide) ?_
            refine lv_aload_n hx hb dX6_burst_114 rfl (lv_at hl 0 rfl) ?_
            refine g_get (v := .ref (ad 93)) (C := RX6) (T := TX6) (N := 5) (ci := 8) X inX6 hw 92 rfl rfl 0 (by decide) (List.mem_of_getElem? (i := 1) rfl) rfl rfl dX6_burst_115 ?_
            refine g_get (v := .ref (ad 95)) (C := RX1) (T := TX1) (N := 10) (ci := 3) X inX1 hw 93 rfl rfl 3 (by decide) (List.mem_of_getElem? (i := 2) rfl) rfl rfl dX6_burst_118 ?_
            refine g_get (v := .ref (ad 18)) (C := RX0) (T := TX0) (N := 10) (ci := 2) X inX0 hw 95 rfl rfl 4 (by decide) (List.mem_of_getElem? (i := 7) rfl) rfl rfl dX6_burst_121 ?_
            refine lv_iload_n hx hb dX6_burst_124 rfl (lv_at hl 1 rfl) ?_
            refine gcV_i (rest := []) X (cR_at l D cy ad rest C 9 (by decide) q1) gy_X4_at gX6_burst_X4_at ⟨rfl, rfl, Nat.le_of_ble_eq_true rfl, Nat.le_of_ble_eq_true rfl⟩ 18 rfl rfl rfl hl rfl (Nat.le_of_ble_eq_true rfl) dX6_burst_125 ⟨Nat.le_of_ble_eq_true rfl, Nat.le_of_ble_eq_true rfl⟩ hw (fun r18 _ H locs hr18 hw => ?_)
            have hr18 : r18 = rAt 100 (C.1 9) q1 := hr18
            have hF := hF.trans (bnd_eq hr18)
            exact hret _ _ () _ _ _ _ _ dX6_burst_128 (hsp.symm.trans hF) hw (Nat.le_of_ble_eq_true rfl) (Nat.le_of_ble_eq_true rfl)
theorem gy_X6_isClosed : gY yX6_isClosed RX6 cX6_isClosed 2 (some .boolean) wsX6_isClosed 1 := ⟨⟨_, rfl⟩, rfl, by decide +kernel, by decide +kernel, by decide +kernel⟩
def F_X6_isClosed (C : CS) (q1 : Int32) : String ⊕ Int32 := (xbo (F_X6_needBurst C q1) (fun _ => (bnd (F_X0_isOpen C q1) (fun r2 => (if r2 = 0 then .inr 1 else .inr 0)))))
abbrev rmX6_isClosed : Room := { frames := 7, cells := 1, slots := 6, locals := 221 }
set_option maxHeartbeats 4000000 in
set_option maxRecDepth 100000 in
theorem c_X6_isClosed (l : Launch) (hlt : l.stackTraces = false) (D : va_G) (cy : Nat → ClassId) (ss : Nat → Nat) (ad : Nat → Nat) (rest : va_W) (C : CS) (q1 : Int32) : GXi l yX6_isClosed wsX6_isClosed rmX6_isClosed D cy ss [.ref (ad 92), .int q1] (CW cy ad C ++ rest) (fun (r : Int32) (_ : Unit) => F_X6_isClosed C q1 = .inr r ∧ (r = 0 ∨ r = 1)) (fun _ => CW cy ad C ++ rest) (fun (E : String) (_ : Unit) => F_X6_isClosed C q1 = .inl E ∧ E ∈ (["java/lang/IndexOutOfBoundsException"] : List String)) 1 6 := by
  refine GXz.intro cX6_isClosed 2 RX6 (by decide) rfl rfl (Nat.le_of_ble_eq_true rfl) ?_
  intro p e s m args below meth c A Q ls X hE hnt hret hthr hprop hl hw
  have hx := X.1
  have hb := X.2.1
  have hl : lv_has ls 2 [(0, .ref (ad 92)), (1, .int q1)] := hl
  have inX1 : ∀ w ∈ wsX10, w ∈ wsX6_isClosed := fun w h => List.mem_cons_of_mem _ (List.mem_append_left _ (List.mem_append_left _ (List.mem_append_left _ (List.mem_append_left _ (List.mem_append_right _ h)))))
  have inX6 : ∀ w ∈ wsX60, w ∈ wsX6_isClosed := fun w h => List.mem_cons_of_mem _ (List.mem_append_left _ (List.mem_append_left _ (List.mem_append_left _ (List.mem_append_left _ (List.mem_append_left _ (List.mem_append_right _ h))))))
  obtain ⟨sp, hsp⟩ : ∃ sp, sp = F_X6_isClosed C q1 := ⟨_, rfl⟩
  have hF := hsp.trans (F_X6_isClosed.eq_1 C q1)
  refine lv_aload_n hx hb dX6_isClosed_0 rfl (lv_at hl 0 rfl) ?_
  refine lv_iload_n hx hb dX6_isClosed_1 rfl (lv_at hl 1 rfl) ?_
  refine gxV_v (rest := []) X hE (c_X6_needBurst l hlt D cy ss ad rest C q1) gy_X6_needBurst gX6_isClosed_X6_needBurst ⟨rfl, rfl, Nat.le_of_ble_eq_true rfl, Nat.le_of_ble_eq_true rfl⟩ 92 rfl rfl rfl hl rfl (Nat.le_of_ble_eq_true rfl) dX6_isClosed_2 ⟨Nat.le_of_ble_eq_true rfl, Nat.le_of_ble_eq_true rfl⟩ hw (fun E ce q9 _ H locs hp hw h1 h2 h3 => hprop _ E ce q9 () _ _ _ _ _ _ h1 h2 h3 ⟨hsp.symm.trans (hF.trans (xbo_l hp.1)), (by rw [List.mem_singleton.mp hp.2]; exact (List.mem_of_getElem? (i := 0) rfl))⟩ hw (Nat.le_of_ble_eq_true rfl) (Nat.le_of_ble_eq_true rfl)) (fun _ H locs hr1 hw => ?_)
  have hr1 : F_X6_needBurst C q1 = .inr () := hr1
  have hF := hF.trans (xbo_r hr1)
  refine lv_aload_n hx hb dX6_isClosed_5 rfl (lv_at hl 0 rfl) ?_
  refine g_get (v := .ref (ad 93)) (C := RX6) (T := TX6) (N := 5) (ci := 8) X inX6 hw 92 rfl rfl 0 (by decide) (List.mem_of_getElem? (i := 1) rfl) rfl rfl dX6_isClosed_6 ?_
  refine g_get (v := .ref (ad 95)) (C := RX1) (T := TX1) (N := 10) (ci := 3) X inX1 hw 93 rfl rfl 3 (by decide) (List.mem_of_getElem? (i := 2) rfl) rfl rfl dX6_isClosed_9 ?_
  refine lv_iload_n hx hb dX6_isClosed_12 rfl (lv_at hl 1 rfl) ?_
  refine gcV_i (rest := []) X (c_X0_isOpen l D cy ad rest C q1) gy_X0_isOpen gX6_isClosed_X0_isOpen ⟨rfl, rfl, Nat.le_of_ble_eq_true rfl, Nat.le_of_ble_eq_true rfl⟩ 95 rfl rfl rfl hl rfl (Nat.le_of_ble_eq_true rfl) dX6_isClosed_13 ⟨Nat.le_of_ble_eq_true rfl, Nat.le_of_ble_eq_true rfl⟩ hw (fun r2 _ H locs hr2 hw => ?_)
  obtain ⟨hr2, zr2⟩ : r2 = F_X0_isOpen C q1 ∧ (r2 = 0 ∨ r2 = 1) := hr2
  have hF := hF.trans (bnd_eq hr2)
  refine lv_if_ne (tgt := 23) hx hb dX6_isClosed_16 (by decide) (fun c4 => ?_) (fun c4 => ?_)
  · skip
    have hF := hF.trans (if_neg c4)
    refine lv_iconst (v := 0) hx hb dX6_isClosed_23 (by decide) ?_
    exact hret _ _ () _ _ _ _ _ dX6_isClosed_24 (Or.inl rfl) ⟨hsp.symm.trans hF, (Or.inl rfl)⟩ hw (Nat.le_of_ble_eq_true rfl) (Nat.le_of_ble_eq_true rfl)
  · skip
    have hF := hF.trans (if_pos c4)
    refine lv_iconst (v := 1) hx hb dX6_isClosed_19 (by decide) ?_
    refine lv_goto (tgt := 24) hx hb dX6_isClosed_20 (by decide) ?_
    exact hret _ _ () _ _ _ _ _ dX6_isClosed_24 (Or.inr rfl) ⟨hsp.symm.trans hF, (Or.inr rfl)⟩ hw (Nat.le_of_ble_eq_true rfl) (Nat.le_of_ble_eq_true rfl)
theorem gy_X6_isDirty : gY yX6_isDirty RX6 cX6_isDirty 2 (some .boolean) wsX6_isDirty 1 := ⟨⟨_, rfl⟩, rfl, by decide +kernel, by decide +kernel, by decide +kernel⟩
def F_X6_isDirty (C : CS) (q1 : Int32) : String ⊕ Int32 := (xbo (F_X6_needBurst C q1) (fun _ => (bnd (F_X0_hasFired C q1) (fun r2 => (if r2 = 0 then .inr 1 else (bnd (F_X1_resultOf C q1) (fun r5 => (bnd (F_X0_differsFromFired C q1 r5) (fun r7 => (if r7 = 0 then .inr 0 else .inr 1))))))))))
abbrev rmX6_isDirty : Room := { frames := 7, cells := 1, slots := 6, locals := 221 }
set_option maxHeartbeats 4000000 in
set_option maxRecDepth 100000 in
theorem c_X6_isDirty (l : Launch) (hlt : l.stackTraces = false) (D : va_G) (cy : Nat → ClassId) (ss : Nat → Nat) (ad : Nat → Nat) (rest : va_W) (C : CS) (q1 : Int32) : GXi l yX6_isDirty wsX6_isDirty rmX6_isDirty D cy ss [.ref (ad 92), .int q1] (CW cy ad C ++ rest) (fun (r : Int32) (_ : Unit) => F_X6_isDirty C q1 = .inr r ∧ (r = 0 ∨ r = 1)) (fun _ => CW cy ad C ++ rest) (fun (E : String) (_ : Unit) => F_X6_isDirty C q1 = .inl E ∧ E ∈ (["java/lang/IndexOutOfBoundsException"] : List String)) 1 6 := by
  refine GXz.intro cX6_isDirty 2 RX6 (by decide) rfl rfl (Nat.le_of_ble_eq_true rfl) ?_
  intro p e s m args below meth c A Q ls X hE hnt hret hthr hprop hl hw
  have hx := X.1
  have hb := X.2.1
  have hl : lv_has ls 2 [(0, .ref (ad 92)), (1, .int q1)] := hl
  have inX1 : ∀ w ∈ wsX10, w ∈ wsX6_isDirty := fun w h => List.mem_cons_of_mem _ (List.mem_append_left _ (List.mem_append_left _ (List.mem_append_left _ (List.mem_append_left _ (List.mem_append_left _ (List.mem_append_right _ h))))))
  have inX6 : ∀ w ∈ wsX60, w ∈ wsX6_isDirty := fun w h => List.mem_cons_of_mem _ (List.mem_append_left _ (List.mem_append_left _ (List.mem_append_left _ (List.mem_append_left _ (List.mem_append_left _ (List.mem_append_left _ (List.mem_append_right _ h)))))))
  obtain ⟨sp, hsp⟩ : ∃ sp, sp = F_X6_isDirty C q1 := ⟨_, rfl⟩
  have hF := hsp.trans (F_X6_isDirty.eq_1 C q1)
  refine lv_aload_n hx hb dX6_isDirty_0 rfl (lv_at hl 0 rfl) ?_
  refine lv_iload_n hx hb dX6_isDirty_1 rfl (lv_at hl 1 rfl) ?_
  refine gxV_v (rest := []) X hE (c_X6_needBurst l hlt D cy ss ad rest C q1) gy_X6_needBurst gX6_isDirty_X6_needBurst ⟨rfl, rfl, Nat.le_of_ble_eq_true rfl, Nat.le_of_ble_eq_true rfl⟩ 92 rfl rfl rfl hl rfl (Nat.le_of_ble_eq_true rfl) dX6_isDirty_2 ⟨Nat.le_of_ble_eq_true rfl, Nat.le_of_ble_eq_true rfl⟩ hw (fun E ce q9 _ H locs hp hw h1 h2 h3 => hprop _ E ce q9 () _ _ _ _ _ _ h1 h2 h3 ⟨hsp.symm.trans (hF.trans (xbo_l hp.1)), (by rw [List.mem_singleton.mp hp.2]; exact (List.mem_of_getElem? (i := 0) rfl))⟩ hw (Nat.le_of_ble_eq_true rfl) (Nat.le_of_ble_eq_true rfl)) (fun _ H locs hr1 hw => ?_)
  have hr1 : F_X6_needBurst C q1 = .inr () := hr1
  have hF := hF.trans (xbo_r hr1)
  refine lv_aload_n hx hb dX6_isDirty_5 rfl (lv_at hl 0 rfl) ?_
  refine g_get (v := .ref (ad 93)) (C := RX6) (T := TX6) (N := 5) (ci := 8) X inX6 hw 92 rfl rfl 0 (by decide) (List.mem_of_getElem? (i := 1) rfl) rfl rfl dX6_isDirty_6 ?_
  refine g_get (v := .ref (ad 95)) (C := RX1) (T := TX1) (N := 10) (ci := 3) X inX1 hw 93 rfl rfl 3 (by decide) (List.mem_of_getElem? (i := 2) rfl) rfl rfl dX6_isDirty_9 ?_
  refine lv_iload_n hx hb dX6_isDirty_12 rfl (lv_at hl 1 rfl) ?_
  refine gcV_i (rest := []) X (c_X0_hasFired l D cy ad rest C q1) gy_X0_hasFired gX6_isDirty_X0_hasFired ⟨rfl, rfl, Nat.le_of_ble_eq_true rfl, Nat.le_of_ble_eq_true rfl⟩ 95 rfl rfl rfl hl rfl (Nat.le_of_ble_eq_true rfl) dX6_isDirty_13 ⟨Nat.le_of_ble_eq_true rfl, Nat.le_of_ble_eq_true rfl⟩ hw (fun r2 _ H locs hr2 hw => ?_)
  obtain ⟨hr2, zr2⟩ : r2 = F_X0_hasFired C q1 ∧ (r2 = 0 ∨ r2 = 1) := hr2
  have hF := hF.trans (bnd_eq hr2)
  refine lv_if_eq (tgt := 41) hx hb dX6_isDirty_16 (by decide) (fun c4 => ?_) (fun c4 => ?_)
  · skip
    have hF := hF.trans (if_pos c4)
    refine lv_iconst (v := 1) hx hb dX6_isDirty_41 (by decide) ?_
    refine lv_goto (tgt := 46) hx hb dX6_isDirty_42 (by decide) ?_
    exact hret _ _ () _ _ _ _ _ dX6_isDirty_46 (Or.inr rfl) ⟨hsp.symm.trans hF, (Or.inr rfl)⟩ hw (Nat.le_of_ble_eq_true rfl) (Nat.le_of_ble_eq_true rfl)
  · skip
    have hF := hF.trans (if_neg c4)
    refine lv_aload_n hx hb dX6_isDirty_19 rfl (lv_at hl 0 rfl) ?_
    refine g_get (v := .ref (ad 93)) (C := RX6) (T := TX6) (N := 5) (ci := 8) X inX6 hw 92 rfl rfl 0 (by decide) (List.mem_of_getElem? (i := 1) rfl) rfl rfl dX6_isDirty_20 ?_
    refine g_get (v := .ref (ad 95)) (C := RX1) (T := TX1) (N := 10) (ci := 3) X inX1 hw 93 rfl rfl 3 (by decide) (List.mem_of_getElem? (i := 2) rfl) rfl rfl dX6_isDirty_23 ?_
    refine lv_iload_n hx hb dX6_isDirty_26 rfl (lv_at hl 1 rfl) ?_
    refine lv_aload_n hx hb dX6_isDirty_27 rfl (lv_at hl 0 rfl) ?_
    refine g_get (v := .ref (ad 93)) (C := RX6) (T := TX6) (N := 5) (ci := 8) X inX6 hw 92 rfl rfl 0 (by decide) (List.mem_of_getElem? (i := 1) rfl) rfl rfl dX6_isDirty_28 ?_
    refine lv_iload_n hx hb dX6_isDirty_31 rfl (lv_at hl 1 rfl) ?_
    refine gcV_i (rest := [.int q1, .ref (ad 95)]) X (c_X1_resultOf l D cy ad rest C q1) gy_X1_resultOf gX6_isDirty_X1_resultOf ⟨rfl, rfl, Nat.le_of_ble_eq_true rfl, Nat.le_of_ble_eq_true rfl⟩ 93 rfl rfl rfl hl rfl (Nat.le_of_ble_eq_true rfl) dX6_isDirty_32 ⟨Nat.le_of_ble_eq_true rfl, Nat.le_of_ble_eq_true rfl⟩ hw (fun r5 _ H locs hr5 hw => ?_)
    have hr5 : r5 = F_X1_resultOf C q1 := hr5
    have hF := hF.trans (bnd_eq hr5)
    refine gcV_i (rest := []) X (c_X0_differsFromFired l D cy ad rest C q1 r5) gy_X0_differsFromFired gX6_isDirty_X0_differsFromFired ⟨rfl, rfl, Nat.le_of_ble_eq_true rfl, Nat.le_of_ble_eq_true rfl⟩ 95 rfl rfl rfl hl rfl (Nat.le_of_ble_eq_true rfl) dX6_isDirty_35 ⟨Nat.le_of_ble_eq_true rfl, Nat.le_of_ble_eq_true rfl⟩ hw (fun r7 _ H locs hr7 hw => ?_)
    obtain ⟨hr7, zr7⟩ : r7 = F_X0_differsFromFired C q1 r5 ∧ (r7 = 0 ∨ r7 = 1) := hr7
    have hF := hF.trans (bnd_eq hr7)
    refine lv_if_eq (tgt := 45) hx hb dX6_isDirty_38 (by decide) (fun c9 => ?_) (fun c9 => ?_)
    · skip
      have hF := hF.trans (if_pos c9)
      refine lv_iconst (v := 0) hx hb dX6_isDirty_45 (by decide) ?_
      exact hret _ _ () _ _ _ _ _ dX6_isDirty_46 (Or.inl rfl) ⟨hsp.symm.trans hF, (Or.inl rfl)⟩ hw (Nat.le_of_ble_eq_true rfl) (Nat.le_of_ble_eq_true rfl)
    · skip
      have hF := hF.trans (if_neg c9)
      refine lv_iconst (v := 1) hx hb dX6_isDirty_41 (by decide) ?_
      refine lv_goto (tgt := 46) hx hb dX6_isDirty_42 (by decide) ?_
      exact hret _ _ () _ _ _ _ _ dX6_isDirty_46 (Or.inr rfl) ⟨hsp.symm.trans hF, (Or.inr rfl)⟩ hw (Nat.le_of_ble_eq_true rfl) (Nat.le_of_ble_eq_true rfl)
theorem gy_X6_burstAt : gY yX6_burstAt RX6 cX6_burstAt 3 (some .int) wsX6_burstAt 2 := ⟨⟨_, rfl⟩, rfl, by decide +kernel, by decide +kernel, by decide +kernel⟩
def F_X6_burstAt (C : CS) (q1 : Int32) (q2 : Int32) : String ⊕ Int32 := (xbo (F_X6_needKey q1) (fun _ => (bnd (F_X0_atPlace C q1 q2) (fun r2 => (xbo (F_X6_needFound r2) (fun r4 => .inr r4))))))
abbrev rmX6_burstAt : Room := { frames := 7, cells := 2, slots := 12, locals := 220 }
set_option maxHeartbeats 4000000 in
set_option maxRecDepth 100000 in
theorem c_X6_burstAt (l : Launch) (hlt : l.stackTraces = false) (D : va_G) (cy : Nat → ClassId) (ss : Nat → Nat) (ad : Nat → Nat) (rest : va_W) (C : CS) (q1 : Int32) (q2 : Int32) : GXi l yX6_burstAt wsX6_burstAt rmX6_burstAt D cy ss [.ref (ad 92), .int q1, .int q2] (CW cy ad C ++ rest) (fun (r : Int32) (_ : Unit) => F_X6_burstAt C q1 q2 = .inr r) (fun _ => CW cy ad C ++ rest) (fun (E : String) (_ : Unit) => F_X6_burstAt C q1 q2 = .inl E ∧ E ∈ (["java/lang/IndexOutOfBoundsException", "java/util/NoSuchElementException"] : List String)) 2 12 := by
  refine GXi.intro cX6_burstAt 3 RX6 (by decide) rfl rfl (Nat.le_of_ble_eq_true rfl) ?_
  intro p e s m args below meth c A Q ls X hE hnt hret hthr hprop hl hw
  have hx := X.1
  have hb := X.2.1
  have hl : lv_has ls 3 [(0, .ref (ad 92)), (1, .int q1), (2, .int q2)] := hl
  have inX1 : ∀ w ∈ wsX10, w ∈ wsX6_burstAt := fun w h => List.mem_cons_of_mem _ (List.mem_append_left _ (List.mem_append_left _ (List.mem_append_left _ (List.mem_append_left _ (List.mem_append_left _ (List.mem_append_right _ h))))))
  have inX6 : ∀ w ∈ wsX60, w ∈ wsX6_burstAt := fun w h => List.mem_cons_of_mem _ (List.mem_append_left _ (List.mem_append_left _ (List.mem_append_left _ (List.mem_append_left _ (List.mem_append_left _ (List.mem_append_left _ (List.mem_append_right _ h)))))))
  obtain ⟨sp, hsp⟩ : ∃ sp, sp = F_X6_burstAt C q1 q2 := ⟨_, rfl⟩
  have hF := hsp.trans (F_X6_burstAt.eq_1 C q1 q2)
  refine lv_iload_n hx hb dX6_burstAt_0 rfl (lv_at hl 1 rfl) ?_
  refine gxS_v (rest := []) X hE (c_X6_needKey l hlt D cy ss ad rest C q1) gy_X6_needKey gX6_burstAt_X6_needKey ⟨rfl, rfl, Nat.le_of_ble_eq_true rfl, Nat.le_of_ble_eq_true rfl⟩ rfl hl rfl (Nat.le_of_ble_eq_true rfl) dX6_burstAt_1 ⟨Nat.le_of_ble_eq_true rfl, Nat.le_of_ble_eq_true rfl⟩ hw (fun E ce q9 _ H locs hp hw h1 h2 h3 => hprop _ E ce q9 () _ _ _ _ _ _ h1 h2 h3 ⟨hsp.symm.trans (hF.trans (xbo_l hp.1)), (by rw [List.mem_singleton.mp hp.2]; exact (List.mem_of_getElem? (i := 0) rfl))⟩ hw (Nat.le_of_ble_eq_true rfl) (Nat.le_of_ble_eq_true rfl)) (fun _ H locs hr1 hw => ?_)
  have hr1 : F_X6_needKey q1 = .inr () := hr1
  have hF := hF.trans (xbo_r hr1)
  refine lv_aload_n hx hb dX6_burstAt_4 rfl (lv_at hl 0 rfl) ?_
  refine g_get (v := .ref (ad 93)) (C := RX6) (T := TX6) (N := 5) (ci := 8) X inX6 hw 92 rfl rfl 0 (by decide) (List.mem_of_getElem? (i := 1) rfl) rfl rfl dX6_burstAt_5 ?_
  refine g_get (v := .ref (ad 95)) (C := RX1) (T := TX1) (N := 10) (ci := 3) X inX1 hw 93 rfl rfl 3 (by decide) (List.mem_of_getElem? (i := 2) rfl) rfl rfl dX6_burstAt_8 ?_
  refine lv_iload_n hx hb dX6_burstAt_11 rfl (lv_at hl 1 rfl) ?_
  refine lv_iload_n hx hb dX6_burstAt_12 rfl (lv_at hl 2 rfl) ?_
  refine gcV_i (rest := []) X (c_X0_atPlace l D cy ad rest C q1 q2) gy_X0_atPlace gX6_burstAt_X0_atPlace ⟨rfl, rfl, Nat.le_of_ble_eq_true rfl, Nat.le_of_ble_eq_true rfl⟩ 95 rfl rfl rfl hl rfl (Nat.le_of_ble_eq_true rfl) dX6_burstAt_13 ⟨Nat.le_of_ble_eq_true rfl, Nat.le_of_ble_eq_true rfl⟩ hw (fun r2 _ H locs hr2 hw => ?_)
  have hr2 : r2 = F_X0_atPlace C q1 q2 := hr2
  have hF := hF.trans (bnd_eq hr2)
  refine gxS_i (rest := []) X hE (c_X6_needFound l hlt D cy ss ad rest C r2) gy_X6_needFound gX6_burstAt_X6_needFound ⟨rfl, rfl, Nat.le_of_ble_eq_true rfl, Nat.le_of_ble_eq_true rfl⟩ rfl hl rfl (Nat.le_of_ble_eq_true rfl) dX6_burstAt_16 ⟨Nat.le_of_ble_eq_true rfl, Nat.le_of_ble_eq_true rfl⟩ hw (fun E ce q9 _ H locs hp hw h1 h2 h3 => hprop _ E ce q9 () _ _ _ _ _ _ h1 h2 h3 ⟨hsp.symm.trans (hF.trans (xbo_l hp.1)), (by rw [List.mem_singleton.mp hp.2]; exact (List.mem_of_getElem? (i := 1) rfl))⟩ hw (Nat.le_of_ble_eq_true rfl) (Nat.le_of_ble_eq_true rfl)) (fun r4 _ H locs hr4 hw => ?_)
  have hr4 : F_X6_needFound r2 = .inr r4 := hr4
  have hF := hF.trans (xbo_r hr4)
  exact hret _ _ () _ _ _ _ _ dX6_burstAt_19 (hsp.symm.trans hF) hw (Nat.le_of_ble_eq_true rfl) (Nat.le_of_ble_eq_true rfl)
theorem gy_X6_joined : gY yX6_joined RX6 cX6_joined 3 (some .int) wsX6_joined 2 := ⟨⟨_, rfl⟩, rfl, by decide +kernel, by decide +kernel, by decide +kernel⟩
def F_X6_joined (C : CS) (q1 : Int32) (q2 : Int32) : String ⊕ Int32 := (xbo (F_X6_needKey q1) (fun _ => (xbo (F_X6_needWithin q2 0 9999) (fun _ => (bnd (rAt 8 (C.1 0) q1) (fun r3 => (bnd (F_X0_inReach C q1 q2 r3) (fun r5 => (xbo (F_X6_needFound r5) (fun r7 => .inr r7))))))))))
abbrev rmX6_joined : Room := { frames := 7, cells := 3, slots := 18, locals := 222 }
set_option maxHeartbeats 4000000 in
set_option maxRecDepth 100000 in
theorem c_X6_joined (l : Launch) (hlt : l.stackTraces = false) (D : va_G) (cy : Nat → ClassId) (ss : Nat → Nat) (ad : Nat → Nat) (rest : va_W) (C : CS) (q1 : Int32) (q2 : Int32) : GXi l yX6_joined wsX6_joined rmX6_joined D cy ss [.ref (ad 92), .int q1, .int q2] (CW cy ad C ++ rest) (fun (r : Int32) (_ : Unit) => F_X6_joined C q1 q2 = .inr r) (fun _ => CW cy ad C ++ rest) (fun (E : String) (_ : Unit) => F_X6_joined C q1 q2 = .inl E ∧ E ∈ (["java/lang/IndexOutOfBoundsException", "java/lang/IllegalArgumentException", "java/util/NoSuchElementException"] : List String)) 3 18 := by
  refine GXi.intro cX6_joined 3 RX6 (by decide) rfl rfl (Nat.le_of_ble_eq_true rfl) ?_
  intro p e s m args below meth c A Q ls X hE hnt hret hthr hprop hl hw
  have hx := X.1
  have hb := X.2.1
  have hl : lv_has ls 3 [(0, .ref (ad 92)), (1, .int q1), (2, .int q2)] := hl
  have inX1 : ∀ w ∈ wsX10, w ∈ wsX6_joined := fun w h => List.mem_cons_of_mem _ (List.mem_append_left _ (List.mem_append_left _ (List.mem_append_left _ (List.mem_append_left _ (List.mem_append_left _ (List.mem_append_left _ (List.mem_append_right _ h)))))))
  have inX6 : ∀ w ∈ wsX60, w ∈ wsX6_joined := fun w h => List.mem_cons_of_mem _ (List.mem_append_left _ (List.mem_append_left _ (List.mem_append_left _ (List.mem_append_left _ (List.mem_append_left _ (List.mem_append_left _ (List.mem_append_left _ (List.mem_append_right _ h))))))))
  obtain ⟨sp, hsp⟩ : ∃ sp, sp = F_X6_joined C q1 q2 := ⟨_, rfl⟩
  have hF := hsp.trans (F_X6_joined.eq_1 C q1 q2)
  refine lv_iload_n hx hb dX6_joined_0 rfl (lv_at hl 1 rfl) ?_
  refine gxS_v (rest := []) X hE (c_X6_needKey l hlt D cy ss ad rest C q1) gy_X6_needKey gX6_joined_X6_needKey ⟨rfl, rfl, Nat.le_of_ble_eq_true rfl, Nat.le_of_ble_eq_true rfl⟩ rfl hl rfl (Nat.le_of_ble_eq_true rfl) dX6_joined_1 ⟨Nat.le_of_ble_eq_true rfl, Nat.le_of_ble_eq_true rfl⟩ hw (fun E ce q9 _ H locs hp hw h1 h2 h3 => hprop _ E ce q9 () _ _ _ _ _ _ h1 h2 h3 ⟨hsp.symm.trans (hF.trans (xbo_l hp.1)), (by rw [List.mem_singleton.mp hp.2]; exact (List.mem_of_getElem? (i := 0) rfl))⟩ hw (Nat.le_of_ble_eq_true rfl) (Nat.le_of_ble_eq_true rfl)) (fun _ H locs hr1 hw => ?_)
  have hr1 : F_X6_needKey q1 = .inr () := hr1
  have hF := hF.trans (xbo_r hr1)
  refine lv_iload_n hx hb dX6_joined_4 rfl (lv_at hl 2 rfl) ?_
  refine lv_iconst (v := 0) hx hb dX6_joined_5 (by decide) ?_
  refine lv_sipush (v := 9999) hx hb dX6_joined_6 (by decide) ?_
  refine gxS_v (rest := []) X hE (c_X6_needWithin l hlt D cy ss ad rest C q2 0 9999) gy_X6_needWithin gX6_joined_X6_needWithin ⟨rfl, rfl, Nat.le_of_ble_eq_true rfl, Nat.le_of_ble_eq_true rfl⟩ rfl hl rfl (Nat.le_of_ble_eq_true rfl) dX6_joined_9 ⟨Nat.le_of_ble_eq_true rfl, Nat.le_of_ble_eq_true rfl⟩ hw (fun E ce q9 _ H locs hp hw h1 h2 h3 => hprop _ E ce q9 () _ _ _ _ _ _ h1 h2 h3 ⟨hsp.symm.trans (hF.trans (xbo_l hp.1)), (by rw [List.mem_singleton.mp hp.2]; exact (List.mem_of_getElem? (i := 1) rfl))⟩ hw (Nat.le_of_ble_eq_true rfl) (Nat.le_of_ble_eq_true rfl)) (fun _ H locs hr2 hw => ?_)
  have hr2 : F_X6_needWithin q2 0 9999 = .inr () := hr2
  have hF := hF.trans (xbo_r hr2)
  refine lv_aload_n hx hb dX6_joined_12 rfl (lv_at hl 0 rfl) ?_
  refine g_get (v := .ref (ad 93)) (C := RX6) (T := TX6) (N := 5) (ci := 8) X inX6 hw 92 rfl rfl 0 (by decide) (List.mem_of_getElem? (i := 1) rfl) rfl rfl dX6_joined_13 ?_
  refine g_get (v := .ref (ad 95)) (C := RX1) (T := TX1) (N := 10) (ci := 3) X inX1 hw 93 rfl rfl 3 (by decide) (List.mem_of_getElem? (i := 2) rfl) rfl rfl dX6_joined_16 ?_
  refine lv_iload_n hx hb dX6_joined_19 rfl (lv_at hl 1 rfl) ?_
  refine lv_iload_n hx hb dX6_joined_20 rfl (lv_at hl 2 rfl) ?_
  refine lv_aload_n hx hb dX6_joined_21 rfl (lv_at hl 0 rfl) ?_
  refine g_get (v := .ref (ad 93)) (C := RX6) (T := TX6) (N := 5) (ci := 8) X inX6 hw 92 rfl rfl 0 (by decide) (List.mem_of_getElem? (i := 1) rfl) rfl rfl dX6_joined_22 ?_
  refine g_get (v := .ref (ad 0)) (C := RX1) (T := TX1) (N := 10) (ci := 3) X inX1 hw 93 rfl rfl 0 (by decide) (List.mem_of_getElem? (i := 3) rfl) rfl rfl dX6_joined_25 ?_
  refine lv_iload_n hx hb dX6_joined_28 rfl (lv_at hl 1 rfl) ?_
  refine gcV_i (rest := [.int q2, .int q1, .ref (ad 95)]) X (cR_at l D cy ad rest C 0 (by decide) q1) gy_X4_at gX6_joined_X4_at ⟨rfl, rfl, Nat.le_of_ble_eq_true rfl, Nat.le_of_ble_eq_true rfl⟩ 0 rfl rfl rfl hl rfl (Nat.le_of_ble_eq_true rfl) dX6_joined_29 ⟨Nat.le_of_ble_eq_true rfl, Nat.le_of_ble_eq_true rfl⟩ hw (fun r3 _ H locs hr3 hw => ?_)
  have hr3 : r3 = rAt 8 (C.1 0) q1 := hr3
  have hF := hF.trans (bnd_eq hr3)
  refine gcV_i (rest := []) X (c_X0_inReach l D cy ad rest C q1 q2 r3) gy_X0_inReach gX6_joined_X0_inReach ⟨rfl, rfl, Nat.le_of_ble_eq_true rfl, Nat.le_of_ble_eq_true rfl⟩ 95 rfl rfl rfl hl rfl (Nat.le_of_ble_eq_true rfl) dX6_joined_32 ⟨Nat.le_of_ble_eq_true rfl, Nat.le_of_ble_eq_true rfl⟩ hw (fun r5 _ H locs hr5 hw => ?_)
  have hr5 : r5 = F_X0_inReach C q1 q2 r3 := hr5
  have hF := hF.trans (bnd_eq hr5)
  refine gxS_i (rest := []) X hE (c_X6_needFound l hlt D cy ss ad rest C r5) gy_X6_needFound gX6_joined_X6_needFound ⟨rfl, rfl, Nat.le_of_ble_eq_true rfl, Nat.le_of_ble_eq_true rfl⟩ rfl hl rfl (Nat.le_of_ble_eq_true rfl) dX6_joined_35 ⟨Nat.le_of_ble_eq_true rfl, Nat.le_of_ble_eq_true rfl⟩ hw (fun E ce q9 _ H locs hp hw h1 h2 h3 => hprop _ E ce q9 () _ _ _ _ _ _ h1 h2 h3 ⟨hsp.symm.trans (hF.trans (xbo_l hp.1)), (by rw [List.mem_singleton.mp hp.2]; exact (List.mem_of_getElem? (i := 2) rfl))⟩ hw (Nat.le_of_ble_eq_true rfl) (Nat.le_of_ble_eq_true rfl)) (fun r7 _ H locs hr7 hw => ?_)
  have hr7 : F_X6_needFound r5 = .inr r7 := hr7
  have hF := hF.trans (xbo_r hr7)
  exact hret _ _ () _ _ _ _ _ dX6_joined_38 (hsp.symm.trans hF) hw (Nat.le_of_ble_eq_true rfl) (Nat.le_of_ble_eq_true rfl)
theorem gy_X6_record : gY yX6_record RX6 cX6_record 5 (some .int) wsX6_record 3 := ⟨⟨_, rfl⟩, rfl, by decide +kernel, by decide +kernel, by decide +kernel⟩
def F_X6_record (C : CS) (q1 : Int32) (q2 : Int32) (q3 : Int32) : String ⊕ Int32 := (xbo (F_X6_needBurst C q1) (fun _ => (bnd (F_X3_placeOf C q1 q2) (fun r2 => (xbo (F_X6_needFound r2) (fun r4 => (if q3 = 0 then (bnd (rAt 100 (C.1 3) r4) (fun r6 => .inr r6)) else (bnd (rAt 100 (C.1 2) r4) (fun r8 => .inr r8)))))))))
abbrev rmX6_record : Room := { frames := 7, cells := 2, slots := 12, locals := 221 }
set_option maxHeartbeats 4000000 in
set_option maxRecDepth 100000 in
theorem c_X6_record (l : Launch) (hlt : l.stackTraces = false) (D : va_G) (cy : Nat → ClassId) (ss : Nat → Nat) (ad : Nat → Nat) (rest : va_W) (C : CS) (q1 : Int32) (q2 : Int32) (q3 : Int32) : GXi l yX6_record wsX6_record rmX6_record D cy ss [.ref (ad 92), .int q1, .int q2, .int q3] (CW cy ad C ++ rest) (fun (r : Int32) (_ : Unit) => F_X6_record C q1 q2 q3 = .inr r) (fun _ => CW cy ad C ++ rest) (fun (E : String) (_ : Unit) => F_X6_record C q1 q2 q3 = .inl E ∧ E ∈ (["java/lang/IndexOutOfBoundsException", "java/util/NoSuchElementException"] : List String)) 2 12 := by
  refine GXi.intro cX6_record 5 RX6 (by decide) rfl rfl (Nat.le_of_ble_eq_true rfl) ?_
  intro p e s m args below meth c A Q ls X hE hnt hret hthr hprop hl hw
  have hx := X.1
  have hb := X.2.1
  have hl : lv_has ls 5 [(0, .ref (ad 92)), (1, .int q1), (2, .int q2), (3, .int q3)] := hl
  have inX1 : ∀ w ∈ wsX10, w ∈ wsX6_record := fun w h => List.mem_cons_of_mem _ (List.mem_append_left _ (List.mem_append_left _ (List.mem_append_left _ (List.mem_append_left _ (List.mem_append_left _ (List.mem_append_left _ (List.mem_append_right _ h)))))))
  have inX3 : ∀ w ∈ wsX30, w ∈ wsX6_record := fun w h => List.mem_cons_of_mem _ (List.mem_append_left _ (List.mem_append_left _ (List.mem_append_left _ (List.mem_append_left _ (List.mem_append_left _ (List.mem_append_right _ h))))))
  have inX6 : ∀ w ∈ wsX60, w ∈ wsX6_record := fun w h => List.mem_cons_of_mem _ (List.mem_append_left _ (List.mem_append_left _ (List.mem_append_left _ (List.mem_append_left _ (List.mem_append_left _ (List.mem_append_left _ (List.mem_append_left _ (List.mem_append_right _ h))))))))
  obtain ⟨sp, hsp⟩ : ∃ sp, sp = F_X6_record C q1 q2 q3 := ⟨_, rfl⟩
  have hF := hsp.trans (F_X6_record.eq_1 C q1 q2 q3)
  refine lv_aload_n hx hb dX6_record_0 rfl (lv_at hl 0 rfl) ?_
  refine lv_iload_n hx hb dX6_record_1 rfl (lv_at hl 1 rfl) ?_
  refine gxV_v (rest := []) X hE (c_X6_needBurst l hlt D cy ss ad rest C q1) gy_X6_needBurst gX6_record_X6_needBurst ⟨rfl, rfl, Nat.le_of_ble_eq_true rfl, Nat.le_of_ble_eq_true rfl⟩ 92 rfl rfl rfl hl rfl (Nat.le_of_ble_eq_true rfl) dX6_record_2 ⟨Nat.le_of_ble_eq_true rfl, Nat.le_of_ble_eq_true rfl⟩ hw (fun E ce q9 _ H locs hp hw h1 h2 h3 => hprop _ E ce q9 () _ _ _ _ _ _ h1 h2 h3 ⟨hsp.symm.trans (hF.trans (xbo_l hp.1)), (by rw [List.mem_singleton.mp hp.2]; exact (List.mem_of_getElem? (i := 0) rfl))⟩ hw (Nat.le_of_ble_eq_true rfl) (Nat.le_of_ble_eq_true rfl)) (fun _ H locs hr1 hw => ?_)
  have hr1 : F_X6_needBurst C q1 = .inr () := hr1
  have hF := hF.trans (xbo_r hr1)
  refine lv_aload_n hx hb dX6_record_5 rfl (lv_at hl 0 rfl) ?_
  refine g_get (v := .ref (ad 93)) (C := RX6) (T := TX6) (N := 5) (ci := 8) X inX6 hw 92 rfl rfl 0 (by decide) (List.mem_of_getElem? (i := 1) rfl) rfl rfl dX6_record_6 ?_
  refine g_get (v := .ref (ad 94)) (C := RX1) (T := TX1) (N := 10) (ci := 3) X inX1 hw 93 rfl rfl 2 (by decide) (List.mem_of_getElem? (i := 2) rfl) rfl rfl dX6_record_9 ?_
  refine lv_iload_n hx hb dX6_record_12 rfl (lv_at hl 1 rfl) ?_
  refine lv_iload_n hx hb dX6_record_13 rfl (lv_at hl 2 rfl) ?_
  refine gcV_i (rest := []) X (c_X3_placeOf l D cy ad rest C q1 q2) gy_X3_placeOf gX6_record_X3_placeOf ⟨rfl, rfl, Nat.le_of_ble_eq_true rfl, Nat.le_of_ble_eq_true rfl⟩ 94 rfl rfl rfl hl rfl (Nat.le_of_ble_eq_true rfl) dX6_record_14 ⟨Nat.le_of_ble_eq_true rfl, Nat.le_of_ble_eq_true rfl⟩ hw (fun r2 _ H locs hr2 hw => ?_)
  have hr2 : r2 = F_X3_placeOf C q1 q2 := hr2
  have hF := hF.trans (bnd_eq hr2)
  refine gxS_i (rest := []) X hE (c_X6_needFound l hlt D cy ss ad rest C r2) gy_X6_needFound gX6_record_X6_needFound ⟨rfl, rfl, Nat.le_of_ble_eq_true rfl, Nat.le_of_ble_eq_true rfl⟩ rfl hl rfl (Nat.le_of_ble_eq_true rfl) dX6_record_17 ⟨Nat.le_of_ble_eq_true rfl, Nat.le_of_ble_eq_true rfl⟩ hw (fun E ce q9 _ H locs hp hw h1 h2 h3 => hprop _ E ce q9 () _ _ _ _ _ _ h1 h2 h3 ⟨hsp.symm.trans (hF.trans (xbo_l hp.1)), (by rw [List.mem_singleton.mp hp.2]; exact (List.mem_of_getElem? (i := 1) rfl))⟩ hw (Nat.le_of_ble_eq_true rfl) (Nat.le_of_ble_eq_true rfl)) (fun r4 _ H locs hr4 hw => ?_)
  have hr4 : F_X6_needFound r2 = .inr r4 := hr4
  have hF := hF.trans (xbo_r hr4)
  refine lv_istore (lv' := [(4, .int r4), (0, .ref (ad 92)), (1, .int q1), (2, .int q2), (3, .int q3)]) hx hb dX6_record_20 hl (by decide) rfl (fun ls hl => ?_)
  refine lv_iload_n hx hb dX6_record_22 rfl (lv_at hl 4 rfl) ?_
  refine lv_if_eq (tgt := 44) hx hb dX6_record_23 (by decide) (fun c5 => ?_) (fun c5 => ?_)
  · skip
    have hF := hF.trans (if_pos c5)
    refine lv_aload_n hx hb dX6_record_44 rfl (lv_at hl 1 rfl) ?_
    refine g_get (v := .ref (ad 93)) (C := RX6) (T := TX6) (N := 5) (ci := 8) X inX6 hw 92 rfl rfl 0 (by decide) (List.mem_of_getElem? (i := 1) rfl) rfl rfl dX6_record_45 ?_
    refine g_get (v := .ref (ad 94)) (C := RX1) (T := TX1) (N := 10) (ci := 3) X inX1 hw 93 rfl rfl 2 (by decide) (List.mem_of_getElem? (i := 2) rfl) rfl rfl dX6_record_48 ?_
    refine g_get (v := .ref (ad 6)) (C := RX3) (T := TX3) (N := 4) (ci := 5) X inX3 hw 94 rfl rfl 1 (by decide) (List.mem_of_getElem? (i := 4) rfl) rfl rfl dX6_record_51 ?_
    refine lv_iload hx hb dX6_record_54 (lv_at hl 0 rfl) ?_
    refine gcV_i (rest := []) X (cR_at l D cy ad rest C 3 (by decide) r4) gy_X4_at gX6_record_X4_at ⟨rfl, rfl, Nat.le_of_ble_eq_true rfl, Nat.le_of_ble_eq_true rfl⟩ 6 rfl rfl rfl hl rfl (Nat.le_of_ble_eq_true rfl) dX6_record_56 ⟨Nat.le_of_ble_eq_true rfl, Nat.le_of_ble_eq_true rfl⟩ hw (fun r6 _ H locs hr6 hw => ?_)
    have hr6 : r6 = rAt 100 (C.1 3) r4 := hr6
    have hF := hF.trans (bnd_eq hr6)
    exact hret _ _ () _ _ _ _ _ dX6_record_59 (hsp.symm.trans hF) hw (Nat.le_of_ble_eq_true rfl) (Nat.le_of_ble_eq_true rfl)
  · skip
    have hF := hF.trans (if_neg c5)
    refine lv_aload_n hx hb dX6_record_26 rfl (lv_at hl 1 rfl) ?_
    refine g_get (v := .ref (ad 93)) (C := RX6) (T := TX6) (N := 5) (ci := 8) X inX6 hw 92 rfl rfl 0 (by decide) (List.mem_of_getElem? (i := 1) rfl) rfl rfl dX6_record_27 ?_
    refine g_get (v := .ref (ad 94)) (C := RX1) (T := TX1) (N := 10) (ci := 3) X inX1 hw 93 rfl rfl 2 (by decide) (List.mem_of_getElem? (i := 2) rfl) rfl rfl dX6_record_30 ?_
    refine g_get (v := .ref (ad 4)) (C := RX3) (T := TX3) (N := 4) (ci := 5) X inX3 hw 94 rfl rfl 0 (by decide) (List.mem_of_getElem? (i := 3) rfl) rfl rfl dX6_record_33 ?_
    refine lv_iload hx hb dX6_record_36 (lv_at hl 0 rfl) ?_
    refine gcV_i (rest := []) X (cR_at l D cy ad rest C 2 (by decide) r4) gy_X4_at gX6_record_X4_at ⟨rfl, rfl, Nat.le_of_ble_eq_true rfl, Nat.le_of_ble_eq_true rfl⟩ 4 rfl rfl rfl hl rfl (Nat.le_of_ble_eq_true rfl) dX6_record_38 ⟨Nat.le_of_ble_eq_true rfl, Nat.le_of_ble_eq_true rfl⟩ hw (fun r8 _ H locs hr8 hw => ?_)
    have hr8 : r8 = rAt 100 (C.1 2) r4 := hr8
    have hF := hF.trans (bnd_eq hr8)
    refine lv_goto (tgt := 59) hx hb dX6_record_41 (by decide) ?_
    exact hret _ _ () _ _ _ _ _ dX6_record_59 (hsp.symm.trans hF) hw (Nat.le_of_ble_eq_true rfl) (Nat.le_of_ble_eq_true rfl)
theorem gy_X6_closesAt : gY yX6_closesAt RX6 cX6_closesAt 2 (some .int) wsX6_closesAt 1 := ⟨⟨_, rfl⟩, rfl, by decide +kernel, by decide +kernel, by decide +kernel⟩
def F_X6_closesAt (C : CS) (q1 : Int32) : String ⊕ Int32 := (xbo (F_X6_needBurst C q1) (fun _ => (xbo (F_X6_needOpen C q1) (fun _ => (bnd (F_X1_closingMark C q1) (fun r3 => .inr r3))))))
abbrev rmX6_closesAt : Room := { frames := 7, cells := 2, slots := 12, locals := 221 }
set_option maxHeartbeats 4000000 in
set_option maxRecDepth 100000 in
theorem c_X6_closesAt (l : Launch) (hlt : l.stackTraces = false) (D : va_G) (cy : Nat → ClassId) (ss : Nat → Nat) (ad : Nat → Nat) (rest : va_W) (C : CS) (q1 : Int32) : GXi l yX6_closesAt wsX6_closesAt rmX6_closesAt D cy ss [.ref (ad 92), .int q1] (CW cy ad C ++ rest) (fun (r : Int32) (_ : Unit) => F_X6_closesAt C q1 = .inr r) (fun _ => CW cy ad C ++ rest) (fun (E : String) (_ : Unit) => F_X6_closesAt C q1 = .inl E ∧ E ∈ (["java/lang/IndexOutOfBoundsException", "java/lang/IllegalStateException"] : List String)) 2 12 := by
  refine GXi.intro cX6_closesAt 2 RX6 (by decide) rfl rfl (Nat.le_of_ble_eq_true rfl) ?_
  intro p e s m args below meth c A Q ls X hE hnt hret hthr hprop hl hw
  have hx := X.1
  have hb := X.2.1
  have hl : lv_has ls 2 [(0, .ref (ad 92)), (1, .int q1)] := hl
  have inX6 : ∀ w ∈ wsX60, w ∈ wsX6_closesAt := fun w h => List.mem_cons_of_mem _ (List.mem_append_left _ (List.mem_append_left _ (List.mem_append_left _ (List.mem_append_left _ (List.mem_append_left _ (List.mem_append_left _ (List.mem_append_right _ h)))))))
  obtain ⟨sp, hsp⟩ : ∃ sp, sp = F_X6_closesAt C q1 := ⟨_, rfl⟩
  have hF := hsp.trans (F_X6_closesAt.eq_1 C q1)
  refine lv_aload_n hx hb dX6_closesAt_0 rfl (lv_at hl 0 rfl) ?_
  refine lv_iload_n hx hb dX6_closesAt_1 rfl (lv_at hl 1 rfl) ?_
  refine gxV_v (rest := []) X hE (c_X6_needBurst l hlt D cy ss ad rest C q1) gy_X6_needBurst gX6_closesAt_X6_needBurst ⟨rfl, rfl, Nat.le_of_ble_eq_true rfl, Nat.le_of_ble_eq_true rfl⟩ 92 rfl rfl rfl hl rfl (Nat.le_of_ble_eq_true rfl) dX6_closesAt_2 ⟨Nat.le_of_ble_eq_true rfl, Nat.le_of_ble_eq_true rfl⟩ hw (fun E ce q9 _ H locs hp hw h1 h2 h3 => hprop _ E ce q9 () _ _ _ _ _ _ h1 h2 h3 ⟨hsp.symm.trans (hF.trans (xbo_l hp.1)), (by rw [List.mem_singleton.mp hp.2]; exact (List.mem_of_getElem? (i := 0) rfl))⟩ hw (Nat.le_of_ble_eq_true rfl) (Nat.le_of_ble_eq_true rfl)) (fun _ H locs hr1 hw => ?_)
  have hr1 : F_X6_needBurst C q1 = .inr () := hr1
  have hF := hF.trans (xbo_r hr1)
  refine lv_aload_n hx hb dX6_closesAt_5 rfl (lv_at hl 0 rfl) ?_
  refine lv_iload_n hx hb dX6_closesAt_6 rfl (lv_at hl 1 rfl) ?_
  refine gxV_v (rest := []) X hE (c_X6_needOpen l hlt D cy ss ad rest C q1) gy_X6_needOpen gX6_closesAt_X6_needOpen ⟨rfl, rfl, Nat.le_of_ble_eq_true rfl, Nat.le_of_ble_eq_true rfl⟩ 92 rfl rfl rfl hl rfl (Nat.le_of_ble_eq_true rfl) dX6_closesAt_7 ⟨Nat.le_of_ble_eq_true rfl, Nat.le_of_ble_eq_true rfl⟩ hw (fun E ce q9 _ H locs hp hw h1 h2 h3 => hprop _ E ce q9 () _ _ _ _ _ _ h1 h2 h3 ⟨hsp.symm.trans (hF.trans (xbo_l hp.1)), (by rw [List.mem_singleton.mp hp.2]; exact (List.mem_of_getElem? (i := 1) rfl))⟩ hw (Nat.le_of_ble_eq_true rfl) (Nat.le_of_ble_eq_true rfl)) (fun _ H locs hr2 hw => ?_)
  have hr2 : F_X6_needOpen C q1 = .inr () := hr2
  have hF := hF.trans (xbo_r hr2)
  refine lv_aload_n hx hb dX6_closesAt_10 rfl (lv_at hl 0 rfl) ?_
  refine g_get (v := .ref (ad 93)) (C := RX6) (T := TX6) (N := 5) (ci := 8) X inX6 hw 92 rfl rfl 0 (by decide) (List.mem_of_getElem? (i := 1) rfl) rfl rfl dX6_closesAt_11 ?_
  refine lv_iload_n hx hb dX6_closesAt_14 rfl (lv_at hl 1 rfl) ?_
  refine gcV_i (rest := []) X (c_X1_closingMark l D cy ad rest C q1) gy_X1_closingMark gX6_closesAt_X1_closingMark ⟨rfl, rfl, Nat.le_of_ble_eq_true rfl, Nat.le_of_ble_eq_true rfl⟩ 93 rfl rfl rfl hl rfl (Nat.le_of_ble_eq_true rfl) dX6_closesAt_15 ⟨Nat.le_of_ble_eq_true rfl, Nat.le_of_ble_eq_true rfl⟩ hw (fun r3 _ H locs hr3 hw => ?_)
  have hr3 : r3 = F_X1_closingMark C q1 := hr3
  have hF := hF.trans (bnd_eq hr3)
  exact hret _ _ () _ _ _ _ _ dX6_closesAt_18 (hsp.symm.trans hF) hw (Nat.le_of_ble_eq_true rfl) (Nat.le_of_ble_eq_true rfl)
theorem gy_X6_nextClosing : gY yX6_nextClosing RX6 cX6_nextClosing 1 (some .int) wsX6_nextClosing 0 := ⟨⟨_, rfl⟩, rfl, by decide +kernel, by decide +kernel, by decide +kernel⟩
def F_X6_nextClosing (C : CS) : String ⊕ Int32 := (bnd (F_X1_leastClosingMark C) (fun r1 => (bnd (F_X1_firstToClose C r1) (fun r3 => (xbo (F_X6_needFound r3) (fun r5 => .inr r5))))))
abbrev rmX6_nextClosing : Room := { frames := 7, cells := 1, slots := 6, locals := 220 }
set_option maxHeartbeats 4000000 in
set_option maxRecDepth 100000 in
theorem c_X6_nextClosing (l : Launch) (hlt : l.stackTraces = false) (D : va_G) (cy : Nat → ClassId) (ss : Nat → Nat) (ad : Nat → Nat) (rest : va_W) (C : CS) : GXi l yX6_nextClosing wsX6_nextClosing rmX6_nextClosing D cy ss [.ref (ad 92)] (CW cy ad C ++ rest) (fun (r : Int32) (_ : Unit) => F_X6_nextClosing C = .inr r) (fun _ => CW cy ad C ++ rest) (fun (E : String) (_ : Unit) => F_X6_nextClosing C = .inl E ∧ E ∈ (["java/util/NoSuchElementException"] : List String)) 1 6 := by
  refine GXi.intro cX6_nextClosing 1 RX6 (by decide) rfl rfl (Nat.le_of_ble_eq_true rfl) ?_
  intro p e s m args below meth c A Q ls X hE hnt hret hthr hprop hl hw
  have hx := X.1
  have hb := X.2.1
  have hl : lv_has ls 1 [(0, .ref (ad 92))] := hl
  have inX6 : ∀ w ∈ wsX60, w ∈ wsX6_nextClosing := fun w h => List.mem_cons_of_mem _ (List.mem_append_left _ (List.mem_append_left _ (List.mem_append_left _ (List.mem_append_left _ (List.mem_append_left _ (List.mem_append_right _ h))))))
  obtain ⟨sp, hsp⟩ : ∃ sp, sp = F_X6_nextClosing C := ⟨_, rfl⟩
  have hF := hsp.trans (F_X6_nextClosing.eq_1 C)
  refine lv_aload_n hx hb dX6_nextClosing_0 rfl (lv_at hl 0 rfl) ?_
  refine g_get (v := .ref (ad 93)) (C := RX6) (T := TX6) (N := 5) (ci := 8) X inX6 hw 92 rfl rfl 0 (by decide) (List.mem_of_getElem? (i := 1) rfl) rfl rfl dX6_nextClosing_1 ?_
  refine lv_aload_n hx hb dX6_nextClosing_4 rfl (lv_at hl 0 rfl) ?_
  refine g_get (v := .ref (ad 93)) (C := RX6) (T := TX6) (N := 5) (ci := 8) X inX6 hw 92 rfl rfl 0 (by decide) (List.mem_of_getElem? (i := 1) rfl) rfl rfl dX6_nextClosing_5 ?_
  refine gcV_i (rest := [.ref (ad 93)]) X (c_X1_leastClosingMark l D cy ad rest C) gy_X1_leastClosingMark gX6_nextClosing_X1_leastClosingMark ⟨rfl, rfl, Nat.le_of_ble_eq_true rfl, Nat.le_of_ble_eq_true rfl⟩ 93 rfl rfl rfl hl rfl (Nat.le_of_ble_eq_true rfl) dX6_nextClosing_8 ⟨Nat.le_of_ble_eq_true rfl, Nat.le_of_ble_eq_true rfl⟩ hw (fun r1 _ H locs hr1 hw => ?_)
  have hr1 : r1 = F_X1_leastClosingMark C := hr1
  have hF := hF.trans (bnd_eq hr1)
  refine gcV_i (rest := []) X (c_X1_firstToClose l D cy ad rest C r1) gy_X1_firstToClose gX6_nextClosing_X1_firstToClose ⟨rfl, rfl, Nat.le_of_ble_eq_true rfl, Nat.le_of_ble_eq_true rfl⟩ 93 rfl rfl rfl hl rfl (Nat.le_of_ble_eq_true rfl) dX6_nextClosing_11 ⟨Nat.le_of_ble_eq_true rfl, Nat.le_of_ble_eq_true rfl⟩ hw (fun r3 _ H locs hr3 hw => ?_)
  have hr3 : r3 = F_X1_firstToClose C r1 := hr3
  have hF := hF.trans (bnd_eq hr3)
  refine gxS_i (rest := []) X hE (c_X6_needFound l hlt D cy ss ad rest C r3) gy_X6_needFound gX6_nextClosing_X6_needFound ⟨rfl, rfl, Nat.le_of_ble_eq_true rfl, Nat.le_of_ble_eq_true rfl⟩ rfl hl rfl (Nat.le_of_ble_eq_true rfl) dX6_nextClosing_14 ⟨Nat.le_of_ble_eq_true rfl, Nat.le_of_ble_eq_true rfl⟩ hw (fun E ce q9 _ H locs hp hw h1 h2 h3 => hprop _ E ce q9 () _ _ _ _ _ _ h1 h2 h3 ⟨hsp.symm.trans (hF.trans (xbo_l hp.1)), (by rw [List.mem_singleton.mp hp.2]; exact (List.mem_of_getElem? (i := 0) rfl))⟩ hw (Nat.le_of_ble_eq_true rfl) (Nat.le_of_ble_eq_true rfl)) (fun r5 _ H locs hr5 hw => ?_)
  have hr5 : F_X6_needFound r3 = .inr r5 := hr5
  have hF := hF.trans (xbo_r hr5)
  exact hret _ _ () _ _ _ _ _ dX6_nextClosing_17 (hsp.symm.trans hF) hw (Nat.le_of_ble_eq_true rfl) (Nat.le_of_ble_eq_true rfl)
theorem gy_X6_averageLength : gY yX6_averageLength RX6 cX6_averageLength 3 (some .double) wsX6_averageLength 1 := ⟨⟨_, rfl⟩, rfl, by decide +kernel, by decide +kernel, by decide +kernel⟩
def F_X6_averageLength (C : CS) (q1 : Int32) : String ⊕ UInt64 := (xbo (F_X6_needKey q1) (fun _ => (bnd (F_X0_countOfKey C q1) (fun r2 => (if r2 = 0 then .inl "java/lang/ArithmeticException" else (bnd (F_X0_lengthOfKey C q1) (fun r5 => .inr (FP.ddiv (FP.i2d r5) (FP.i2d r2)))))))))
abbrev rmX6_averageLength : Room := { frames := 7, cells := 2, slots := 12, locals := 220 }
set_option maxHeartbeats 4000000 in
set_option maxRecDepth 100000 in
theorem c_X6_averageLength (l : Launch) (hlt : l.stackTraces = false) (D : va_G) (cy : Nat → ClassId) (ss : Nat → Nat) (ad : Nat → Nat) (rest : va_W) (C : CS) (q1 : Int32) : GXd l yX6_averageLength wsX6_averageLength rmX6_averageLength D cy ss [.ref (ad 92), .int q1] (CW cy ad C ++ rest) (fun (r : UInt64) (_ : Unit) => F_X6_averageLength C q1 = .inr r) (fun _ => CW cy ad C ++ rest) (fun (E : String) (_ : Unit) => F_X6_averageLength C q1 = .inl E ∧ E ∈ (["java/lang/IndexOutOfBoundsException", "java/lang/ArithmeticException"] : List String)) 2 12 := by
  refine GXd.intro cX6_averageLength 3 RX6 (by decide) rfl rfl (Nat.le_of_ble_eq_true rfl) ?_
  intro p e s m args below meth c A Q ls X hE hnt hret hthr hprop hl hw
  have hx := X.1
  have hb := X.2.1
  have hl : lv_has ls 3 [(0, .ref (ad 92)), (1, .int q1)] := hl
  have inX1 : ∀ w ∈ wsX10, w ∈ wsX6_averageLength := fun w h => List.mem_cons_of_mem _ (List.mem_append_left _ (List.mem_append_left _ (List.mem_append_left _ (List.mem_append_left _ (List.mem_append_left _ (List.mem_append_right _ h))))))
  have inX6 : ∀ w ∈ wsX60, w ∈ wsX6_averageLength := fun w h => List.mem_cons_of_mem _ (List.mem_append_left _ (List.mem_append_left _ (List.mem_append_left _ (List.mem_append_left _ (List.mem_append_left _ (List.mem_append_left _ (List.mem_append_right _ h)))))))
  obtain ⟨sp, hsp⟩ : ∃ sp, sp = F_X6_averageLength C q1 := ⟨_, rfl⟩
  have hF := hsp.trans (F_X6_averageLength.eq_1 C q1)
  refine lv_iload_n hx hb dX6_averageLength_0 rfl (lv_at hl 1 rfl) ?_
  refine gxS_v (rest := []) X hE (c_X6_needKey l hlt D cy ss ad rest C q1) gy_X6_needKey gX6_averageLength_X6_needKey ⟨rfl, rfl, Nat.le_of_ble_eq_true rfl, Nat.le_of_ble_eq_true rfl⟩ rfl hl rfl (Nat.le_of_ble_eq_true rfl) dX6_averageLength_1 ⟨Nat.le_of_ble_eq_true rfl, Nat.le_of_ble_eq_true rfl⟩ hw (fun E ce q9 _ H locs hp hw h1 h2 h3 => hprop _ E ce q9 () _ _ _ _ _ _ h1 h2 h3 ⟨hsp.symm.trans (hF.trans (xbo_l hp.1)), (by rw [List.mem_singleton.mp hp.2]; exact (List.mem_of_getElem? (i := 0) rfl))⟩ hw (Nat.le_of_ble_eq_true rfl) (Nat.le_of_ble_eq_true rfl)) (fun _ H locs hr1 hw => ?_)
  have hr1 : F_X6_needKey q1 = .inr () := hr1
  have hF := hF.trans (xbo_r hr1)
  refine lv_aload_n hx hb dX6_averageLength_4 rfl (lv_at hl 0 rfl) ?_
  refine g_get (v := .ref (ad 93)) (C := RX6) (T := TX6) (N := 5) (ci := 8) X inX6 hw 92 rfl rfl 0 (by decide) (List.mem_of_getElem? (i := 3) rfl) rfl rfl dX6_averageLength_5 ?_
  refine g_get (v := .ref (ad 95)) (C := RX1) (T := TX1) (N := 10) (ci := 3) X inX1 hw 93 rfl rfl 3 (by decide) (List.mem_of_getElem? (i := 4) rfl) rfl rfl dX6_averageLength_8 ?_
  refine lv_iload_n hx hb dX6_averageLength_11 rfl (lv_at hl 1 rfl) ?_
  refine gcV_i (rest := []) X (c_X0_countOfKey l D cy ad rest C q1) gy_X0_countOfKey gX6_averageLength_X0_countOfKey ⟨rfl, rfl, Nat.le_of_ble_eq_true rfl, Nat.le_of_ble_eq_true rfl⟩ 95 rfl rfl rfl hl rfl (Nat.le_of_ble_eq_true rfl) dX6_averageLength_12 ⟨Nat.le_of_ble_eq_true rfl, Nat.le_of_ble_eq_true rfl⟩ hw (fun r2 _ H locs hr2 hw => ?_)
  have hr2 : r2 = F_X0_countOfKey C q1 := hr2
  have hF := hF.trans (bnd_eq hr2)
  refine lv_istore_n (lv' := [(2, .int r2), (0, .ref (ad 92)), (1, .int q1)]) hx hb dX6_averageLength_15 rfl hl (by decide) rfl (fun ls hl => ?_)
  refine lv_iload_n hx hb dX6_averageLength_16 rfl (lv_at hl 0 rfl) ?_
  refine lv_if_ne (tgt := 30) hx hb dX6_averageLength_17 (by decide) (fun c4 => ?_) (fun c4 => ?_)
  · skip
    have hF := hF.trans (if_neg c4)
    refine lv_aload_n hx hb dX6_averageLength_30 rfl (lv_at hl 1 rfl) ?_
    refine g_get (v := .ref (ad 93)) (C := RX6) (T := TX6) (N := 5) (ci := 8) X inX6 hw 92 rfl rfl 0 (by decide) (List.mem_of_getElem? (i := 3) rfl) rfl rfl dX6_averageLength_31 ?_
    refine g_get (v := .ref (ad 95)) (C := RX1) (T := TX1) (N := 10) (ci := 3) X inX1 hw 93 rfl rfl 3 (by decide) (List.mem_of_getElem? (i := 4) rfl) rfl rfl dX6_averageLength_34 ?_
    refine lv_iload_n hx hb dX6_averageLength_37 rfl (lv_at hl 2 rfl) ?_
    refine gcV_i (rest := []) X (c_X0_lengthOfKey l D cy ad rest C q1) gy_X0_lengthOfKey gX6_averageLength_X0_lengthOfKey ⟨rfl, rfl, Nat.le_of_ble_eq_true rfl, Nat.le_of_ble_eq_true rfl⟩ 95 rfl rfl rfl hl rfl (Nat.le_of_ble_eq_true rfl) dX6_averageLength_38 ⟨Nat.le_of_ble_eq_true rfl, Nat.le_of_ble_eq_true rfl⟩ hw (fun r5 _ H locs hr5 hw => ?_)
    have hr5 : r5 = F_X0_lengthOfKey C q1 := hr5
    have hF := hF.trans (bnd_eq hr5)
    refine lv_i2d hx hb dX6_averageLength_41 ?_
    refine lv_iload_n hx hb dX6_averageLength_42 rfl (lv_at hl 0 rfl) ?_
    refine lv_i2d hx hb dX6_averageLength_43 ?_
    refine lv_ddiv hx hb dX6_averageLength_44 (ddiv_ok (by assumption)) ?_
    exact hret _ _ () _ _ _ _ _ dX6_averageLength_45 (hsp.symm.trans hF) hw (Nat.le_of_ble_eq_true rfl) (Nat.le_of_ble_eq_true rfl)
  · skip
    have hF := hF.trans (if_pos c4)
    exact hthr _ _ () _ _ _ _ _ _ (fun Qc XC mc ms free hxx hff hcc hss => vx_throwS (A := A) hx hb hlt X.2.2.2.2.1 (by decide +kernel) (by decide +kernel) (X.2.2.2.2.2.1 _ (List.mem_of_getElem? (i := 1) rfl)) (X.2.2.2.2.2.1 _ (List.mem_of_getElem? (i := 2) rfl)) hE.2.2.1.2.2.2.2.2.2.1 (vx_hat (fun w h => X.2.2.2.2.2.1 w (List.mem_cons_of_mem _ (List.mem_append_left _ (List.mem_append_left _ (List.mem_append_right _ h))))) ax_180 (gBAE_of hE.2.2.2)) ax_180g hE.1 hE.2.1 hw.2.2 (hl.1.trans X.2.2.2.1.symm) dX6_averageLength_20 dX6_averageLength_23 dX6_averageLength_24 dX6_averageLength_26 dX6_averageLength_29 (fun x hx => (hnt x hx).elim) (Nat.le_of_ble_eq_true rfl) (Nat.le_of_ble_eq_true rfl) (Nat.le_of_ble_eq_true rfl) (Nat.le_of_ble_eq_true rfl) X.2.2.1 hxx hff hcc hss) ⟨hsp.symm.trans hF, (List.mem_of_getElem? (i := 1) rfl)⟩ hw (Nat.le_of_ble_eq_true rfl) (Nat.le_of_ble_eq_true rfl)
theorem gy_X6_regrouped : gY yX6_regrouped RX6 cX6_regrouped 2 (some .int) wsX6_regrouped 1 := ⟨⟨_, rfl⟩, rfl, by decide +kernel, by decide +kernel, by decide +kernel⟩
def F_X6_regrouped (C : CS) (q1 : Int32) : String ⊕ Int32 := (xbo (F_X6_needKey q1) (fun _ => (bnd (F_X1_groupAnew C q1) (fun r2 => .inr r2))))
abbrev rmX6_regrouped : Room := { frames := 7, cells := 1, slots := 6, locals := 220 }
set_option maxHeartbeats 4000000 in
set_option maxRecDepth 100000 in
theorem c_X6_regrouped (l : Launch) (hlt : l.stackTraces = false) (D : va_G) (cy : Nat → ClassId) (ss : Nat → Nat) (ad : Nat → Nat) (rest : va_W) (C : CS) (q1 : Int32) : GXi l yX6_regrouped wsX6_regrouped rmX6_regrouped D cy ss [.ref (ad 92), .int q1] (CW cy ad C ++ rest) (fun (r : Int32) (_ : Unit) => F_X6_regrouped C q1 = .inr r) (fun _ => CW cy ad C ++ rest) (fun (E : String) (_ : Unit) => F_X6_regrouped C q1 = .inl E ∧ E ∈ (["java/lang/IndexOutOfBoundsException"] : List String)) 1 6 := by
  refine GXi.intro cX6_regrouped 2 RX6 (by decide) rfl rfl (Nat.le_of_ble_eq_true rfl) ?_
  intro p e s m args below meth c A Q ls X hE hnt hret hthr hprop hl hw
  have hx := X.1
  have hb := X.2.1
  have hl : lv_has ls 2 [(0, .ref (ad 92)), (1, .int q1)] := hl
  have inX6 : ∀ w ∈ wsX60, w ∈ wsX6_regrouped := fun w h => List.mem_cons_of_mem _ (List.mem_append_left _ (List.mem_append_left _ (List.mem_append_left _ (List.mem_append_left _ (List.mem_append_left _ (List.mem_append_left _ (List.mem_append_right _ h)))))))
  obtain ⟨sp, hsp⟩ : ∃ sp, sp = F_X6_regrouped C q1 := ⟨_, rfl⟩
  have hF := hsp.trans (F_X6_regrouped.eq_1 C q1)
  refine lv_iload_n hx hb dX6_regrouped_0 rfl (lv_at hl 1 rfl) ?_
  refine gxS_v (rest := []) X hE (c_X6_needKey l hlt D cy ss ad rest C q1) gy_X6_needKey gX6_regrouped_X6_needKey ⟨rfl, rfl, Nat.le_of_ble_eq_true rfl, Nat.le_of_ble_eq_true rfl⟩ rfl hl rfl (Nat.le_of_ble_eq_true rfl) dX6_regrouped_1 ⟨Nat.le_of_ble_eq_true rfl, Nat.le_of_ble_eq_true rfl⟩ hw (fun E ce q9 _ H locs hp hw h1 h2 h3 => hprop _ E ce q9 () _ _ _ _ _ _ h1 h2 h3 ⟨hsp.symm.trans (hF.trans (xbo_l hp.1)), (by rw [List.mem_singleton.mp hp.2]; exact (List.mem_of_getElem? (i := 0) rfl))⟩ hw (Nat.le_of_ble_eq_true rfl) (Nat.le_of_ble_eq_true rfl)) (fun _ H locs hr1 hw => ?_)
  have hr1 : F_X6_needKey q1 = .inr () := hr1
  have hF := hF.trans (xbo_r hr1)
  refine lv_aload_n hx hb dX6_regrouped_4 rfl (lv_at hl 0 rfl) ?_
  refine g_get (v := .ref (ad 93)) (C := RX6) (T := TX6) (N := 5) (ci := 8) X inX6 hw 92 rfl rfl 0 (by decide) (List.mem_of_getElem? (i := 1) rfl) rfl rfl dX6_regrouped_5 ?_
  refine lv_iload_n hx hb dX6_regrouped_8 rfl (lv_at hl 1 rfl) ?_
  refine gcV_i (rest := []) X (c_X1_groupAnew l D cy ad rest C q1) gy_X1_groupAnew gX6_regrouped_X1_groupAnew ⟨rfl, rfl, Nat.le_of_ble_eq_true rfl, Nat.le_of_ble_eq_true rfl⟩ 93 rfl rfl rfl hl rfl (Nat.le_of_ble_eq_true rfl) dX6_regrouped_9 ⟨Nat.le_of_ble_eq_true rfl, Nat.le_of_ble_eq_true rfl⟩ hw (fun r2 _ H locs hr2 hw => ?_)
  have hr2 : r2 = F_X1_groupAnew C q1 := hr2
  have hF := hF.trans (bnd_eq hr2)
  exact hret _ _ () _ _ _ _ _ dX6_regrouped_12 (hsp.symm.trans hF) hw (Nat.le_of_ble_eq_true rfl) (Nat.le_of_ble_eq_true rfl)
theorem gy_X6_fire : gY yX6_fire RX6 cX6_fire 2 (some .int) wsX6_fire 1 := ⟨⟨_, rfl⟩, rfl, by decide +kernel, by decide +kernel, by decide +kernel⟩
def F_X6_fire (C : CS) (q1 : Int32) : (String ⊕ Int32) × CS := (xbw C (F_X6_needBurst C q1) (fun _ => (xbw C (F_X6_needOpen C q1) (fun _ => (bnd ((F_X1_letFire C q1 0).2) (fun u4 => (bnd ((F_X1_letFire C q1 0).1) (fun r3 => (.inr r3, u4)))))))))
abbrev rmX6_fire : Room := { frames := 7, cells := 2, slots := 12, locals := 221 }
set_option maxHeartbeats 4000000 in
set_option maxRecDepth 100000 in
theorem c_X6_fire (l : Launch) (hlt : l.stackTraces = false) (D : va_G) (cy : Nat → ClassId) (ss : Nat → Nat) (ad : Nat → Nat) (rest : va_W) (C : CS) (q1 : Int32) : GXi l yX6_fire wsX6_fire rmX6_fire D cy ss [.ref (ad 92), .int q1] (CW cy ad C ++ rest) (fun (r : Int32) (u : CS) => F_X6_fire C q1 = (.inr r, u)) (fun u => CW cy ad u ++ rest) (fun (E : String) (u : CS) => F_X6_fire C q1 = (.inl E, u) ∧ E ∈ (["java/lang/IndexOutOfBoundsException", "java/lang/IllegalStateException"] : List String)) 2 12 := by
  refine GXi.intro cX6_fire 2 RX6 (by decide) rfl rfl (Nat.le_of_ble_eq_true rfl) ?_
  intro p e s m args below meth c A Q ls X hE hnt hret hthr hprop hl hw
  have hx := X.1
  have hb := X.2.1
  have hl : lv_has ls 2 [(0, .ref (ad 92)), (1, .int q1)] := hl
  have inX6 : ∀ w ∈ wsX60, w ∈ wsX6_fire := fun w h => List.mem_cons_of_mem _ (List.mem_append_left _ (List.mem_append_left _ (List.mem_append_left _ (List.mem_append_left _ (List.mem_append_left _ (List.mem_append_left _ (List.mem_append_left _ (List.mem_append_left _ (List.mem_append_right _ h)))))))))
  obtain ⟨sp, hsp⟩ : ∃ sp, sp = F_X6_fire C q1 := ⟨_, rfl⟩
  have hF := hsp.trans (F_X6_fire.eq_1 C q1)
  refine lv_aload_n hx hb dX6_fire_0 rfl (lv_at hl 0 rfl) ?_
  refine lv_iload_n hx hb dX6_fire_1 rfl (lv_at hl 1 rfl) ?_
  refine gxV_v (rest := []) X hE (c_X6_needBurst l hlt D cy ss ad rest C q1) gy_X6_needBurst gX6_fire_X6_needBurst ⟨rfl, rfl, Nat.le_of_ble_eq_true rfl, Nat.le_of_ble_eq_true rfl⟩ 92 rfl rfl rfl hl rfl (Nat.le_of_ble_eq_true rfl) dX6_fire_2 ⟨Nat.le_of_ble_eq_true rfl, Nat.le_of_ble_eq_true rfl⟩ hw (fun E ce q9 _ H locs hp hw h1 h2 h3 => hprop _ E ce q9 C _ _ _ _ _ _ h1 h2 h3 ⟨hsp.symm.trans (hF.trans (xbw_l hp.1)), (by rw [List.mem_singleton.mp hp.2]; exact (List.mem_of_getElem? (i := 0) rfl))⟩ hw (Nat.le_of_ble_eq_true rfl) (Nat.le_of_ble_eq_true rfl)) (fun _ H locs hr1 hw => ?_)
  have hr1 : F_X6_needBurst C q1 = .inr () := hr1
  have hF := hF.trans (xbw_r hr1)
  refine lv_aload_n hx hb dX6_fire_5 rfl (lv_at hl 0 rfl) ?_
  refine lv_iload_n hx hb dX6_fire_6 rfl (lv_at hl 1 rfl) ?_
  refine gxV_v (rest := []) X hE (c_X6_needOpen l hlt D cy ss ad rest C q1) gy_X6_needOpen gX6_fire_X6_needOpen ⟨rfl, rfl, Nat.le_of_ble_eq_true rfl, Nat.le_of_ble_eq_true rfl⟩ 92 rfl rfl rfl hl rfl (Nat.le_of_ble_eq_true rfl) dX6_fire_7 ⟨Nat.le_of_ble_eq_true rfl, Nat.le_of_ble_eq_true rfl⟩ hw (fun E ce q9 _ H locs hp hw h1 h2 h3 => hprop _ E ce q9 C _ _ _ _ _ _ h1 h2 h3 ⟨hsp.symm.trans (hF.trans (xbw_l hp.1)), (by rw [List.mem_singleton.mp hp.2]; exact (List.mem_of_getElem? (i := 1) rfl))⟩ hw (Nat.le_of_ble_eq_true rfl) (Nat.le_of_ble_eq_true rfl)) (fun _ H locs hr2 hw => ?_)
  have hr2 : F_X6_needOpen C q1 = .inr () := hr2
  have hF := hF.trans (xbw_r hr2)
  refine lv_aload_n hx hb dX6_fire_10 rfl (lv_at hl 0 rfl) ?_
  refine g_get (v := .ref (ad 93)) (C := RX6) (T := TX6) (N := 5) (ci := 8) X inX6 hw 92 rfl rfl 0 (by decide) (List.mem_of_getElem? (i := 1) rfl) rfl rfl dX6_fire_11 ?_
  refine lv_iload_n hx hb dX6_fire_14 rfl (lv_at hl 1 rfl) ?_
  refine lv_iconst (v := 0) hx hb dX6_fire_15 (by decide) ?_
  refine gcV_i (rest := []) X (c_X1_letFire l D cy ad rest C q1 0) gy_X1_letFire gX6_fire_X1_letFire ⟨rfl, rfl, Nat.le_of_ble_eq_true rfl, Nat.le_of_ble_eq_true rfl⟩ 93 rfl rfl rfl hl rfl (Nat.le_of_ble_eq_true rfl) dX6_fire_16 ⟨Nat.le_of_ble_eq_true rfl, Nat.le_of_ble_eq_true rfl⟩ hw (fun r3 u4 H locs hr3 hw => ?_)
  obtain ⟨hr3, hu4⟩ : r3 = (F_X1_letFire C q1 0).1 ∧ u4 = (F_X1_letFire C q1 0).2 := hr3
  have hF := hF.trans (bnd_eq hu4)
  have hF := hF.trans (bnd_eq hr3)
  exact hret _ _ u4 _ _ _ _ _ dX6_fire_19 (hsp.symm.trans hF) hw (Nat.le_of_ble_eq_true rfl) (Nat.le_of_ble_eq_true rfl)
theorem gy_X6_firing : gY yX6_firing RX6 cX6_firing 3 (some .int) wsX6_firing 2 := ⟨⟨_, rfl⟩, rfl, by decide +kernel, by decide +kernel, by decide +kernel⟩
def F_X6_firing (C : CS) (q1 : Int32) (q2 : Int32) : String ⊕ Int32 := (if q1 < 0 then .inl "java/lang/IndexOutOfBoundsException" else (if q1 < C.2.1 8 then (xbo (F_X6_needWithin q2 0 5) (fun _ => (bnd (F_X2_entry C q1 q2) (fun r4 => .inr r4)))) else .inl "java/lang/IndexOutOfBoundsException"))
abbrev rmX6_firing : Room := { frames := 7, cells := 1, slots := 6, locals := 222 }
set_option maxHeartbeats 4000000 in
set_option maxRecDepth 100000 in
theorem c_X6_firing (l : Launch) (hlt : l.stackTraces = false) (D : va_G) (cy : Nat → ClassId) (ss : Nat → Nat) (ad : Nat → Nat) (rest : va_W) (C : CS) (q1 : Int32) (q2 : Int32) : GXi l yX6_firing wsX6_firing rmX6_firing D cy ss [.ref (ad 92), .int q1, .int q2] (CW cy ad C ++ rest) (fun (r : Int32) (_ : Unit) => F_X6_firing C q1 q2 = .inr r) (fun _ => CW cy ad C ++ rest) (fun (E : String) (_ : Unit) => F_X6_firing C q1 q2 = .inl E ∧ E ∈ (["java/lang/IndexOutOfBoundsException", "java/lang/IllegalArgumentException"] : List String)) 1 6 := by
  refine GXi.intro cX6_firing 3 RX6 (by decide) rfl rfl (Nat.le_of_ble_eq_true rfl) ?_
  intro p e s m args below meth c A Q ls X hE hnt hret hthr hprop hl hw
  have hx := X.1
  have hb := X.2.1
  have hl : lv_has ls 3 [(0, .ref (ad 92)), (1, .int q1), (2, .int q2)] := hl
  have inX1 : ∀ w ∈ wsX10, w ∈ wsX6_firing := fun w h => List.mem_cons_of_mem _ (List.mem_append_left _ (List.mem_append_left _ (List.mem_append_left _ (List.mem_append_left _ (List.mem_append_left _ (List.mem_append_right _ h))))))
  have inX2 : ∀ w ∈ wsX20, w ∈ wsX6_firing := fun w h => List.mem_cons_of_mem _ (List.mem_append_left _ (List.mem_append_left _ (List.mem_append_left _ (List.mem_append_left _ (List.mem_append_right _ h)))))
  have inX6 : ∀ w ∈ wsX60, w ∈ wsX6_firing := fun w h => List.mem_cons_of_mem _ (List.mem_append_left _ (List.mem_append_left _ (List.mem_append_left _ (List.mem_append_left _ (List.mem_append_left _ (List.mem_append_left _ (List.mem_append_right _ h)))))))
  obtain ⟨sp, hsp⟩ : ∃ sp, sp = F_X6_firing C q1 q2 := ⟨_, rfl⟩
  have hF := hsp.trans (F_X6_firing.eq_1 C q1 q2)
  refine lv_iload_n hx hb dX6_firing_0 rfl (lv_at hl 1 rfl) ?_
  refine lv_if_lt (tgt := 18) hx hb dX6_firing_1 (by decide) (fun c1 => ?_) (fun c1 => ?_)
  · skip
    have hF := hF.trans (if_pos c1)
    exact hthr _ _ () _ _ _ _ _ _ (fun Qc XC mc ms free hxx hff hcc hss => vx_throwS (A := A) hx hb hlt X.2.2.2.2.1 (by decide +kernel) (by decide +kernel) (X.2.2.2.2.2.1 _ (List.mem_of_getElem? (i := 1) rfl)) (X.2.2.2.2.2.1 _ (List.mem_of_getElem? (i := 2) rfl)) hE.2.2.1.2.2.2.2.2.2.2.1 (vx_hat (fun w h => X.2.2.2.2.2.1 w (List.mem_cons_of_mem _ (List.mem_append_left _ (List.mem_append_left _ (List.mem_append_right _ h))))) ax_206 (gBIO_of hE.2.2.2)) ax_206g hE.1 hE.2.1 hw.2.2 (hl.1.trans X.2.2.2.1.symm) dX6_firing_18 dX6_firing_21 dX6_firing_22 dX6_firing_24 dX6_firing_27 (fun x hx => (hnt x hx).elim) (Nat.le_of_ble_eq_true rfl) (Nat.le_of_ble_eq_true rfl) (Nat.le_of_ble_eq_true rfl) (Nat.le_of_ble_eq_true rfl) X.2.2.1 hxx hff hcc hss) ⟨hsp.symm.trans hF, (List.mem_of_getElem? (i := 0) rfl)⟩ hw (Nat.le_of_ble_eq_true rfl) (Nat.le_of_ble_eq_true rfl)
  · skip
    have hF := hF.trans (if_neg c1)
    refine lv_iload_n hx hb dX6_firing_4 rfl (lv_at hl 1 rfl) ?_
    refine lv_aload_n hx hb dX6_firing_5 rfl (lv_at hl 0 rfl) ?_
    refine g_get (v := .ref (ad 93)) (C := RX6) (T := TX6) (N := 5) (ci := 8) X inX6 hw 92 rfl rfl 0 (by decide) (List.mem_of_getElem? (i := 3) rfl) rfl rfl dX6_firing_6 ?_
    refine g_get (v := .ref (ad 96)) (C := RX1) (T := TX1) (N := 10) (ci := 3) X inX1 hw 93 rfl rfl 4 (by decide) (List.mem_of_getElem? (i := 4) rfl) rfl rfl dX6_firing_9 ?_
    refine g_get (v := .int (C.2.1 8)) (C := RX2) (T := TX2) (N := 10) (ci := 4) X inX2 hw 96 rfl rfl 8 (by decide) (List.mem_of_getElem? (i := 5) rfl) rfl rfl dX6_firing_12 ?_
    refine lv_icmp_lt (tgt := 28) hx hb dX6_firing_15 (by decide) (fun c2 => ?_) (fun c2 => ?_)
    · skip
      have hF := hF.trans (if_pos c2)
      refine lv_iload_n hx hb dX6_firing_28 rfl (lv_at hl 2 rfl) ?_
      refine lv_iconst (v := 0) hx hb dX6_firing_29 (by decide) ?_
      refine lv_iconst (v := 5) hx hb dX6_firing_30 (by decide) ?_
      refine gxS_v (rest := []) X hE (c_X6_needWithin l hlt D cy ss ad rest C q2 0 5) gy_X6_needWithin gX6_firing_X6_needWithin ⟨rfl, rfl, Nat.le_of_ble_eq_true rfl, Nat.le_of_ble_eq_true rfl⟩ rfl hl rfl (Nat.le_of_ble_eq_true rfl) dX6_firing_31 ⟨Nat.le_of_ble_eq_true rfl, Nat.le_of_ble_eq_true rfl⟩ hw (fun E ce q9 _ H locs hp hw h1 h2 h3 => hprop _ E ce q9 () _ _ _ _ _ _ h1 h2 h3 ⟨hsp.symm.trans (hF.trans (xbo_l hp.1)), (by rw [List.mem_singleton.mp hp.2]; exact (List.mem_of_getElem? (i := 1) rfl))⟩ hw (Nat.le_of_ble_eq_true rfl) (Nat.le_of_ble_eq_true rfl)) (fun _ H locs hr3 hw => ?_)
      have hr3 : F_X6_needWithin q2 0 5 = .inr () := hr3
      have hF := hF.trans (xbo_r hr3)
      refine lv_aload_n hx hb dX6_firing_34 rfl (lv_at hl 0 rfl) ?_
      refine g_get (v := .ref (ad 93)) (C := RX6) (T := TX6) (N := 5) (ci := 8) X inX6 hw 92 rfl rfl 0 (by decide) (List.mem_of_getElem? (i := 3) rfl) rfl rfl dX6_firing_35 ?_
      refine g_get (v := .ref (ad 96)) (C := RX1) (T := TX1) (N := 10) (ci := 3) X inX1 hw 93 rfl rfl 4 (by decide) (List.mem_of_getElem? (i := 4) rfl) rfl rfl dX6_firing_38 ?_
      refine lv_iload_n hx hb dX6_firing_41 rfl (lv_at hl 1 rfl) ?_
      refine lv_iload_n hx hb dX6_firing_42 rfl (lv_at hl 2 rfl) ?_
      refine gcV_i (rest := []) X (c_X2_entry l D cy ad rest C q1 q2) gy_X2_entry gX6_firing_X2_entry ⟨rfl, rfl, Nat.le_of_ble_eq_true rfl, Nat.le_of_ble_eq_true rfl⟩ 96 rfl rfl rfl hl rfl (Nat.le_of_ble_eq_true rfl) dX6_firing_43 ⟨Nat.le_of_ble_eq_true rfl, Nat.le_of_ble_eq_true rfl⟩ hw (fun r4 _ H locs hr4 hw => ?_)
      have hr4 : r4 = F_X2_entry C q1 q2 := hr4
      have hF := hF.trans (bnd_eq hr4)
      exact hret _ _ () _ _ _ _ _ dX6_firing_46 (hsp.symm.trans hF) hw (Nat.le_of_ble_eq_true rfl) (Nat.le_of_ble_eq_true rfl)
    · skip
      have hF := hF.trans (if_neg c2)
      exact hthr _ _ () _ _ _ _ _ _ (fun Qc XC mc ms free hxx hff hcc hss => vx_throwS (A := A) hx hb hlt X.2.2.2.2.1 (by decide +kernel) (by decide +kernel) (X.2.2.2.2.2.1 _ (List.mem_of_getElem? (i := 1) rfl)) (X.2.2.2.2.2.1 _ (List.mem_of_getElem? (i := 2) rfl)) hE.2.2.1.2.2.2.2.2.2.2.1 (vx_hat (fun w h => X.2.2.2.2.2.1 w (List.mem_cons_of_mem _ (List.mem_append_left _ (List.mem_append_left _ (List.mem_append_right _ h))))) ax_206 (gBIO_of hE.2.2.2)) ax_206g hE.1 hE.2.1 hw.2.2 (hl.1.trans X.2.2.2.1.symm) dX6_firing_18 dX6_firing_21 dX6_firing_22 dX6_firing_24 dX6_firing_27 (fun x hx => (hnt x hx).elim) (Nat.le_of_ble_eq_true rfl) (Nat.le_of_ble_eq_true rfl) (Nat.le_of_ble_eq_true rfl) (Nat.le_of_ble_eq_true rfl) X.2.2.1 hxx hff hcc hss) ⟨hsp.symm.trans hF, (List.mem_of_getElem? (i := 0) rfl)⟩ hw (Nat.le_of_ble_eq_true rfl) (Nat.le_of_ble_eq_true rfl)
theorem gy_X6_firings : gY yX6_firings RX6 cX6_firings 2 (some .int) wsX6_firings 1 := ⟨⟨_, rfl⟩, rfl, by decide +kernel, by decide +kernel, by decide +kernel⟩
def F_X6_firings (C : CS) (q1 : Int32) : String ⊕ Int32 := (xbo (F_X6_needWithin q1 0 2) (fun _ => (bnd (rAt 3 (C.1 20) q1) (fun r2 => .inr r2))))
abbrev rmX6_firings : Room := { frames := 7, cells := 1, slots := 6, locals := 222 }
set_option maxHeartbeats 4000000 in
set_option maxRecDepth 100000 in
theorem c_X6_firings (l : Launch) (hlt : l.stackTraces = false) (D : va_G) (cy : Nat → ClassId) (ss : Nat → Nat) (ad : Nat → Nat) (rest : va_W) (C : CS) (q1 : Int32) : GXi l yX6_firings wsX6_firings rmX6_firings D cy ss [.ref (ad 92), .int q1] (CW cy ad C ++ rest) (fun (r : Int32) (_ : Unit) => F_X6_firings C q1 = .inr r) (fun _ => CW cy ad C ++ rest) (fun (E : String) (_ : Unit) => F_X6_firings C q1 = .inl E ∧ E ∈ (["java/lang/IllegalArgumentException"] : List String)) 1 6 := by
  refine GXi.intro cX6_firings 2 RX6 (by decide) rfl rfl (Nat.le_of_ble_eq_true rfl) ?_
  intro p e s m args below meth c A Q ls X hE hnt hret hthr hprop hl hw
  have hx := X.1
  have hb := X.2.1
  have hl : lv_has ls 2 [(0, .ref (ad 92)), (1, .int q1)] := hl
  have inX1 : ∀ w ∈ wsX10, w ∈ wsX6_firings := fun w h => List.mem_cons_of_mem _ (List.mem_append_left _ (List.mem_append_left _ (List.mem_append_left _ (List.mem_append_left _ (List.mem_append_right _ h)))))
  have inX2 : ∀ w ∈ wsX20, w ∈ wsX6_firings := fun w h => List.mem_cons_of_mem _ (List.mem_append_left _ (List.mem_append_left _ (List.mem_append_left _ (List.mem_append_right _ h))))
  have inX6 : ∀ w ∈ wsX60, w ∈ wsX6_firings := fun w h => List.mem_cons_of_mem _ (List.mem_append_left _ (List.mem_append_left _ (List.mem_append_left _ (List.mem_append_left _ (List.mem_append_left _ (List.mem_append_right _ h))))))
  obtain ⟨sp, hsp⟩ : ∃ sp, sp = F_X6_firings C q1 := ⟨_, rfl⟩
  have hF := hsp.trans (F_X6_firings.eq_1 C q1)
  refine lv_iload_n hx hb dX6_firings_0 rfl (lv_at hl 1 rfl) ?_
  refine lv_iconst (v := 0) hx hb dX6_firings_1 (by decide) ?_
  refine lv_iconst (v := 2) hx hb dX6_firings_2 (by decide) ?_
  refine gxS_v (rest := []) X hE (c_X6_needWithin l hlt D cy ss ad rest C q1 0 2) gy_X6_needWithin gX6_firings_X6_needWithin ⟨rfl, rfl, Nat.le_of_ble_eq_true rfl, Nat.le_of_ble_eq_true rfl⟩ rfl hl rfl (Nat.le_of_ble_eq_true rfl) dX6_firings_3 ⟨Nat.le_of_ble_eq_true rfl, Nat.le_of_ble_eq_true rfl⟩ hw (fun E ce q9 _ H locs hp hw h1 h2 h3 => hprop _ E ce q9 () _ _ _ _ _ _ h1 h2 h3 ⟨hsp.symm.trans (hF.trans (xbo_l hp.1)), (by rw [List.mem_singleton.mp hp.2]; exact (List.mem_of_getElem? (i := 0) rfl))⟩ hw (Nat.le_of_ble_eq_true rfl) (Nat.le_of_ble_eq_true rfl)) (fun _ H locs hr1 hw => ?_)
  have hr1 : F_X6_needWithin q1 0 2 = .inr () := hr1
  have hF := hF.trans (xbo_r hr1)
  refine lv_aload_n hx hb dX6_firings_6 rfl (lv_at hl 0 rfl) ?_
  refine g_get (v := .ref (ad 93)) (C := RX6) (T := TX6) (N := 5) (ci := 8) X inX6 hw 92 rfl rfl 0 (by decide) (List.mem_of_getElem? (i := 1) rfl) rfl rfl dX6_firings_7 ?_
  refine g_get (v := .ref (ad 96)) (C := RX1) (T := TX1) (N := 10) (ci := 3) X inX1 hw 93 rfl rfl 4 (by decide) (List.mem_of_getElem? (i := 2) rfl) rfl rfl dX6_firings_10 ?_
  refine g_get (v := .ref (ad 40)) (C := RX2) (T := TX2) (N := 10) (ci := 4) X inX2 hw 96 rfl rfl 7 (by decide) (List.mem_of_getElem? (i := 3) rfl) rfl rfl dX6_firings_13 ?_
  refine lv_iload_n hx hb dX6_firings_16 rfl (lv_at hl 1 rfl) ?_
  refine gcV_i (rest := []) X (cR_at l D cy ad rest C 20 (by decide) q1) gy_X4_at gX6_firings_X4_at ⟨rfl, rfl, Nat.le_of_ble_eq_true rfl, Nat.le_of_ble_eq_true rfl⟩ 40 rfl rfl rfl hl rfl (Nat.le_of_ble_eq_true rfl) dX6_firings_17 ⟨Nat.le_of_ble_eq_true rfl, Nat.le_of_ble_eq_true rfl⟩ hw (fun r2 _ H locs hr2 hw => ?_)
  have hr2 : r2 = rAt 3 (C.1 20) q1 := hr2
  have hF := hF.trans (bnd_eq hr2)
  exact hret _ _ () _ _ _ _ _ dX6_firings_20 (hsp.symm.trans hF) hw (Nat.le_of_ble_eq_true rfl) (Nat.le_of_ble_eq_true rfl)
theorem gy_X6_append : gY yX6_append RX6 cX6_append 2 (some .int) wsX6_append 1 := ⟨⟨_, rfl⟩, rfl, by decide +kernel, by decide +kernel, by decide +kernel⟩
def F_X6_append (C : CS) (q1 : Int32) : (String ⊕ Int32) × CS := (xbw C (F_X6_needWithin q1 32 126) (fun _ => (if C.2.1 18 < 40 then (bnd ((F_X5_lengthen C q1).2) (fun u4 => (bnd ((F_X5_lengthen C q1).1) (fun r3 => (.inr r3, u4))))) else (.inl "java/lang/IllegalStateException", C))))
abbrev rmX6_append : Room := { frames := 7, cells := 2, slots := 12, locals := 222 }
set_option maxHeartbeats 4000000 in
set_option maxRecDepth 100000 in
theorem c_X6_append (l : Launch) (hlt : l.stackTraces = false) (D : va_G) (cy : Nat → ClassId) (ss : Nat → Nat) (ad : Nat → Nat) (rest : va_W) (C : CS) (q1 : Int32) : GXi l yX6_append wsX6_append rmX6_append D cy ss [.ref (ad 92), .int q1] (CW cy ad C ++ rest) (fun (r : Int32) (u : CS) => F_X6_append C q1 = (.inr r, u)) (fun u => CW cy ad u ++ rest) (fun (E : String) (u : CS) => F_X6_append C q1 = (.inl E, u) ∧ E ∈ (["java/lang/IllegalArgumentException", "java/lang/IllegalStateException"] : List String)) 2 12 := by
  refine GXi.intro cX6_append 2 RX6 (by decide) rfl rfl (Nat.le_of_ble_eq_true rfl) ?_
  intro p e s m args below meth c A Q ls X hE hnt hret hthr hprop hl hw
  have hx := X.1
  have hb := X.2.1
  have hl : lv_has ls 2 [(0, .ref (ad 92)), (1, .int q1)] := hl
  have inX5 : ∀ w ∈ wsX50, w ∈ wsX6_append := fun w h => List.mem_cons_of_mem _ (List.mem_append_left _ (List.mem_append_left _ (List.mem_append_left _ (List.mem_append_left _ (List.mem_append_right _ h)))))
  have inX6 : ∀ w ∈ wsX60, w ∈ wsX6_append := fun w h => List.mem_cons_of_mem _ (List.mem_append_left _ (List.mem_append_left _ (List.mem_append_left _ (List.mem_append_left _ (List.mem_append_left _ (List.mem_append_right _ h))))))
  obtain ⟨sp, hsp⟩ : ∃ sp, sp = F_X6_append C q1 := ⟨_, rfl⟩
  have hF := hsp.trans (F_X6_append.eq_1 C q1)
  refine lv_iload_n hx hb dX6_append_0 rfl (lv_at hl 1 rfl) ?_
  refine lv_bipush (v := 32) hx hb dX6_append_1 (by decide) ?_
  refine lv_bipush (v := 126) hx hb dX6_append_3 (by decide) ?_
  refine gxS_v (rest := []) X hE (c_X6_needWithin l hlt D cy ss ad rest C q1 32 126) gy_X6_needWithin gX6_append_X6_needWithin ⟨rfl, rfl, Nat.le_of_ble_eq_true rfl, Nat.le_of_ble_eq_true rfl⟩ rfl hl rfl (Nat.le_of_ble_eq_true rfl) dX6_append_5 ⟨Nat.le_of_ble_eq_true rfl, Nat.le_of_ble_eq_true rfl⟩ hw (fun E ce q9 _ H locs hp hw h1 h2 h3 => hprop _ E ce q9 C _ _ _ _ _ _ h1 h2 h3 ⟨hsp.symm.trans (hF.trans (xbw_l hp.1)), (by rw [List.mem_singleton.mp hp.2]; exact (List.mem_of_getElem? (i := 0) rfl))⟩ hw (Nat.le_of_ble_eq_true rfl) (Nat.le_of_ble_eq_true rfl)) (fun _ H locs hr1 hw => ?_)
  have hr1 : F_X6_needWithin q1 32 126 = .inr () := hr1
  have hF := hF.trans (xbw_r hr1)
  refine lv_aload_n hx hb dX6_append_8 rfl (lv_at hl 0 rfl) ?_
  refine g_get (v := .ref (ad 101)) (C := RX6) (T := TX6) (N := 5) (ci := 8) X inX6 hw 92 rfl rfl 2 (by decide) (List.mem_of_getElem? (i := 3) rfl) rfl rfl dX6_append_9 ?_
  refine g_get (v := .int (C.2.1 18)) (C := RX5) (T := TX5) (N := 7) (ci := 7) X inX5 hw 101 rfl rfl 1 (by decide) (List.mem_of_getElem? (i := 4) rfl) rfl rfl dX6_append_12 ?_
  refine lv_bipush (v := 40) hx hb dX6_append_15 (by decide) ?_
  refine lv_icmp_lt (tgt := 30) hx hb dX6_append_17 (by decide) (fun c2 => ?_) (fun c2 => ?_)
  · skip
    have hF := hF.trans (if_pos c2)
    refine lv_aload_n hx hb dX6_append_30 rfl (lv_at hl 0 rfl) ?_
    refine g_get (v := .ref (ad 101)) (C := RX6) (T := TX6) (N := 5) (ci := 8) X inX6 hw 92 rfl rfl 2 (by decide) (List.mem_of_getElem? (i := 3) rfl) rfl rfl dX6_append_31 ?_
    refine lv_iload_n hx hb dX6_append_34 rfl (lv_at hl 1 rfl) ?_
    refine gcV_i (rest := []) X (c_X5_lengthen l D cy ad rest C q1) gy_X5_lengthen gX6_append_X5_lengthen ⟨rfl, rfl, Nat.le_of_ble_eq_true rfl, Nat.le_of_ble_eq_true rfl⟩ 101 rfl rfl rfl hl rfl (Nat.le_of_ble_eq_true rfl) dX6_append_35 ⟨Nat.le_of_ble_eq_true rfl, Nat.le_of_ble_eq_true rfl⟩ hw (fun r3 u4 H locs hr3 hw => ?_)
    obtain ⟨hr3, hu4⟩ : r3 = (F_X5_lengthen C q1).1 ∧ u4 = (F_X5_lengthen C q1).2 := hr3
    have hF := hF.trans (bnd_eq hu4)
    have hF := hF.trans (bnd_eq hr3)
    exact hret _ _ u4 _ _ _ _ _ dX6_append_38 (hsp.symm.trans hF) hw (Nat.le_of_ble_eq_true rfl) (Nat.le_of_ble_eq_true rfl)
  · skip
    have hF := hF.trans (if_neg c2)
    exact hthr _ _ C _ _ _ _ _ _ (fun Qc XC mc ms free hxx hff hcc hss => vx_throwS (A := A) hx hb hlt X.2.2.2.2.1 (by decide +kernel) (by decide +kernel) (X.2.2.2.2.2.1 _ (List.mem_of_getElem? (i := 1) rfl)) (X.2.2.2.2.2.1 _ (List.mem_of_getElem? (i := 2) rfl)) hE.2.2.1.2.2.2.2.2.2.2.2.1 (vx_hat (fun w h => X.2.2.2.2.2.1 w (List.mem_cons_of_mem _ (List.mem_append_left _ (List.mem_append_left _ (List.mem_append_right _ h))))) ax_88 (gBIS_of hE.2.2.2)) ax_88g hE.1 hE.2.1 hw.2.2 (hl.1.trans X.2.2.2.1.symm) dX6_append_20 dX6_append_23 dX6_append_24 dX6_append_26 dX6_append_29 (fun x hx => (hnt x hx).elim) (Nat.le_of_ble_eq_true rfl) (Nat.le_of_ble_eq_true rfl) (Nat.le_of_ble_eq_true rfl) (Nat.le_of_ble_eq_true rfl) X.2.2.1 hxx hff hcc hss) ⟨hsp.symm.trans hF, (List.mem_of_getElem? (i := 1) rfl)⟩ hw (Nat.le_of_ble_eq_true rfl) (Nat.le_of_ble_eq_true rfl)
theorem gy_X6_errorPosition : gY yX6_errorPosition RX6 cX6_errorPosition 1 (some .int) wsX6_errorPosition 0 := ⟨⟨_, rfl⟩, rfl, by decide +kernel, by decide +kernel, by decide +kernel⟩
def F_X6_errorPosition (C : CS) : String ⊕ Int32 := (xbo (F_X6_needFound (C.2.1 22)) (fun r1 => .inr r1))
abbrev rmX6_errorPosition : Room := { frames := 7, cells := 1, slots := 6, locals := 220 }
set_option maxHeartbeats 4000000 in
set_option maxRecDepth 100000 in
theorem c_X6_errorPosition (l : Launch) (hlt : l.stackTraces = false) (D : va_G) (cy : Nat → ClassId) (ss : Nat → Nat) (ad : Nat → Nat) (rest : va_W) (C : CS) : GXi l yX6_errorPosition wsX6_errorPosition rmX6_errorPosition D cy ss [.ref (ad 92)] (CW cy ad C ++ rest) (fun (r : Int32) (_ : Unit) => F_X6_errorPosition C = .inr r) (fun _ => CW cy ad C ++ rest) (fun (E : String) (_ : Unit) => F_X6_errorPosition C = .inl E ∧ E ∈ (["java/util/NoSuchElementException"] : List String)) 1 6 := by
  refine GXi.intro cX6_errorPosition 1 RX6 (by decide) rfl rfl (Nat.le_of_ble_eq_true rfl) ?_
  intro p e s m args below meth c A Q ls X hE hnt hret hthr hprop hl hw
  have hx := X.1
  have hb := X.2.1
  have hl : lv_has ls 1 [(0, .ref (ad 92))] := hl
  have inX6 : ∀ w ∈ wsX60, w ∈ wsX6_errorPosition := fun w h => List.mem_cons_of_mem _ (List.mem_append_left _ (List.mem_append_right _ h))
  obtain ⟨sp, hsp⟩ : ∃ sp, sp = F_X6_errorPosition C := ⟨_, rfl⟩
  have hF := hsp.trans (F_X6_errorPosition.eq_1 C)
  refine lv_aload_n hx hb dX6_errorPosition_0 rfl (lv_at hl 0 rfl) ?_
  refine g_get (v := .int (C.2.1 22)) (C := RX6) (T := TX6) (N := 5) (ci := 8) X inX6 hw 92 rfl rfl 4 (by decide) (List.mem_of_getElem? (i := 1) rfl) rfl rfl dX6_errorPosition_1 ?_
  refine gxS_i (rest := []) X hE (c_X6_needFound l hlt D cy ss ad rest C (C.2.1 22)) gy_X6_needFound gX6_errorPosition_X6_needFound ⟨rfl, rfl, Nat.le_of_ble_eq_true rfl, Nat.le_of_ble_eq_true rfl⟩ rfl hl rfl (Nat.le_of_ble_eq_true rfl) dX6_errorPosition_4 ⟨Nat.le_of_ble_eq_true rfl, Nat.le_of_ble_eq_true rfl⟩ hw (fun E ce q9 _ H locs hp hw h1 h2 h3 => hprop _ E ce q9 () _ _ _ _ _ _ h1 h2 h3 ⟨hsp.symm.trans (hF.trans (xbo_l hp.1)), (by rw [List.mem_singleton.mp hp.2]; exact (List.mem_of_getElem? (i := 0) rfl))⟩ hw (Nat.le_of_ble_eq_true rfl) (Nat.le_of_ble_eq_true rfl)) (fun r1 _ H locs hr1 hw => ?_)
  have hr1 : F_X6_needFound (C.2.1 22) = .inr r1 := hr1
  have hF := hF.trans (xbo_r hr1)
  exact hret _ _ () _ _ _ _ _ dX6_errorPosition_7 (hsp.symm.trans hF) hw (Nat.le_of_ble_eq_true rfl) (Nat.le_of_ble_eq_true rfl)
theorem gy_X6_restore : gY yX6_restore RX6 cX6_restore 1 (some .int) wsX6_restore 0 := ⟨⟨_, rfl⟩, rfl, by decide +kernel, by decide +kernel, by decide +kernel⟩
def F_X6_restore (C : CS) : (String ⊕ Int32) × CS := (if C.2.1 21 = 0 then (.inl "java/lang/IllegalStateException", C) else (bnd (F_X1_copyFrom_nk C) (fun u3 => (.inr (u3.2.1 5), u3))))
abbrev rmX6_restore : Room := { frames := 6, cells := 1, slots := 6, locals := 200 }
set_option maxHeartbeats 4000000 in
set_option maxRecDepth 100000 in
theorem c_X6_restore (l : Launch) (hlt : l.stackTraces = false) (D : va_G) (cy : Nat → ClassId) (ss : Nat → Nat) (ad : Nat → Nat) (rest : va_W) (C : CS) : GXi l yX6_restore wsX6_restore rmX6_restore D cy ss [.ref (ad 92)] (CW cy ad C ++ rest) (fun (r : Int32) (u : CS) => F_X6_restore C = (.inr r, u)) (fun u => CW cy ad u ++ rest) (fun (E : String) (u : CS) => F_X6_restore C = (.inl E, u) ∧ E ∈ (["java/lang/IllegalStateException"] : List String)) 1 6 := by
  refine GXi.intro cX6_restore 1 RX6 (by decide) rfl rfl (Nat.le_of_ble_eq_true rfl) ?_
  intro p e s m args below meth c A Q ls X hE hnt hret hthr hprop hl hw
  have hx := X.1
  have hb := X.2.1
  have hl : lv_has ls 1 [(0, .ref (ad 92))] := hl
  have inX1 : ∀ w ∈ wsX10, w ∈ wsX6_restore := fun w h => List.mem_cons_of_mem _ (List.mem_append_left _ (List.mem_append_left _ (List.mem_append_left _ (List.mem_append_left _ (List.mem_append_left _ (List.mem_append_left _ (List.mem_append_right _ h)))))))
  have inX3 : ∀ w ∈ wsX30, w ∈ wsX6_restore := fun w h => List.mem_cons_of_mem _ (List.mem_append_left _ (List.mem_append_left _ (List.mem_append_left _ (List.mem_append_left _ (List.mem_append_left _ (List.mem_append_right _ h))))))
  have inX6 : ∀ w ∈ wsX60, w ∈ wsX6_restore := fun w h => List.mem_cons_of_mem _ (List.mem_append_left _ (List.mem_append_left _ (List.mem_append_left _ (List.mem_append_left _ (List.mem_append_left _ (List.mem_append_left _ (List.mem_append_left _ (List.mem_append_right _ h))))))))
  obtain ⟨sp, hsp⟩ : ∃ sp, sp = F_X6_restore C := ⟨_, rfl⟩
  have hF := hsp.trans (F_X6_restore.eq_1 C)
  refine lv_aload_n hx hb dX6_restore_0 rfl (lv_at hl 0 rfl) ?_
  refine g_get (v := .int (C.2.1 21)) (C := RX6) (T := TX6) (N := 5) (ci := 8) X inX6 hw 92 rfl rfl 3 (by decide) (List.mem_of_getElem? (i := 3) rfl) rfl rfl dX6_restore_1 ?_
  refine lv_if_ne (tgt := 18) hx hb dX6_restore_4 (by decide) (fun c1 => ?_) (fun c1 => ?_)
  · skip
    have hF := hF.trans (if_neg c1)
    refine lv_aload_n hx hb dX6_restore_18 rfl (lv_at hl 0 rfl) ?_
    refine g_get (v := .ref (ad 93)) (C := RX6) (T := TX6) (N := 5) (ci := 8) X inX6 hw 92 rfl rfl 0 (by decide) (List.mem_of_getElem? (i := 4) rfl) rfl rfl dX6_restore_19 ?_
    refine lv_aload_n hx hb dX6_restore_22 rfl (lv_at hl 0 rfl) ?_
    refine g_get (v := .ref (ad 97)) (C := RX6) (T := TX6) (N := 5) (ci := 8) X inX6 hw 92 rfl rfl 1 (by decide) (List.mem_of_getElem? (i := 5) rfl) rfl rfl dX6_restore_23 ?_
    refine gcV_v (rest := []) X (c_X1_copyFrom_nk l D cy ad rest C) gy_X1_copyFrom gX6_restore_X1_copyFrom ⟨rfl, rfl, Nat.le_of_ble_eq_true rfl, Nat.le_of_ble_eq_true rfl⟩ 93 rfl rfl rfl hl rfl (Nat.le_of_ble_eq_true rfl) dX6_restore_26 ⟨Nat.le_of_ble_eq_true rfl, Nat.le_of_ble_eq_true rfl⟩ hw (fun u3 H locs hu3 hw => ?_)
    have hu3 : u3 = F_X1_copyFrom_nk C := hu3
    have hF := hF.trans (bnd_eq hu3)
    refine lv_aload_n hx hb dX6_restore_29 rfl (lv_at hl 0 rfl) ?_
    refine g_get (v := .ref (ad 93)) (C := RX6) (T := TX6) (N := 5) (ci := 8) X inX6 hw 92 rfl rfl 0 (by decide) (List.mem_of_getElem? (i := 4) rfl) rfl rfl dX6_restore_30 ?_
    refine g_get (v := .ref (ad 94)) (C := RX1) (T := TX1) (N := 10) (ci := 3) X inX1 hw 93 rfl rfl 2 (by decide) (List.mem_of_getElem? (i := 6) rfl) rfl rfl dX6_restore_33 ?_
    refine g_get (v := .int (u3.2.1 5)) (C := RX3) (T := TX3) (N := 4) (ci := 5) X inX3 hw 94 rfl rfl 3 (by decide) (List.mem_of_getElem? (i := 7) rfl) rfl rfl dX6_restore_36 ?_
    exact hret _ _ u3 _ _ _ _ _ dX6_restore_39 (hsp.symm.trans hF) hw (Nat.le_of_ble_eq_true rfl) (Nat.le_of_ble_eq_true rfl)
  · skip
    have hF := hF.trans (if_pos c1)
    exact hthr _ _ C _ _ _ _ _ _ (fun Qc XC mc ms free hxx hff hcc hss => vx_throwSW (A := A) hx hb hlt X.2.2.2.2.1 (by decide +kernel) (by decide +kernel) (X.2.2.2.2.2.1 _ (List.mem_of_getElem? (i := 1) rfl)) (X.2.2.2.2.2.1 _ (List.mem_of_getElem? (i := 2) rfl)) hE.2.2.1.2.2.2.2.2.2.2.2.2.2.2 (vx_hat (fun w h => X.2.2.2.2.2.1 w (List.mem_cons_of_mem _ (List.mem_append_left _ (List.mem_append_right _ h)))) ax_88 (gBIS_of hE.2.2.2)) ax_88g hE.1 hE.2.1 hw.2.2 (hl.1.trans X.2.2.2.1.symm) dX6_restore_7 dX6_restore_10 dX6_restore_11 dX6_restore_14 dX6_restore_17 (fun x hx => (hnt x hx).elim) (Nat.le_of_ble_eq_true rfl) (Nat.le_of_ble_eq_true rfl) (Nat.le_of_ble_eq_true rfl) (Nat.le_of_ble_eq_true rfl) X.2.2.1 hxx hff hcc hss) ⟨hsp.symm.trans hF, (List.mem_of_getElem? (i := 0) rfl)⟩ hw (Nat.le_of_ble_eq_true rfl) (Nat.le_of_ble_eq_true rfl)
theorem gy_X6_read : gY yX6_read RX6 cX6_read 3 (some .int) wsX6_read 0 := ⟨⟨_, rfl⟩, rfl, by decide +kernel, by decide +kernel, by decide +kernel⟩
def st_X6_read_67 (v8_2 : Int32) (w8 : CS) : (Int32 × CS) ⊕ ((String ⊕ Int32) × CS) := (if w8.2.1 20 ≤ v8_2 then .inr ((.inr (w8.2.1 20), w8)) else (bnd (rAt 14 (w8.1 43) v8_2) (fun r10 => (if r10 = (-1) then (bnd (rAt 14 (w8.1 44) v8_2) (fun r21 => (bnd ((F_X1_moveMark w8 r21).2) (fun u24 => (bnd ((F_X1_moveMark w8 r21).1) (fun r23 => .inl ((v8_2 + 1), u24))))))) else (bnd (rAt 14 (w8.1 44) v8_2) (fun r15 => (bnd (rAt 14 (w8.1 45) v8_2) (fun r17 => (bnd ((F_X1_take w8 r10 r15 r17).2) (fun u20 => (bnd ((F_X1_take w8 r10 r15 r17).1) (fun r19 => .inl ((v8_2 + 1), u20)))))))))))))
def Sst_X6_read_67 (v8_2 : Int32) (w8 : CS) : Prop := True
def F_X6_read (C : CS) : (String ⊕ Int32) × CS := (bnd ((F_X5_parse C).2) (fun u2 => (bnd ((F_X5_parse C).1) (fun r1 => (bnd (sI u2 18 0) (fun u3 => (if r1 = 0 then (bnd (sI u3 22 (u3.2.1 19)) (fun u25 => (.inl "java/lang/IllegalArgumentException", u25))) else (bnd (F_X1_canCarryOut u3) (fun r5 => (if r5 = 0 then (.inl "java/lang/IllegalStateException", u3) else lp (fun (z : Int32 × CS) => st_X6_read_67 z.1 z.2) (.inr 0, C) (((u3.2.1 20).toInt - (0 : Int32).toInt).toNat + 1) (0, u3)))))))))))
def S_X6_read (C : CS) : Prop := (bnd ((F_X5_parse C).2) (fun u2 => (bnd ((F_X5_parse C).1) (fun r1 => (bnd (sI u2 18 0) (fun u3 => (if r1 = 0 then True else (bnd (F_X1_canCarryOut u3) (fun r5 => (if r5 = 0 then True else lpS (fun (z : Int32 × CS) => st_X6_read_67 z.1 z.2) (fun (z : Int32 × CS) => Sst_X6_read_67 z.1 z.2) (((u3.2.1 20).toInt - (0 : Int32).toInt).toNat + 1) (0, u3)))))))))))
abbrev rmX6_read : Room := { frames := 6, cells := 1, slots := 6, locals := 200 }
set_option maxHeartbeats 4000000 in
set_option maxRecDepth 100000 in
theorem c_X6_read (l : Launch) (hlt : l.stackTraces = false) (D : va_G) (cy : Nat → ClassId) (ss : Nat → Nat) (ad : Nat → Nat) (rest : va_W) (C : CS) (hS : S_X6_read C) : GXi l yX6_read wsX6_read rmX6_read D cy ss [.ref (ad 92)] (CW cy ad C ++ rest) (fun (r : Int32) (u : CS) => F_X6_read C = (.inr r, u)) (fun u => CW cy ad u ++ rest) (fun (E : String) (u : CS) => F_X6_read C = (.inl E, u) ∧ E ∈ (["java/lang/IllegalStateException", "java/lang/IllegalArgumentException"] : List String)) 1 6 := by
  refine GXi.intro cX6_read 3 RX6 (by decide) rfl rfl (Nat.le_of_ble_eq_true rfl) ?_
  intro p e s m args below meth c A Q ls X hE hnt hret hthr hprop hl hw
  have hx := X.1
  have hb := X.2.1
  have hl : lv_has ls 3 [(0, .ref (ad 92))] := hl
  have inX5 : ∀ w ∈ wsX50, w ∈ wsX6_read := fun w h => List.mem_cons_of_mem _ (List.mem_append_left _ (List.mem_append_left _ (List.mem_append_left _ (List.mem_append_left _ (List.mem_append_left _ (List.mem_append_left _ (List.mem_append_left _ (List.mem_append_left _ (List.mem_append_left _ (List.mem_append_right _ h))))))))))
  have inX6 : ∀ w ∈ wsX60, w ∈ wsX6_read := fun w h => List.mem_cons_of_mem _ (List.mem_append_left _ (List.mem_append_left _ (List.mem_append_left _ (List.mem_append_left _ (List.mem_append_left _ (List.mem_append_left _ (List.mem_append_left _ (List.mem_append_left _ (List.mem_append_left _ (List.mem_append_left _ (List.mem_append_right _ h)))))))))))
  obtain ⟨sp, hsp⟩ : ∃ sp, sp = F_X6_read C := ⟨_, rfl⟩
  have hF := hsp.trans (F_X6_read.eq_1 C)
  have hS := Eq.mp (S_X6_read.eq_1 C) hS
  refine lv_aload_n hx hb dX6_read_0 rfl (lv_at hl 0 rfl) ?_
  refine g_get (v := .ref (ad 101)) (C := RX6) (T := TX6) (N := 5) (ci := 8) X inX6 hw 92 rfl rfl 2 (by decide) (List.mem_of_getElem? (i := 5) rfl) rfl rfl dX6_read_1 ?_
  refine gcV_i (rest := []) X (c_X5_parse l D cy ad rest C) gy_X5_parse gX6_read_X5_parse ⟨rfl, rfl, Nat.le_of_ble_eq_true rfl, Nat.le_of_ble_eq_true rfl⟩ 101 rfl rfl rfl hl rfl (Nat.le_of_ble_eq_true rfl) dX6_read_4 ⟨Nat.le_of_ble_eq_true rfl, Nat.le_of_ble_eq_true rfl⟩ hw (fun r1 u2 H locs hr1 hw => ?_)
  obtain ⟨⟨hr1, hu2⟩, zr1⟩ : (r1 = (F_X5_parse C).1 ∧ u2 = (F_X5_parse C).2) ∧ (r1 = 0 ∨ r1 = 1) := hr1
  have hF := hF.trans (bnd_eq hu2)
  try have hS := Eq.mp (bnd_eq hu2) hS
  have hF := hF.trans (bnd_eq hr1)
  try have hS := Eq.mp (bnd_eq hr1) hS
  refine lv_istore_n (lv' := [(1, .int r1), (0, .ref (ad 92))]) hx hb dX6_read_7 rfl hl (by decide) rfl (fun ls hl => ?_)
  refine lv_aload_n hx hb dX6_read_8 rfl (lv_at hl 1 rfl) ?_
  refine g_get (v := .ref (ad 101)) (C := RX6) (T := TX6) (N := 5) (ci := 8) X inX6 hw 92 rfl rfl 2 (by decide) (List.mem_of_getElem? (i := 5) rfl) rfl rfl dX6_read_9 ?_
  refine lv_iconst (v := 0) hx hb dX6_read_12 (by decide) ?_
  refine g_put (v := .int 0) (C := RX5) (T := TX5) (N := 7) (ci := 7) (w' := CW cy ad (sI u2 18 0) ++ rest) X inX5 tyX5 tyX5_ok nmX5 hw 101 rfl rfl 1 (by decide) (List.mem_of_getElem? (i := 6) rfl) rfl rfl rfl rfl (Nat.le_of_ble_eq_true rfl) rfl dX6_read_13 (fun H locs hw => ?_)
  obtain ⟨u3, hu3⟩ : ∃ z, z = sI u2 18 0 := ⟨_, rfl⟩
  rw [← hu3] at hw
  have hF := hF.trans (bnd_eq hu3)
  try have hS := Eq.mp (bnd_eq hu3) hS
  refine lv_iload_n hx hb dX6_read_16 rfl (lv_at hl 0 rfl) ?_
  refine lv_if_ne (tgt := 41) hx hb dX6_read_17 (by decide) (fun c4 => ?_) (fun c4 => ?_)
  · skip
    have hF := hF.trans (if_neg c4)
    try have hS := Eq.mp (if_neg c4) hS
    refine lv_aload_n hx hb dX6_read_41 rfl (lv_at hl 1 rfl) ?_
    refine g_get (v := .ref (ad 93)) (C := RX6) (T := TX6) (N := 5) (ci := 8) X inX6 hw 92 rfl rfl 0 (by decide) (List.mem_of_getElem? (i := 9) rfl) rfl rfl dX6_read_42 ?_
    refine lv_aload_n hx hb dX6_read_45 rfl (lv_at hl 1 rfl) ?_
    refine g_get (v := .ref (ad 101)) (C := RX6) (T := TX6) (N := 5) (ci := 8) X inX6 hw 92 rfl rfl 2 (by decide) (List.mem_of_getElem? (i := 5) rfl) rfl rfl dX6_read_46 ?_
    refine gcV_i (rest := []) X (c_X1_canCarryOut l D cy ad rest u3) gy_X1_canCarryOut gX6_read_X1_canCarryOut ⟨rfl, rfl, Nat.le_of_ble_eq_true rfl, Nat.le_of_ble_eq_true rfl⟩ 93 rfl rfl rfl hl rfl (Nat.le_of_ble_eq_true rfl) dX6_read_49 ⟨Nat.le_of_ble_eq_true rfl, Nat.le_of_ble_eq_true rfl⟩ hw (fun r5 _ H locs hr5 hw => ?_)
    obtain ⟨hr5, zr5⟩ : r5 = F_X1_canCarryOut u3 ∧ (r5 = 0 ∨ r5 = 1) := hr5
    have hF := hF.trans (bnd_eq hr5)
    try have hS := Eq.mp (bnd_eq hr5) hS
    refine lv_if_ne (tgt := 65) hx hb dX6_read_52 (by decide) (fun c7 => ?_) (fun c7 => ?_)
    · skip
      have hF := hF.trans (if_neg c7)
      try have hS := Eq.mp (if_neg c7) hS
      refine lv_iconst (v := 0) hx hb dX6_read_65 (by decide) ?_
      refine lv_istore_n (lv' := [(2, .int 0), (1, .int r1), (0, .ref (ad 92))]) hx hb dX6_read_66 rfl hl (by decide) rfl (fun ls hl => ?_)
      have L8 : ∀ (n8 : Nat) (v8_2 : Int32) (w8 : CS), sp = lp (fun (z : Int32 × CS) => st_X6_read_67 z.1 z.2) (.inr 0, C) n8 (v8_2, w8) → lpS (fun (z : Int32 × CS) => st_X6_read_67 z.1 z.2) (fun (z : Int32 × CS) => Sst_X6_read_67 z.1 z.2) n8 (v8_2, w8) → ∀ (H : Heap) (locs : List Loc) (ls : Array Slot), lv_has ls 3 [(2, .int v8_2), (1, .int r1), (0, .ref (ad 92))] → gw D A s.heap (CW cy ad w8 ++ rest) H locs → W p l e rmX6_read s m args below meth c H locs 0 0 Q (F0 m 67 ls []) := by
        intro n8
        induction n8 with
        | zero => intro v8_2 w8 hF hL; exact False.elim hL
        | succ n8 ih8 =>
          intro v8_2 w8 hF hL H locs ls hl hw
          have hT8 := st_X6_read_67.eq_1 v8_2 w8
          have hLn8 := hL.2
          have hS := Eq.mp (Sst_X6_read_67.eq_1 v8_2 w8) hL.1
          refine lv_iload_n hx hb dX6_read_67 rfl (lv_at hl 0 rfl) ?_
          refine lv_aload_n hx hb dX6_read_68 rfl (lv_at hl 2 rfl) ?_
          refine g_get (v := .ref (ad 101)) (C := RX6) (T := TX6) (N := 5) (ci := 8) X inX6 hw 92 rfl rfl 2 (by decide) (List.mem_of_getElem? (i := 5) rfl) rfl rfl dX6_read_69 ?_
          refine g_get (v := .int (w8.2.1 20)) (C := RX5) (T := TX5) (N := 7) (ci := 7) X inX5 hw 101 rfl rfl 6 (by decide) (List.mem_of_getElem? (i := 10) rfl) rfl rfl dX6_read_72 ?_
          refine lv_icmp_ge (tgt := 162) hx hb dX6_read_75 (by decide) (fun c9 => ?_) (fun c9 => ?_)
          · skip
            have hT8 := hT8.trans (if_pos c9)
            try have hS := Eq.mp (if_pos c9) hS
            refine lv_aload_n hx hb dX6_read_162 rfl (lv_at hl 2 rfl) ?_
            refine g_get (v := .ref (ad 101)) (C := RX6) (T := TX6) (N := 5) (ci := 8) X inX6 hw 92 rfl rfl 2 (by decide) (List.mem_of_getElem? (i := 5) rfl) rfl rfl dX6_read_163 ?_
            refine g_get (v := .int (w8.2.1 20)) (C := RX5) (T := TX5) (N := 7) (ci := 7) X inX5 hw 101 rfl rfl 6 (by decide) (List.mem_of_getElem? (i := 10) rfl) rfl rfl dX6_read_166 ?_
            exact hret _ _ w8 _ _ _ _ _ dX6_read_169 (hsp.symm.trans (hF.trans (lp_r hT8))) hw (Nat.le_of_ble_eq_true rfl) (Nat.le_of_ble_eq_true rfl)
          · skip
            have hT8 := hT8.trans (if_neg c9)
            try have hS := Eq.mp (if_neg c9) hS
            refine lv_aload_n hx hb dX6_read_78 rfl (lv_at hl 2 rfl) ?_
            refine g_get (v := .ref (ad 101)) (C := RX6) (T := TX6) (N := 5) (ci := 8) X inX6 hw 92 rfl rfl 2 (by decide) (List.mem_of_getElem? (i := 5) rfl) rfl rfl dX6_read_79 ?_
            refine g_get (v := .ref (ad 86)) (C := RX5) (T := TX5) (N := 7) (ci := 7) X inX5 hw 101 rfl rfl 3 (by decide) (List.mem_of_getElem? (i := 11) rfl) rfl rfl dX6_read_82 ?_
            refine lv_iload_n hx hb dX6_read_85 rfl (lv_at hl 0 rfl) ?_
            refine gcV_i (rest := []) X (cR_at l D cy ad rest w8 43 (by decide) v8_2) gy_X4_at gX6_read_X4_at ⟨rfl, rfl, Nat.le_of_ble_eq_true rfl, Nat.le_of_ble_eq_true rfl⟩ 86 rfl rfl rfl hl rfl (Nat.le_of_ble_eq_true rfl) dX6_read_86 ⟨Nat.le_of_ble_eq_true rfl, Nat.le_of_ble_eq_true rfl⟩ hw (fun r10 _ H locs hr10 hw => ?_)
            have hr10 : r10 = rAt 14 (w8.1 43) v8_2 := hr10
            have hT8 := hT8.trans (bnd_eq hr10)
            try have hS := Eq.mp (bnd_eq hr10) hS
            refine lv_iconst (v := (-1)) hx hb dX6_read_89 (by decide) ?_
            refine lv_icmp_ne (tgt := 115) hx hb dX6_read_90 (by decide) (fun c12 => ?_) (fun c12 => ?_)
            · skip
              have hT8 := hT8.trans (if_neg c12)
              try have hS := Eq.mp (if_neg c12) hS
              refine lv_aload_n hx hb dX6_read_115 rfl (lv_at hl 2 rfl) ?_
              refine g_get (v := .ref (ad 93)) (C := RX6) (T := TX6) (N := 5) (ci := 8) X inX6 hw 92 rfl rfl 0 (by decide) (List.mem_of_getElem? (i := 9) rfl) rfl rfl dX6_read_116 ?_
              refine lv_aload_n hx hb dX6_read_119 rfl (lv_at hl 2 rfl) ?_
              refine g_get (v := .ref (ad 101)) (C := RX6) (T := TX6) (N := 5) (ci := 8) X inX6 hw 92 rfl rfl 2 (by decide) (List.mem_of_getElem? (i := 5) rfl) rfl rfl dX6_read_120 ?_
              refine g_get (v := .ref (ad 86)) (C := RX5) (T := TX5) (N := 7) (ci := 7) X inX5 hw 101 rfl rfl 3 (by decide) (List.mem_of_getElem? (i := 11) rfl) rfl rfl dX6_read_123 ?_
              refine lv_iload_n hx hb dX6_read_126 rfl (lv_at hl 0 rfl) ?_
              refine gcV_i (rest := [.ref (ad 93)]) X (cR_at l D cy ad rest w8 43 (by decide) v8_2) gy_X4_at gX6_read_X4_at ⟨rfl, rfl, Nat.le_of_ble_eq_true rfl, Nat.le_of_ble_eq_true rfl⟩ 86 rfl rfl rfl hl rfl (Nat.le_of_ble_eq_true rfl) dX6_read_127 ⟨Nat.le_of_ble_eq_true rfl, Nat.le_of_ble_eq_true rfl⟩ hw (fun r13 _ H locs hr13 hw => ?_)
              have hr13 : r13 = rAt 14 (w8.1 43) v8_2 := hr13
              rw [show r13 = r10 from hr13.trans hr10.symm]
              refine lv_aload_n hx hb dX6_read_130 rfl (lv_at hl 2 rfl) ?_
              refine g_get (v := .ref (ad 101)) (C := RX6) (T := TX6) (N := 5) (ci := 8) X inX6 hw 92 rfl rfl 2 (by decide) (List.mem_of_getElem? (i := 5) rfl) rfl rfl dX6_read_131 ?_
              refine g_get (v := .ref (ad 88)) (C := RX5) (T := TX5) (N := 7) (ci := 7) X inX5 hw 101 rfl rfl 4 (by decide) (List.mem_of_getElem? (i := 12) rfl) rfl rfl dX6_read_134 ?_
              refine lv_iload_n hx hb dX6_read_137 rfl (lv_at hl 0 rfl) ?_
              refine gcV_i (rest := [.int r10, .ref (ad 93)]) X (cR_at l D cy ad rest w8 44 (by decide) v8_2) gy_X4_at gX6_read_X4_at ⟨rfl, rfl, Nat.le_of_ble_eq_true rfl, Nat.le_of_ble_eq_true rfl⟩ 88 rfl rfl rfl hl rfl (Nat.le_of_ble_eq_true rfl) dX6_read_138 ⟨Nat.le_of_ble_eq_true rfl, Nat.le_of_ble_eq_true rfl⟩ hw (fun r15 _ H locs hr15 hw => ?_)
              have hr15 : r15 = rAt 14 (w8.1 44) v8_2 := hr15
              have hT8 := hT8.trans (bnd_eq hr15)
              try have hS := Eq.mp (bnd_eq hr15) hS
              refine lv_aload_n hx hb dX6_read_141 rfl (lv_at hl 2 rfl) ?_
              refine g_get (v := .ref (ad 101)) (C := RX6) (T := TX6) (N := 5) (ci := 8) X inX6 hw 92 rfl rfl 2 (by decide) (List.mem_of_getElem? (i := 5) rfl) rfl rfl dX6_read_142 ?_
              refine g_get (v := .ref (ad 90)) (C := RX5) (T := TX5) (N := 7) (ci := 7) X inX5 hw 101 rfl rfl 5 (by decide) (List.mem_of_getElem? (i := 13) rfl) rfl rfl dX6_read_145 ?_
              refine lv_iload_n hx hb dX6_read_148 rfl (lv_at hl 0 rfl) ?_
              refine gcV_i (rest := [.int r15, .int r10, .ref (ad 93)]) X (cR_at l D cy ad rest w8 45 (by decide) v8_2) gy_X4_at gX6_read_X4_at ⟨rfl, rfl, Nat.le_of_ble_eq_true rfl, Nat.le_of_ble_eq_true rfl⟩ 90 rfl rfl rfl hl rfl (Nat.le_of_ble_eq_true rfl) dX6_read_149 ⟨Nat.le_of_ble_eq_true rfl, Nat.le_of_ble_eq_true rfl⟩ hw (fun r17 _ H locs hr17 hw => ?_)
              have hr17 : r17 = rAt 14 (w8.1 45) v8_2 := hr17
              have hT8 := hT8.trans (bnd_eq hr17)
              try have hS := Eq.mp (bnd_eq hr17) hS
              refine gcV_i (rest := []) X (c_X1_take l D cy ad rest w8 r10 r15 r17) gy_X1_take gX6_read_X1_take ⟨rfl, rfl, Nat.le_of_ble_eq_true rfl, Nat.le_of_ble_eq_true rfl⟩ 93 rfl rfl rfl hl rfl (Nat.le_of_ble_eq_true rfl) dX6_read_152 ⟨Nat.le_of_ble_eq_true rfl, Nat.le_of_ble_eq_true rfl⟩ hw (fun r19 u20 H locs hr19 hw => ?_)
              obtain ⟨hr19, hu20⟩ : r19 = (F_X1_take w8 r10 r15 r17).1 ∧ u20 = (F_X1_take w8 r10 r15 r17).2 := hr19
              have hT8 := hT8.trans (bnd_eq hu20)
              try have hS := Eq.mp (bnd_eq hu20) hS
              have hT8 := hT8.trans (bnd_eq hr19)
              try have hS := Eq.mp (bnd_eq hr19) hS
              refine lv_pop hx hb dX6_read_155 rfl ?_
              refine lv_iinc (v := (v8_2 + 1)) (lv' := [(2, .int (v8_2 + 1)), (1, .int r1), (0, .ref (ad 92))]) hx hb dX6_read_156 hl (k := 0) rfl rfl (by decide) rfl (fun ls hl => ?_)
              refine lv_goto (tgt := 67) hx hb dX6_read_159 (by decide) ?_
              exact ih8 (v8_2 + 1) u20 (hF.trans (lp_l hT8)) (hLn8 _ hT8) _ _ ls (lv_sub hl [0, 1, 2] rfl) hw
            · skip
              have hT8 := hT8.trans (if_pos c12)
              try have hS := Eq.mp (if_pos c12) hS
              refine lv_aload_n hx hb dX6_read_93 rfl (lv_at hl 2 rfl) ?_
              refine g_get (v := .ref (ad 93)) (C := RX6) (T := TX6) (N := 5) (ci := 8) X inX6 hw 92 rfl rfl 0 (by decide) (List.mem_of_getElem? (i := 9) rfl) rfl rfl dX6_read_94 ?_
              refine lv_aload_n hx hb dX6_read_97 rfl (lv_at hl 2 rfl) ?_
              refine g_get (v := .ref (ad 101)) (C := RX6) (T := TX6) (N := 5) (ci := 8) X inX6 hw 92 rfl rfl 2 (by decide) (List.mem_of_getElem? (i := 5) rfl) rfl rfl dX6_read_98 ?_
              refine g_get (v := .ref (ad 88)) (C := RX5) (T := TX5) (N := 7) (ci := 7) X inX5 hw 101 rfl rfl 4 (by decide) (List.mem_of_getElem? (i := 12) rfl) rfl rfl dX6_read_101 ?_
              refine lv_iload_n hx hb dX6_read_104 rfl (lv_at hl 0 rfl) ?_
              refine gcV_i (rest := [.ref (ad 93)]) X (cR_at l D cy ad rest w8 44 (by decide) v8_2) gy_X4_at gX6_read_X4_at ⟨rfl, rfl, Nat.le_of_ble_eq_true rfl, Nat.le_of_ble_eq_true rfl⟩ 88 rfl rfl rfl hl rfl (Nat.le_of_ble_eq_true rfl) dX6_read_105 ⟨Nat.le_of_ble_eq_true rfl, Nat.le_of_ble_eq_true rfl⟩ hw (fun r21 _ H locs hr21 hw => ?_)
              have hr21 : r21 = rAt 14 (w8.1 44) v8_2 := hr21
              have hT8 := hT8.trans (bnd_eq hr21)
              try have hS := Eq.mp (bnd_eq hr21) hS
              refine gcV_i (rest := []) X (c_X1_moveMark l D cy ad rest w8 r21) gy_X1_moveMark gX6_read_X1_moveMark ⟨rfl, rfl, Nat.le_of_ble_eq_true rfl, Nat.le_of_ble_eq_true rfl⟩ 93 rfl rfl rfl hl rfl (Nat.le_of_ble_eq_true rfl) dX6_read_108 ⟨Nat.le_of_ble_eq_true rfl, Nat.le_of_ble_eq_true rfl⟩ hw (fun r23 u24 H locs hr23 hw => ?_)
              obtain ⟨hr23, hu24⟩ : r23 = (F_X1_moveMark w8 r21).1 ∧ u24 = (F_X1_moveMark w8 r21).2 := hr23
              have hT8 := hT8.trans (bnd_eq hu24)
              try have hS := Eq.mp (bnd_eq hu24) hS
              have hT8 := hT8.trans (bnd_eq hr23)
              try have hS := Eq.mp (bnd_eq hr23) hS
              refine lv_pop hx hb dX6_read_111 rfl ?_
              refine lv_goto (tgt := 156) hx hb dX6_read_112 (by decide) ?_
              refine lv_iinc (v := (v8_2 + 1)) (lv' := [(2, .int (v8_2 + 1)), (1, .int r1), (0, .ref (ad 92))]) hx hb dX6_read_156 hl (k := 0) rfl rfl (by decide) rfl (fun ls hl => ?_)
              refine lv_goto (tgt := 67) hx hb dX6_read_159 (by decide) ?_
              exact ih8 (v8_2 + 1) u24 (hF.trans (lp_l hT8)) (hLn8 _ hT8) _ _ ls (lv_sub hl [0, 1, 2] rfl) hw
      exact L8 _ 0 u3 hF hS _ _ ls (lv_sub hl [0, 1, 2] rfl) hw
    · skip
      have hF := hF.trans (if_pos c7)
      try have hS := Eq.mp (if_pos c7) hS
      exact hthr _ _ u3 _ _ _ _ _ _ (fun Qc XC mc ms free hxx hff hcc hss => vx_throwS (A := A) hx hb hlt X.2.2.2.2.1 (by decide +kernel) (by decide +kernel) (X.2.2.2.2.2.1 _ (List.mem_of_getElem? (i := 3) rfl)) (X.2.2.2.2.2.1 _ (List.mem_of_getElem? (i := 4) rfl)) hE.2.2.1.2.2.2.2.2.2.2.2.2.2.1 (vx_hat (fun w h => X.2.2.2.2.2.1 w (List.mem_cons_of_mem _ (List.mem_append_left _ (List.mem_append_left _ (List.mem_append_right _ h))))) ax_88 (gBIS_of hE.2.2.2)) ax_88g hE.1 hE.2.1 hw.2.2 (hl.1.trans X.2.2.2.1.symm) dX6_read_55 dX6_read_58 dX6_read_59 dX6_read_61 dX6_read_64 (fun x hx => (hnt x hx).elim) (Nat.le_of_ble_eq_true rfl) (Nat.le_of_ble_eq_true rfl) (Nat.le_of_ble_eq_true rfl) (Nat.le_of_ble_eq_true rfl) X.2.2.1 hxx hff hcc hss) ⟨hsp.symm.trans hF, (List.mem_of_getElem? (i := 0) rfl)⟩ hw (Nat.le_of_ble_eq_true rfl) (Nat.le_of_ble_eq_true rfl)
  · skip
    have hF := hF.trans (if_pos c4)
    try have hS := Eq.mp (if_pos c4) hS
    refine lv_aload_n hx hb dX6_read_20 rfl (lv_at hl 1 rfl) ?_
    refine lv_aload_n hx hb dX6_read_21 rfl (lv_at hl 1 rfl) ?_
    refine g_get (v := .ref (ad 101)) (C := RX6) (T := TX6) (N := 5) (ci := 8) X inX6 hw 92 rfl rfl 2 (by decide) (List.mem_of_getElem? (i := 5) rfl) rfl rfl dX6_read_22 ?_
    refine g_get (v := .int (u3.2.1 19)) (C := RX5) (T := TX5) (N := 7) (ci := 7) X inX5 hw 101 rfl rfl 2 (by decide) (List.mem_of_getElem? (i := 7) rfl) rfl rfl dX6_read_25 ?_
    refine g_put (v := .int (u3.2.1 19)) (C := RX6) (T := TX6) (N := 5) (ci := 8) (w' := CW cy ad (sI u3 22 (u3.2.1 19)) ++ rest) X inX6 tyX6 tyX6_ok nmX6 hw 92 rfl rfl 4 (by decide) (List.mem_of_getElem? (i := 8) rfl) rfl rfl rfl rfl (Nat.le_of_ble_eq_true rfl) rfl dX6_read_28 (fun H locs hw => ?_)
    obtain ⟨u25, hu25⟩ : ∃ z, z = sI u3 22 (u3.2.1 19) := ⟨_, rfl⟩
    rw [← hu25] at hw
    have hF := hF.trans (bnd_eq hu25)
    try have hS := Eq.mp (bnd_eq hu25) hS
    exact hthr _ _ u25 _ _ _ _ _ _ (fun Qc XC mc ms free hxx hff hcc hss => vx_throwS (A := A) hx hb hlt X.2.2.2.2.1 (by decide +kernel) (by decide +kernel) (X.2.2.2.2.2.1 _ (List.mem_of_getElem? (i := 1) rfl)) (X.2.2.2.2.2.1 _ (List.mem_of_getElem? (i := 2) rfl)) hE.2.2.1.2.2.2.2.2.2.2.2.2.1 (vx_hat (fun w h => X.2.2.2.2.2.1 w (List.mem_cons_of_mem _ (List.mem_append_left _ (List.mem_append_left _ (List.mem_append_left _ (List.mem_append_right _ h)))))) ax_240 (gBIA_of hE.2.2.2)) ax_240g hE.1 hE.2.1 hw.2.2 (hl.1.trans X.2.2.2.1.symm) dX6_read_31 dX6_read_34 dX6_read_35 dX6_read_37 dX6_read_40 (fun x hx => (hnt x hx).elim) (Nat.le_of_ble_eq_true rfl) (Nat.le_of_ble_eq_true rfl) (Nat.le_of_ble_eq_true rfl) (Nat.le_of_ble_eq_true rfl) X.2.2.1 hxx hff hcc hss) ⟨hsp.symm.trans hF, (List.mem_of_getElem? (i := 1) rfl)⟩ hw (Nat.le_of_ble_eq_true rfl) (Nat.le_of_ble_eq_true rfl)
