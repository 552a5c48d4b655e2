set_option maxHeartbeats 4000000 in
set_option maxRecDepth 100000 in
theorem law_add {p : Program} {l : Launch} {e : Env} {s : State} {m : MethodId} {below : List Frame} {meth : Method} {c : Code} {D : va_G} {cy : Nat → ClassId} {ss : Nat → Nat} {ad bd : Nat → Nat} {o o2 b L : Nat} {xs : Nat → Int32} (CX : LX p l s m meth c D cy ss b L xs) {j : Nat} (hj : 4 * j + 4 ≤ L) (ih : LH p l e s m below meth c D cy ad bd o o2 b (j + 1)) {C M : CS} {f : Nat → Int64} {g : Nat → UInt64} {H : Heap} {locs : List Loc} {ls : Array Slot} (hR : Rel C M) (hw : gw D (LA s) s.heap (CW cy ad C ++ (oL cy o f :: oD cy o2 g :: MW cy bd M)) H locs) (hl : lv_has ls 9 [(0, .ref b), (1, .ref (ad 92)), (2, .ref (bd 0)), (3, .ref o), (4, .ref o2), (5, .int (nI (4 * j)))]) : W p l e room_1 s m #[Value.ref b] below meth c H locs (200 + 4 * j) (9000 + 24 * j) (lw_Z below #[Value.ref b] s) (F0 m 461 ls []) := by
  obtain ⟨X, hE, hX, hbl, hbA, hlt, hL⟩ := CX
  have hx := X.1
  have hb := X.2.1
  obtain ⟨hS, hI, hR2⟩ := sim_add hR (xs (nI (4 * j) + 1).toNatClampNeg) (xs (nI (4 * j) + 2).toNatClampNeg) (xs (nI (4 * j) + 3).toNatClampNeg)
  refine lv_aload_n hx hb dL_law_461 rfl (lv_at hl 1 rfl) ?_
  refine lv_aload_n hx hb dL_law_462 rfl (lv_at hl 0 rfl) ?_
  refine lv_iload hx hb dL_law_463 (lv_at hl 5 rfl) ?_
  refine lv_iconst (v := 1) hx hb dL_law_465 (by decide) ?_
  refine lv_iadd hx hb dL_law_466 ?_
  refine va_sld hx hb hX hbl hbA hw.2.2 (lw_ix 1 hj hL (by decide)) dL_law_467 ?_
  refine lv_aload_n hx hb dL_law_468 rfl (lv_at hl 0 rfl) ?_
  refine lv_iload hx hb dL_law_469 (lv_at hl 5 rfl) ?_
  refine lv_iconst (v := 2) hx hb dL_law_471 (by decide) ?_
  refine lv_iadd hx hb dL_law_472 ?_
  refine va_sld hx hb hX hbl hbA hw.2.2 (lw_ix 2 hj hL (by decide)) dL_law_473 ?_
  refine lv_aload_n hx hb dL_law_474 rfl (lv_at hl 0 rfl) ?_
  refine lv_iload hx hb dL_law_475 (lv_at hl 5 rfl) ?_
  refine lv_iconst (v := 3) hx hb dL_law_477 (by decide) ?_
  refine lv_iadd hx hb dL_law_478 ?_
  refine va_sld hx hb hX hbl hbA hw.2.2 (lw_ix 3 hj hL (by decide)) dL_law_479 ?_
  refine lv_aload_n hx hb dL_law_480 rfl (lv_at hl 3 rfl) ?_
  refine gwS_i (rest := []) X hE (c_L_add l hlt D cy ss ad o (oD cy o2 g :: MW cy bd M) C f (xs (nI (4 * j) + 1).toNatClampNeg) (xs (nI (4 * j) + 2).toNatClampNeg) (xs (nI (4 * j) + 3).toNatClampNeg)) gy_L_add gL_law_L_add ⟨rfl, rfl, Nat.le_of_ble_eq_true rfl, Nat.le_of_ble_eq_true rfl⟩ rfl hl rfl (Nat.le_of_ble_eq_true rfl) dL_law_481 ⟨by show 200 + 4 * j + 3 ≤ 603072; omega, by show 9000 + 24 * j + 18 ≤ 7202922; omega⟩ hw (fun r6 u6 H locs hk hw => ?_)
  obtain ⟨uC, uO⟩ := u6
  obtain ⟨hk, hC, hout⟩ := hk
  have hC : uC = (F_X6_add C (xs (nI (4 * j) + 1).toNatClampNeg) (xs (nI (4 * j) + 2).toNatClampNeg) (xs (nI (4 * j) + 3).toNatClampNeg)).2 := hC
  subst hC
  have hw : gw D (LA s) s.heap (CW cy ad (F_X6_add C (xs (nI (4 * j) + 1).toNatClampNeg) (xs (nI (4 * j) + 2).toNatClampNeg) (xs (nI (4 * j) + 3).toNatClampNeg)).2 ++ (oL cy o uO :: oD cy o2 g :: MW cy bd M)) H locs := hw
  refine lv_istore (lv' := [(6, .int r6), (0, .ref b), (1, .ref (ad 92)), (2, .ref (bd 0)), (3, .ref o), (4, .ref o2), (5, .int (nI (4 * j)))]) hx hb dL_law_484 hl (by decide) rfl (fun ls hl => ?_)
  refine lv_aload_n hx hb dL_law_486 rfl (lv_at hl 3 rfl) ?_
  refine lv_aload_n hx hb dL_law_487 rfl (lv_at hl 1 rfl) ?_
  refine lv_iload hx hb dL_law_488 (lv_at hl 6 rfl) ?_
  refine lv_iconst (v := 1) hx hb dL_law_490 (by decide) ?_
  refine lv_iadd hx hb dL_law_491 ?_
  refine va_sld hx hb hX hbl hbA hw.2.2 (lw_ix 1 hj hL (by decide)) dL_law_492 ?_
  refine lv_aload_n hx hb dL_law_493 rfl (lv_at hl 1 rfl) ?_
  refine lv_iload hx hb dL_law_494 (lv_at hl 6 rfl) ?_
  refine lv_iconst (v := 2) hx hb dL_law_496 (by decide) ?_
  refine lv_iadd hx hb dL_law_497 ?_
  refine va_sld hx hb hX hbl hbA hw.2.2 (lw_ix 2 hj hL (by decide)) dL_law_498 ?_
  refine lv_aload_n hx hb dL_law_499 rfl (lv_at hl 1 rfl) ?_
  refine lv_iload hx hb dL_law_500 (lv_at hl 6 rfl) ?_
  refine lv_iconst (v := 3) hx hb dL_law_502 (by decide) ?_
  refine lv_iadd hx hb dL_law_503 ?_
  refine va_sld hx hb hX hbl hbA hw.2.2 (lw_ix 3 hj hL (by decide)) dL_law_504 ?_
  have hw := gw_lr hw
  refine gcV_i (rest := []) X (c_X7_add l D cy bd (CW cy ad (F_X6_add C (xs (nI (4 * j) + 1).toNatClampNeg) (xs (nI (4 * j) + 2).toNatClampNeg) (xs (nI (4 * j) + 3).toNatClampNeg)).2 ++ [oL cy o uO, oD cy o2 g]) M (xs (nI (4 * j) + 1).toNatClampNeg) (xs (nI (4 * j) + 2).toNatClampNeg) (xs (nI (4 * j) + 3).toNatClampNeg) hS) gy_X7_add gL_law_X7_add ⟨rfl, rfl, Nat.le_of_ble_eq_true rfl, Nat.le_of_ble_eq_true rfl⟩ 0 rfl rfl rfl hl rfl (Nat.le_of_ble_eq_true rfl) dL_law_505 ⟨by show 200 + 4 * j + 3 ≤ 603072; omega, by show 9000 + 24 * j + 18 ≤ 7202922; omega⟩ hw (fun r7 ur7 H locs hr7 hw => ?_)
  obtain ⟨hr7, hM⟩ := hr7
  have hM : ur7 = (F_X7_add M (xs (nI (4 * j) + 1).toNatClampNeg) (xs (nI (4 * j) + 2).toNatClampNeg) (xs (nI (4 * j) + 3).toNatClampNeg)).2 := hM
  subst hM
  have hr7 : r7 = (F_X7_add M (xs (nI (4 * j) + 1).toNatClampNeg) (xs (nI (4 * j) + 2).toNatClampNeg) (xs (nI (4 * j) + 3).toNatClampNeg)).1 := hr7
  have hw := gw_rl hw
  have hw : gw D (LA s) s.heap (CW cy ad (F_X6_add C (xs (nI (4 * j) + 1).toNatClampNeg) (xs (nI (4 * j) + 2).toNatClampNeg) (xs (nI (4 * j) + 3).toNatClampNeg)).2 ++ (oL cy o uO :: oD cy o2 g :: MW cy bd (F_X7_add M (xs (nI (4 * j) + 1).toNatClampNeg) (xs (nI (4 * j) + 2).toNatClampNeg) (xs (nI (4 * j) + 3).toNatClampNeg)).2)) H locs := hw
  have hb7 := hr7
  refine lv_istore (lv' := [(7, .int r7), (6, .int r6), (0, .ref b), (1, .ref (ad 92)), (2, .ref (bd 0)), (3, .ref o), (4, .ref o2), (5, .int (nI (4 * j)))]) hx hb dL_law_508 hl (by decide) rfl (fun ls hl => ?_)
  refine lv_aload_n hx hb dL_law_510 rfl (lv_at hl 4 rfl) ?_
  have hw := gw_lr hw
  refine gcV_i (rest := []) X (c_X7_thrown l D cy bd (CW cy ad (F_X6_add C (xs (nI (4 * j) + 1).toNatClampNeg) (xs (nI (4 * j) + 2).toNatClampNeg) (xs (nI (4 * j) + 3).toNatClampNeg)).2 ++ [oL cy o uO, oD cy o2 g]) (F_X7_add M (xs (nI (4 * j) + 1).toNatClampNeg) (xs (nI (4 * j) + 2).toNatClampNeg) (xs (nI (4 * j) + 3).toNatClampNeg)).2) gy_X7_thrown gL_law_X7_thrown ⟨rfl, rfl, Nat.le_of_ble_eq_true rfl, Nat.le_of_ble_eq_true rfl⟩ 0 rfl rfl rfl hl rfl (Nat.le_of_ble_eq_true rfl) dL_law_511 ⟨by show 200 + 4 * j + 3 ≤ 603072; omega, by show 9000 + 24 * j + 18 ≤ 7202922; omega⟩ hw (fun r9x ur9x H locs hr9x hw => ?_)
  have hr9x : r9x = (F_X7_thrown (F_X7_add M (xs (nI (4 * j) + 1).toNatClampNeg) (xs (nI (4 * j) + 2).toNatClampNeg) (xs (nI (4 * j) + 3).toNatClampNeg)).2) := hr9x
  have hw := gw_rl hw
  have hw : gw D (LA s) s.heap (CW cy ad (F_X6_add C (xs (nI (4 * j) + 1).toNatClampNeg) (xs (nI (4 * j) + 2).toNatClampNeg) (xs (nI (4 * j) + 3).toNatClampNeg)).2 ++ (oL cy o uO :: oD cy o2 g :: MW cy bd (F_X7_add M (xs (nI (4 * j) + 1).toNatClampNeg) (xs (nI (4 * j) + 2).toNatClampNeg) (xs (nI (4 * j) + 3).toNatClampNeg)).2)) H locs := hw
  have hthr : r9x = r6 := by rw [hr9x, hk]; exact (F_X7_thrown.eq_1 _).trans (simI_k hI)
  refine lv_iload hx hb dL_law_514 (lv_at hl 1 rfl) ?_
  refine lv_icmp_eq (tgt := 521) hx hb dL_law_516 (by decide) (fun _ => ?_) (fun c9 => absurd (hthr) c9)
  refine lv_iload hx hb dL_law_521 (lv_at hl 1 rfl) ?_
  refine lv_if_ne (tgt := 538) hx hb dL_law_523 (by decide) (fun c6 => ?_) (fun c6 => ?_)
  · skip
    refine lv_goto (tgt := 1783) hx hb dL_law_538 (by decide) ?_
    refine lv_iinc (v := nI (4 * (j + 1))) (lv' := [(5, .int (nI (4 * (j + 1)))), (7, .int r7), (6, .int r6), (0, .ref b), (1, .ref (ad 92)), (2, .ref (bd 0)), (3, .ref o), (4, .ref o2)]) hx hb dL_law_1783 hl (k := 7) rfl (lw_up j) (by decide) rfl (fun ls hl => ?_)
    refine lv_goto (tgt := 28) hx hb dL_law_1786 (by decide) ?_
    refine W.widen (k := 200 + 4 * (j + 1)) (n := 9000 + 24 * (j + 1)) (by omega) (by omega) ?_
    exact ih _ _ _ _ _ _ _ hR2 hw (lv_sub hl [3, 4, 5, 6, 7, 0] rfl)
  · skip
    have hoo := hout.trans (simI_o hI (hk.symm.trans c6) vp_updL f (fun v : Int32 => v.toInt64))
    try dsimp only at hoo
    refine lv_aload_n hx hb dL_law_526 rfl (lv_at hl 5 rfl) ?_
    refine lv_iconst (v := 0) hx hb dL_law_527 (by decide) ?_
    refine g_laldk (k := 0) rfl X hw 102 rfl (vk rfl) dL_law_528 ?_
    refine lv_iload hx hb dL_law_529 (lv_at hl 0 rfl) ?_
    refine lv_i2l (v := r7.toInt64) hx hb dL_law_531 rfl ?_
    refine W.lcmp hx hb dL_law_532 ?_
    refine lv_if_eq (tgt := 538) hx hb dL_law_533 (by decide) (fun _ => ?_) (fun c9 => absurd (by rw [hoo, hb7]; exact lg_same _) c9)
    refine lv_goto (tgt := 1783) hx hb dL_law_538 (by decide) ?_
    refine lv_iinc (v := nI (4 * (j + 1))) (lv' := [(5, .int (nI (4 * (j + 1)))), (7, .int r7), (6, .int r6), (0, .ref b), (1, .ref (ad 92)), (2, .ref (bd 0)), (3, .ref o), (4, .ref o2)]) hx hb dL_law_1783 hl (k := 7) rfl (lw_up j) (by decide) rfl (fun ls hl => ?_)
    refine lv_goto (tgt := 28) hx hb dL_law_1786 (by decide) ?_
    refine W.widen (k := 200 + 4 * (j + 1)) (n := 9000 + 24 * (j + 1)) (by omega) (by omega) ?_
    exact ih _ _ _ _ _ _ _ hR2 hw (lv_sub hl [3, 4, 5, 6, 7, 0] rfl)
set_option maxHeartbeats 4000000 in
set_option maxRecDepth 100000 in
theorem law_advance {p : Program} {l : Launch} {e : Env} {s : State} {m : MethodId} {below : List Frame} {meth : Method} {c : Code} {D : va_G} {cy : Nat → ClassId} {ss : Nat → Nat} {ad bd : Nat → Nat} {o o2 b L : Nat} {xs : Nat → Int32} (CX : LX p l s m meth c D cy ss b L xs) {j : Nat} (hj : 4 * j + 4 ≤ L) (ih : LH p l e s m below meth c D cy ad bd o o2 b (j + 1)) {C M : CS} {f : Nat → Int64} {g : Nat → UInt64} {H : Heap} {locs : List Loc} {ls : Array Slot} (hR : Rel C M) (hw : gw D (LA s) s.heap (CW cy ad C ++ (oL cy o f :: oD cy o2 g :: MW cy bd M)) H locs) (hl : lv_has ls 9 [(0, .ref b), (1, .ref (ad 92)), (2, .ref (bd 0)), (3, .ref o), (4, .ref o2), (5, .int (nI (4 * j)))]) : W p l e room_1 s m #[Value.ref b] below meth c H locs (200 + 4 * j) (9000 + 24 * j) (lw_Z below #[Value.ref b] s) (F0 m 541 ls []) := by
  obtain ⟨X, hE, hX, hbl, hbA, hlt, hL⟩ := CX
  have hx := X.1
  have hb := X.2.1
  obtain ⟨hS, hI, hR2⟩ := sim_advance hR (xs (nI (4 * j) + 1).toNatClampNeg)
  refine lv_aload_n hx hb dL_law_541 rfl (lv_at hl 1 rfl) ?_
  refine lv_aload_n hx hb dL_law_542 rfl (lv_at hl 0 rfl) ?_
  refine lv_iload hx hb dL_law_543 (lv_at hl 5 rfl) ?_
  refine lv_iconst (v := 1) hx hb dL_law_545 (by decide) ?_
  refine lv_iadd hx hb dL_law_546 ?_
  refine va_sld hx hb hX hbl hbA hw.2.2 (lw_ix 1 hj hL (by decide)) dL_law_547 ?_
  refine lv_aload_n hx hb dL_law_548 rfl (lv_at hl 3 rfl) ?_
  refine gwS_i (rest := []) X hE (c_L_advance l hlt D cy ss ad o (oD cy o2 g :: MW cy bd M) C f (xs (nI (4 * j) + 1).toNatClampNeg)) gy_L_advance gL_law_L_advance ⟨rfl, rfl, Nat.le_of_ble_eq_true rfl, Nat.le_of_ble_eq_true rfl⟩ rfl hl rfl (Nat.le_of_ble_eq_true rfl) dL_law_549 ⟨by show 200 + 4 * j + 1 ≤ 603072; omega, by show 9000 + 24 * j + 6 ≤ 7202922; omega⟩ hw (fun r6 u6 H locs hk hw => ?_)
  obtain ⟨uC, uO⟩ := u6
  obtain ⟨hk, hC, hout⟩ := hk
  have hC : uC = (F_X6_advance C (xs (nI (4 * j) + 1).toNatClampNeg)).2 := hC
  subst hC
  have hw : gw D (LA s) s.heap (CW cy ad (F_X6_advance C (xs (nI (4 * j) + 1).toNatClampNeg)).2 ++ (oL cy o uO :: oD cy o2 g :: MW cy bd M)) H locs := hw
  refine lv_istore (lv' := [(6, .int r6), (0, .ref b), (1, .ref (ad 92)), (2, .ref (bd 0)), (3, .ref o), (4, .ref o2), (5, .int (nI (4 * j)))]) hx hb dL_law_552 hl (by decide) rfl (fun ls hl => ?_)
  refine lv_aload_n hx hb dL_law_554 rfl (lv_at hl 3 rfl) ?_
  refine lv_aload_n hx hb dL_law_555 rfl (lv_at hl 1 rfl) ?_
  refine lv_iload hx hb dL_law_556 (lv_at hl 6 rfl) ?_
  refine lv_iconst (v := 1) hx hb dL_law_558 (by decide) ?_
  refine lv_iadd hx hb dL_law_559 ?_
  refine va_sld hx hb hX hbl hbA hw.2.2 (lw_ix 1 hj hL (by decide)) dL_law_560 ?_
  have hw := gw_lr hw
  refine gcV_i (rest := []) X (c_X7_advance l D cy bd (CW cy ad (F_X6_advance C (xs (nI (4 * j) + 1).toNatClampNeg)).2 ++ [oL cy o uO, oD cy o2 g]) M (xs (nI (4 * j) + 1).toNatClampNeg) hS) gy_X7_advance gL_law_X7_advance ⟨rfl, rfl, Nat.le_of_ble_eq_true rfl, Nat.le_of_ble_eq_true rfl⟩ 0 rfl rfl rfl hl rfl (Nat.le_of_ble_eq_true rfl) dL_law_561 ⟨by show 200 + 4 * j + 1 ≤ 603072; omega, by show 9000 + 24 * j + 6 ≤ 7202922; omega⟩ hw (fun r7 ur7 H locs hr7 hw => ?_)
  obtain ⟨hr7, hM⟩ := hr7
  have hM : ur7 = (F_X7_advance M (xs (nI (4 * j) + 1).toNatClampNeg)).2 := hM
  subst hM
  have hr7 : r7 = (F_X7_advance M (xs (nI (4 * j) + 1).toNatClampNeg)).1 := hr7
  have hw := gw_rl hw
  have hw : gw D (LA s) s.heap (CW cy ad (F_X6_advance C (xs (nI (4 * j) + 1).toNatClampNeg)).2 ++ (oL cy o uO :: oD cy o2 g :: MW cy bd (F_X7_advance M (xs (nI (4 * j) + 1).toNatClampNeg)).2)) H locs := hw
  have hb7 := hr7
  refine lv_istore (lv' := [(7, .int r7), (6, .int r6), (0, .ref b), (1, .ref (ad 92)), (2, .ref (bd 0)), (3, .ref o), (4, .ref o2), (5, .int (nI (4 * j)))]) hx hb dL_law_564 hl (by decide) rfl (fun ls hl => ?_)
  refine lv_aload_n hx hb dL_law_566 rfl (lv_at hl 4 rfl) ?_
  have hw := gw_lr hw
  refine gcV_i (rest := []) X (c_X7_thrown l D cy bd (CW cy ad (F_X6_advance C (xs (nI (4 * j) + 1).toNatClampNeg)).2 ++ [oL cy o uO, oD cy o2 g]) (F_X7_advance M (xs (nI (4 * j) + 1).toNatClampNeg)).2) gy_X7_thrown gL_law_X7_thrown ⟨rfl, rfl, Nat.le_of_ble_eq_true rfl, Nat.le_of_ble_eq_true rfl⟩ 0 rfl rfl rfl hl rfl (Nat.le_of_ble_eq_true rfl) dL_law_567 ⟨by show 200 + 4 * j + 1 ≤ 603072; omega, by show 9000 + 24 * j + 6 ≤ 7202922; omega⟩ hw (fun r9x ur9x H locs hr9x hw => ?_)
  have hr9x : r9x = (F_X7_thrown (F_X7_advance M (xs (nI (4 * j) + 1).toNatClampNeg)).2) := hr9x
  have hw := gw_rl hw
  have hw : gw D (LA s) s.heap (CW cy ad (F_X6_advance C (xs (nI (4 * j) + 1).toNatClampNeg)).2 ++ (oL cy o uO :: oD cy o2 g :: MW cy bd (F_X7_advance M (xs (nI (4 * j) + 1).toNatClampNeg)).2)) H locs := hw
  have hthr : r9x = r6 := by rw [hr9x, hk]; exact (F_X7_thrown.eq_1 _).trans (simI_k hI)
  refine lv_iload hx hb dL_law_570 (lv_at hl 1 rfl) ?_
  refine lv_icmp_eq (tgt := 577) hx hb dL_law_572 (by decide) (fun _ => ?_) (fun c9 => absurd (hthr) c9)
  refine lv_iload hx hb dL_law_577 (lv_at hl 1 rfl) ?_
  refine lv_if_ne (tgt := 594) hx hb dL_law_579 (by decide) (fun c6 => ?_) (fun c6 => ?_)
  · skip
    refine lv_goto (tgt := 1783) hx hb dL_law_594 (by decide) ?_
    refine lv_iinc (v := nI (4 * (j + 1))) (lv' := [(5, .int (nI (4 * (j + 1)))), (7, .int r7), (6, .int r6), (0, .ref b), (1, .ref (ad 92)), (2, .ref (bd 0)), (3, .ref o), (4, .ref o2)]) hx hb dL_law_1783 hl (k := 7) rfl (lw_up j) (by decide) rfl (fun ls hl => ?_)
    refine lv_goto (tgt := 28) hx hb dL_law_1786 (by decide) ?_
    refine W.widen (k := 200 + 4 * (j + 1)) (n := 9000 + 24 * (j + 1)) (by omega) (by omega) ?_
    exact ih _ _ _ _ _ _ _ hR2 hw (lv_sub hl [3, 4, 5, 6, 7, 0] rfl)
  · skip
    have hoo := hout.trans (simI_o hI (hk.symm.trans c6) vp_updL f (fun v : Int32 => v.toInt64))
    try dsimp only at hoo
    refine lv_aload_n hx hb dL_law_582 rfl (lv_at hl 5 rfl) ?_
    refine lv_iconst (v := 0) hx hb dL_law_583 (by decide) ?_
    refine g_laldk (k := 0) rfl X hw 102 rfl (vk rfl) dL_law_584 ?_
    refine lv_iload hx hb dL_law_585 (lv_at hl 0 rfl) ?_
    refine lv_i2l (v := r7.toInt64) hx hb dL_law_587 rfl ?_
    refine W.lcmp hx hb dL_law_588 ?_
    refine lv_if_eq (tgt := 594) hx hb dL_law_589 (by decide) (fun _ => ?_) (fun c9 => absurd (by rw [hoo, hb7]; exact lg_same _) c9)
    refine lv_goto (tgt := 1783) hx hb dL_law_594 (by decide) ?_
    refine lv_iinc (v := nI (4 * (j + 1))) (lv' := [(5, .int (nI (4 * (j + 1)))), (7, .int r7), (6, .int r6), (0, .ref b), (1, .ref (ad 92)), (2, .ref (bd 0)), (3, .ref o), (4, .ref o2)]) hx hb dL_law_1783 hl (k := 7) rfl (lw_up j) (by decide) rfl (fun ls hl => ?_)
    refine lv_goto (tgt := 28) hx hb dL_law_1786 (by decide) ?_
    refine W.widen (k := 200 + 4 * (j + 1)) (n := 9000 + 24 * (j + 1)) (by omega) (by omega) ?_
    exact ih _ _ _ _ _ _ _ hR2 hw (lv_sub hl [3, 4, 5, 6, 7, 0] rfl)
set_option maxHeartbeats 4000000 in
set_option maxRecDepth 100000 in
theorem law_watermark {p : Program} {l : Launch} {e : Env} {s : State} {m : MethodId} {below : List Frame} {meth : Method} {c : Code} {D : va_G} {cy : Nat → ClassId} {ss : Nat → Nat} {ad bd : Nat → Nat} {o o2 b L : Nat} {xs : Nat → Int32} (CX : LX p l s m meth c D cy ss b L xs) {j : Nat} (hj : 4 * j + 4 ≤ L) (ih : LH p l e s m below meth c D cy ad bd o o2 b (j + 1)) {C M : CS} {f : Nat → Int64} {g : Nat → UInt64} {H : Heap} {locs : List Loc} {ls : Array Slot} (hR : Rel C M) (hw : gw D (LA s) s.heap (CW cy ad C ++ (oL cy o f :: oD cy o2 g :: MW cy bd M)) H locs) (hl : lv_has ls 9 [(0, .ref b), (1, .ref (ad 92)), (2, .ref (bd 0)), (3, .ref o), (4, .ref o2), (5, .int (nI (4 * j)))]) : W p l e room_1 s m #[Value.ref b] below meth c H locs (200 + 4 * j) (9000 + 24 * j) (lw_Z below #[Value.ref b] s) (F0 m 597 ls []) := by
  obtain ⟨X, hE, hX, hbl, hbA, hlt, hL⟩ := CX
  have hx := X.1
  have hb := X.2.1
  obtain ⟨hI, hR2⟩ := sim_watermark hR
  refine lv_aload_n hx hb dL_law_597 rfl (lv_at hl 1 rfl) ?_
  refine gcV_i (rest := []) X (c_X6_watermark l D cy ad (oL cy o f :: oD cy o2 g :: MW cy bd M) C) gy_X6_watermark gL_law_X6_watermark ⟨rfl, rfl, Nat.le_of_ble_eq_true rfl, Nat.le_of_ble_eq_true rfl⟩ 92 rfl rfl rfl hl rfl (Nat.le_of_ble_eq_true rfl) dL_law_598 ⟨by show 200 + 4 * j ≤ 603072; omega, by show 9000 + 24 * j ≤ 7202922; omega⟩ hw (fun r8x ur8x H locs hr8x hw => ?_)
  have hr8x : r8x = (F_X6_watermark C) := hr8x
  have hw : gw D (LA s) s.heap (CW cy ad C ++ (oL cy o f :: oD cy o2 g :: MW cy bd M)) H locs := hw
  refine lv_aload_n hx hb dL_law_601 rfl (lv_at hl 2 rfl) ?_
  have hw := gw_lr hw
  refine gcV_i (rest := [.int r8x]) X (c_X7_watermark l D cy bd (CW cy ad C ++ [oL cy o f, oD cy o2 g]) M) gy_X7_watermark gL_law_X7_watermark ⟨rfl, rfl, Nat.le_of_ble_eq_true rfl, Nat.le_of_ble_eq_true rfl⟩ 0 rfl rfl rfl hl rfl (Nat.le_of_ble_eq_true rfl) dL_law_602 ⟨by show 200 + 4 * j ≤ 603072; omega, by show 9000 + 24 * j ≤ 7202922; omega⟩ hw (fun r7 ur7 H locs hr7 hw => ?_)
  obtain ⟨hr7, hM⟩ := hr7
  have hM : ur7 = (F_X7_watermark M).2 := hM
  subst hM
  have hr7 : r7 = (F_X7_watermark M).1 := hr7
  have hw := gw_rl hw
  have hw : gw D (LA s) s.heap (CW cy ad C ++ (oL cy o f :: oD cy o2 g :: MW cy bd (F_X7_watermark M).2)) H locs := hw
  have hcmp : r8x = r7 := hr8x.trans (hI.trans hr7.symm)
  refine lv_icmp_eq (tgt := 1783) hx hb dL_law_605 (by decide) (fun _ => ?_) (fun c9 => absurd (hcmp) c9)
  refine lv_iinc (v := nI (4 * (j + 1))) (lv' := [(5, .int (nI (4 * (j + 1)))), (0, .ref b), (1, .ref (ad 92)), (2, .ref (bd 0)), (3, .ref o), (4, .ref o2)]) hx hb dL_law_1783 hl (k := 5) rfl (lw_up j) (by decide) rfl (fun ls hl => ?_)
  refine lv_goto (tgt := 28) hx hb dL_law_1786 (by decide) ?_
  refine W.widen (k := 200 + 4 * (j + 1)) (n := 9000 + 24 * (j + 1)) (by omega) (by omega) ?_
  exact ih _ _ _ _ _ _ _ hR2 hw (lv_sub hl [1, 2, 3, 4, 5, 0] rfl)
set_option maxHeartbeats 4000000 in
set_option maxRecDepth 100000 in
theorem law_lateCount {p : Program} {l : Launch} {e : Env} {s : State} {m : MethodId} {below : List Frame} {meth : Method} {c : Code} {D : va_G} {cy : Nat → ClassId} {ss : Nat → Nat} {ad bd : Nat → Nat} {o o2 b L : Nat} {xs : Nat → Int32} (CX : LX p l s m meth c D cy ss b L xs) {j : Nat} (hj : 4 * j + 4 ≤ L) (ih : LH p l e s m below meth c D cy ad bd o o2 b (j + 1)) {C M : CS} {f : Nat → Int64} {g : Nat → UInt64} {H : Heap} {locs : List Loc} {ls : Array Slot} (hR : Rel C M) (hw : gw D (LA s) s.heap (CW cy ad C ++ (oL cy o f :: oD cy o2 g :: MW cy bd M)) H locs) (hl : lv_has ls 9 [(0, .ref b), (1, .ref (ad 92)), (2, .ref (bd 0)), (3, .ref o), (4, .ref o2), (5, .int (nI (4 * j)))]) : W p l e room_1 s m #[Value.ref b] below meth c H locs (200 + 4 * j) (9000 + 24 * j) (lw_Z below #[Value.ref b] s) (F0 m 610 ls []) := by
  obtain ⟨X, hE, hX, hbl, hbA, hlt, hL⟩ := CX
  have hx := X.1
  have hb := X.2.1
  obtain ⟨hI, hR2⟩ := sim_lateCount hR
  refine lv_aload_n hx hb dL_law_610 rfl (lv_at hl 1 rfl) ?_
  refine gcV_i (rest := []) X (c_X6_lateCount l D cy ad (oL cy o f :: oD cy o2 g :: MW cy bd M) C) gy_X6_lateCount gL_law_X6_lateCount ⟨rfl, rfl, Nat.le_of_ble_eq_true rfl, Nat.le_of_ble_eq_true rfl⟩ 92 rfl rfl rfl hl rfl (Nat.le_of_ble_eq_true rfl) dL_law_611 ⟨by show 200 + 4 * j ≤ 603072; omega, by show 9000 + 24 * j ≤ 7202922; omega⟩ hw (fun r8x ur8x H locs hr8x hw => ?_)
  have hr8x : r8x = (F_X6_lateCount C) := hr8x
  have hw : gw D (LA s) s.heap (CW cy ad C ++ (oL cy o f :: oD cy o2 g :: MW cy bd M)) H locs := hw
  refine lv_aload_n hx hb dL_law_614 rfl (lv_at hl 2 rfl) ?_
  have hw := gw_lr hw
  refine gcV_i (rest := [.int r8x]) X (c_X7_lateCount l D cy bd (CW cy ad C ++ [oL cy o f, oD cy o2 g]) M) gy_X7_lateCount gL_law_X7_lateCount ⟨rfl, rfl, Nat.le_of_ble_eq_true rfl, Nat.le_of_ble_eq_true rfl⟩ 0 rfl rfl rfl hl rfl (Nat.le_of_ble_eq_true rfl) dL_law_615 ⟨by show 200 + 4 * j ≤ 603072; omega, by show 9000 + 24 * j ≤ 7202922; omega⟩ hw (fun r7 ur7 H locs hr7 hw => ?_)
  obtain ⟨hr7, hM⟩ := hr7
  have hM : ur7 = (F_X7_lateCount M).2 := hM
  subst hM
  have hr7 : r7 = (F_X7_lateCount M).1 := hr7
  have hw := gw_rl hw
  have hw : gw D (LA s) s.heap (CW cy ad C ++ (oL cy o f :: oD cy o2 g :: MW cy bd (F_X7_lateCount M).2)) H locs := hw
  have hcmp : r8x = r7 := hr8x.trans (hI.trans hr7.symm)
  refine lv_icmp_eq (tgt := 1783) hx hb dL_law_618 (by decide) (fun _ => ?_) (fun c9 => absurd (hcmp) c9)
  refine lv_iinc (v := nI (4 * (j + 1))) (lv' := [(5, .int (nI (4 * (j + 1)))), (0, .ref b), (1, .ref (ad 92)), (2, .ref (bd 0)), (3, .ref o), (4, .ref o2)]) hx hb dL_law_1783 hl (k := 5) rfl (lw_up j) (by decide) rfl (fun ls hl => ?_)
  refine lv_goto (tgt := 28) hx hb dL_law_1786 (by decide) ?_
  refine W.widen (k := 200 + 4 * (j + 1)) (n := 9000 + 24 * (j + 1)) (by omega) (by omega) ?_
  exact ih _ _ _ _ _ _ _ hR2 hw (lv_sub hl [1, 2, 3, 4, 5, 0] rfl)
set_option maxHeartbeats 4000000 in
set_option maxRecDepth 100000 in
theorem law_isLate {p : Program} {l : Launch} {e : Env} {s : State} {m : MethodId} {below : List Frame} {meth : Method} {c : Code} {D : va_G} {cy : Nat → ClassId} {ss : Nat → Nat} {ad bd : Nat → Nat} {o o2 b L : Nat} {xs : Nat → Int32} (CX : LX p l s m meth c D cy ss b L xs) {j : Nat} (hj : 4 * j + 4 ≤ L) (ih : LH p l e s m below meth c D cy ad bd o o2 b (j + 1)) {C M : CS} {f : Nat → Int64} {g : Nat → UInt64} {H : Heap} {locs : List Loc} {ls : Array Slot} (hR : Rel C M) (hw : gw D (LA s) s.heap (CW cy ad C ++ (oL cy o f :: oD cy o2 g :: MW cy bd M)) H locs) (hl : lv_has ls 9 [(0, .ref b), (1, .ref (ad 92)), (2, .ref (bd 0)), (3, .ref o), (4, .ref o2), (5, .int (nI (4 * j)))]) : W p l e room_1 s m #[Value.ref b] below meth c H locs (200 + 4 * j) (9000 + 24 * j) (lw_Z below #[Value.ref b] s) (F0 m 623 ls []) := by
  obtain ⟨X, hE, hX, hbl, hbA, hlt, hL⟩ := CX
  have hx := X.1
  have hb := X.2.1
  obtain ⟨hI, hR2⟩ := sim_isLate hR (xs (nI (4 * j) + 1).toNatClampNeg)
  refine lv_aload_n hx hb dL_law_623 rfl (lv_at hl 1 rfl) ?_
  refine lv_aload_n hx hb dL_law_624 rfl (lv_at hl 0 rfl) ?_
  refine lv_iload hx hb dL_law_625 (lv_at hl 5 rfl) ?_
  refine lv_iconst (v := 1) hx hb dL_law_627 (by decide) ?_
  refine lv_iadd hx hb dL_law_628 ?_
  refine va_sld hx hb hX hbl hbA hw.2.2 (lw_ix 1 hj hL (by decide)) dL_law_629 ?_
  refine gcV_i (rest := []) X (c_X6_isLate l D cy ad (oL cy o f :: oD cy o2 g :: MW cy bd M) C (xs (nI (4 * j) + 1).toNatClampNeg)) gy_X6_isLate gL_law_X6_isLate ⟨rfl, rfl, Nat.le_of_ble_eq_true rfl, Nat.le_of_ble_eq_true rfl⟩ 92 rfl rfl rfl hl rfl (Nat.le_of_ble_eq_true rfl) dL_law_630 ⟨by show 200 + 4 * j ≤ 603072; omega, by show 9000 + 24 * j ≤ 7202922; omega⟩ hw (fun r8x ur8x H locs hr8x hw => ?_)
  obtain ⟨hr8x, zr8x⟩ : r8x = (F_X6_isLate C (xs (nI (4 * j) + 1).toNatClampNeg)) ∧ (r8x = 0 ∨ r8x = 1) := hr8x
  have hw : gw D (LA s) s.heap (CW cy ad C ++ (oL cy o f :: oD cy o2 g :: MW cy bd M)) H locs := hw
  refine lv_aload_n hx hb dL_law_633 rfl (lv_at hl 2 rfl) ?_
  refine lv_aload_n hx hb dL_law_634 rfl (lv_at hl 0 rfl) ?_
  refine lv_iload hx hb dL_law_635 (lv_at hl 5 rfl) ?_
  refine lv_iconst (v := 1) hx hb dL_law_637 (by decide) ?_
  refine lv_iadd hx hb dL_law_638 ?_
  refine va_sld hx hb hX hbl hbA hw.2.2 (lw_ix 1 hj hL (by decide)) dL_law_639 ?_
  have hw := gw_lr hw
  refine gcV_i (rest := [.int r8x]) X (c_X7_isLate l D cy bd (CW cy ad C ++ [oL cy o f, oD cy o2 g]) M (xs (nI (4 * j) + 1).toNatClampNeg)) gy_X7_isLate gL_law_X7_isLate ⟨rfl, rfl, Nat.le_of_ble_eq_true rfl, Nat.le_of_ble_eq_true rfl⟩ 0 rfl rfl rfl hl rfl (Nat.le_of_ble_eq_true rfl) dL_law_640 ⟨by show 200 + 4 * j ≤ 603072; omega, by show 9000 + 24 * j ≤ 7202922; omega⟩ hw (fun r7 ur7 H locs hr7 hw => ?_)
  obtain ⟨⟨hr7, hM⟩, zr7⟩ := hr7
  have hM : ur7 = (F_X7_isLate M (xs (nI (4 * j) + 1).toNatClampNeg)).2 := hM
  subst hM
  have hr7 : r7 = (F_X7_isLate M (xs (nI (4 * j) + 1).toNatClampNeg)).1 := hr7
  have hw := gw_rl hw
  have hw : gw D (LA s) s.heap (CW cy ad C ++ (oL cy o f :: oD cy o2 g :: MW cy bd (F_X7_isLate M (xs (nI (4 * j) + 1).toNatClampNeg)).2)) H locs := hw
  have hcmp : r8x = r7 := hr8x.trans (hI.trans hr7.symm)
  refine lv_icmp_eq (tgt := 1783) hx hb dL_law_643 (by decide) (fun _ => ?_) (fun c9 => absurd (hcmp) c9)
  refine lv_iinc (v := nI (4 * (j + 1))) (lv' := [(5, .int (nI (4 * (j + 1)))), (0, .ref b), (1, .ref (ad 92)), (2, .ref (bd 0)), (3, .ref o), (4, .ref o2)]) hx hb dL_law_1783 hl (k := 5) rfl (lw_up j) (by decide) rfl (fun ls hl => ?_)
  refine lv_goto (tgt := 28) hx hb dL_law_1786 (by decide) ?_
  refine W.widen (k := 200 + 4 * (j + 1)) (n := 9000 + 24 * (j + 1)) (by omega) (by omega) ?_
  exact ih _ _ _ _ _ _ _ hR2 hw (lv_sub hl [1, 2, 3, 4, 5, 0] rfl)
