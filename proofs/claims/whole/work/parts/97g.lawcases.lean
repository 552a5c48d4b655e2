set_option maxHeartbeats 4000000 in
set_option maxRecDepth 100000 in
theorem law_append {p : Program} {l : Launch} {e : Env} {s : State} {m : MethodId} {below : List Frame} {meth : Method} {c : Code} {D : va_G} {cy : Nat → ClassId} {ss : Nat → Nat} {ad bd : Nat → Nat} {o o2 b L : Nat} {xs : Nat → Int32} (CX : LX p l s m meth c D cy ss b L xs) {j : Nat} (hj : 4 * j + 4 ≤ L) (ih : LH p l e s m below meth c D cy ad bd o o2 b (j + 1)) {C M : CS} {f : Nat → Int64} {g : Nat → UInt64} {H : Heap} {locs : List Loc} {ls : Array Slot} (hR : Rel C M) (hw : gw D (LA s) s.heap (CW cy ad C ++ (oL cy o f :: oD cy o2 g :: MW cy bd M)) H locs) (hl : lv_has ls 9 [(0, .ref b), (1, .ref (ad 92)), (2, .ref (bd 0)), (3, .ref o), (4, .ref o2), (5, .int (nI (4 * j)))]) : W p l e room_1 s m #[Value.ref b] below meth c H locs (200 + 4 * j) (9000 + 24 * j) (lw_Z below #[Value.ref b] s) (F0 m 1580 ls []) := by
  obtain ⟨X, hE, hX, hbl, hbA, hlt, hL⟩ := CX
  have hx := X.1
  have hb := X.2.1
  obtain ⟨hS, hI, hR2⟩ := sim_append hR ((xs (nI (4 * j) + 1).toNatClampNeg).toUInt32 % 65536).toInt32 ⟨_, Nat.mod_lt _ (by decide), pk_char _⟩
  refine lv_aload_n hx hb dL_law_1580 rfl (lv_at hl 1 rfl) ?_
  refine lv_aload_n hx hb dL_law_1581 rfl (lv_at hl 0 rfl) ?_
  refine lv_iload hx hb dL_law_1582 (lv_at hl 5 rfl) ?_
  refine lv_iconst (v := 1) hx hb dL_law_1584 (by decide) ?_
  refine lv_iadd hx hb dL_law_1585 ?_
  refine va_sld hx hb hX hbl hbA hw.2.2 (lw_ix 1 hj hL (by decide)) dL_law_1586 ?_
  refine lv_i2c (v := ((xs (nI (4 * j) + 1).toNatClampNeg).toUInt32 % 65536).toInt32) hx hb dL_law_1587 rfl ?_
  refine lv_aload_n hx hb dL_law_1588 rfl (lv_at hl 3 rfl) ?_
  refine gwS_i (rest := []) X hE (c_L_append l hlt D cy ss ad o (oD cy o2 g :: MW cy bd M) C f (((xs (nI (4 * j) + 1).toNatClampNeg).toUInt32 % 65536).toInt32)) gy_L_append gL_law_L_append ⟨rfl, rfl, Nat.le_of_ble_eq_true rfl, Nat.le_of_ble_eq_true rfl⟩ rfl hl rfl (Nat.le_of_ble_eq_true rfl) dL_law_1589 ⟨by show 200 + 4 * j + 2 ≤ 603072; omega, by show 9000 + 24 * j + 12 ≤ 7202922; omega⟩ hw (fun r6 u6 H locs hk hw => ?_)
  obtain ⟨uC, uO⟩ := u6
  obtain ⟨hk, hC, hout⟩ := hk
  have hC : uC = (F_X6_append C (((xs (nI (4 * j) + 1).toNatClampNeg).toUInt32 % 65536).toInt32)).2 := hC
  subst hC
  have hw : gw D (LA s) s.heap (CW cy ad (F_X6_append C (((xs (nI (4 * j) + 1).toNatClampNeg).toUInt32 % 65536).toInt32)).2 ++ (oL cy o uO :: oD cy o2 g :: MW cy bd M)) H locs := hw
  refine lv_istore (lv' := [(6, .int r6), (0, .ref b), (1, .ref (ad 92)), (2, .ref (bd 0)), (3, .ref o), (4, .ref o2), (5, .int (nI (4 * j)))]) hx hb dL_law_1592 hl (by decide) rfl (fun ls hl => ?_)
  refine lv_aload_n hx hb dL_law_1594 rfl (lv_at hl 3 rfl) ?_
  refine lv_aload_n hx hb dL_law_1595 rfl (lv_at hl 1 rfl) ?_
  refine lv_iload hx hb dL_law_1596 (lv_at hl 6 rfl) ?_
  refine lv_iconst (v := 1) hx hb dL_law_1598 (by decide) ?_
  refine lv_iadd hx hb dL_law_1599 ?_
  refine va_sld hx hb hX hbl hbA hw.2.2 (lw_ix 1 hj hL (by decide)) dL_law_1600 ?_
  refine lv_i2c (v := ((xs (nI (4 * j) + 1).toNatClampNeg).toUInt32 % 65536).toInt32) hx hb dL_law_1601 rfl ?_
  have hw := gw_lr hw
  refine gcV_i (rest := []) X (c_X7_append l D cy bd (CW cy ad (F_X6_append C (((xs (nI (4 * j) + 1).toNatClampNeg).toUInt32 % 65536).toInt32)).2 ++ [oL cy o uO, oD cy o2 g]) M (((xs (nI (4 * j) + 1).toNatClampNeg).toUInt32 % 65536).toInt32) hS) gy_X7_append gL_law_X7_append ⟨rfl, rfl, Nat.le_of_ble_eq_true rfl, Nat.le_of_ble_eq_true rfl⟩ 0 rfl rfl rfl hl rfl (Nat.le_of_ble_eq_true rfl) dL_law_1602 ⟨by show 200 + 4 * j + 2 ≤ 603072; omega, by show 9000 + 24 * j + 12 ≤ 7202922; omega⟩ hw (fun r7 ur7 H locs hr7 hw => ?_)
  obtain ⟨hr7, hM⟩ := hr7
  have hM : ur7 = (F_X7_append M (((xs (nI (4 * j) + 1).toNatClampNeg).toUInt32 % 65536).toInt32)).2 := hM
  subst hM
  have hr7 : r7 = (F_X7_append M (((xs (nI (4 * j) + 1).toNatClampNeg).toUInt32 % 65536).toInt32)).1 := hr7
  have hw := gw_rl hw
  have hw : gw D (LA s) s.heap (CW cy ad (F_X6_append C (((xs (nI (4 * j) + 1).toNatClampNeg).toUInt32 % 65536).toInt32)).2 ++ (oL cy o uO :: oD cy o2 g :: MW cy bd (F_X7_append M (((xs (nI (4 * j) + 1).toNatClampNeg).toUInt32 % 65536).toInt32)).2)) H locs := hw
  have hb7 := hr7
  refine lv_istore (lv' := [(7, .int r7), (6, .int r6), (0, .ref b), (1, .ref (ad 92)), (2, .ref (bd 0)), (3, .ref o), (4, .ref o2), (5, .int (nI (4 * j)))]) hx hb dL_law_1605 hl (by decide) rfl (fun ls hl => ?_)
  refine lv_aload_n hx hb dL_law_1607 rfl (lv_at hl 4 rfl) ?_
  have hw := gw_lr hw
  refine gcV_i (rest := []) X (c_X7_thrown l D cy bd (CW cy ad (F_X6_append C (((xs (nI (4 * j) + 1).toNatClampNeg).toUInt32 % 65536).toInt32)).2 ++ [oL cy o uO, oD cy o2 g]) (F_X7_append M (((xs (nI (4 * j) + 1).toNatClampNeg).toUInt32 % 65536).toInt32)).2) gy_X7_thrown gL_law_X7_thrown ⟨rfl, rfl, Nat.le_of_ble_eq_true rfl, Nat.le_of_ble_eq_true rfl⟩ 0 rfl rfl rfl hl rfl (Nat.le_of_ble_eq_true rfl) dL_law_1608 ⟨by show 200 + 4 * j + 2 ≤ 603072; omega, by show 9000 + 24 * j + 12 ≤ 7202922; omega⟩ hw (fun r9x ur9x H locs hr9x hw => ?_)
  have hr9x : r9x = (F_X7_thrown (F_X7_append M (((xs (nI (4 * j) + 1).toNatClampNeg).toUInt32 % 65536).toInt32)).2) := hr9x
  have hw := gw_rl hw
  have hw : gw D (LA s) s.heap (CW cy ad (F_X6_append C (((xs (nI (4 * j) + 1).toNatClampNeg).toUInt32 % 65536).toInt32)).2 ++ (oL cy o uO :: oD cy o2 g :: MW cy bd (F_X7_append M (((xs (nI (4 * j) + 1).toNatClampNeg).toUInt32 % 65536).toInt32)).2)) H locs := hw
  have hthr : r9x = r6 := by rw [hr9x, hk]; exact (F_X7_thrown.eq_1 _).trans (simI_k hI)
  refine lv_iload hx hb dL_law_1611 (lv_at hl 1 rfl) ?_
  refine lv_icmp_eq (tgt := 1618) hx hb dL_law_1613 (by decide) (fun _ => ?_) (fun c9 => absurd (hthr) c9)
  refine lv_iload hx hb dL_law_1618 (lv_at hl 1 rfl) ?_
  refine lv_if_ne (tgt := 1635) hx hb dL_law_1620 (by decide) (fun c6 => ?_) (fun c6 => ?_)
  · skip
    refine lv_goto (tgt := 1783) hx hb dL_law_1635 (by decide) ?_
    refine lv_iinc (v := nI (4 * (j + 1))) (lv' := [(5, .int (nI (4 * (j + 1)))), (7, .int r7), (6, .int r6), (0, .ref b), (1, .ref (ad 92)), (2, .ref (bd 0)), (3, .ref o), (4, .ref o2)]) hx hb dL_law_1783 hl (k := 7) rfl (lw_up j) (by decide) rfl (fun ls hl => ?_)
    refine lv_goto (tgt := 28) hx hb dL_law_1786 (by decide) ?_
    refine W.widen (k := 200 + 4 * (j + 1)) (n := 9000 + 24 * (j + 1)) (by omega) (by omega) ?_
    exact ih _ _ _ _ _ _ _ hR2 hw (lv_sub hl [3, 4, 5, 6, 7, 0] rfl)
  · skip
    have hoo := hout.trans (simI_o hI (hk.symm.trans c6) vp_updL f (fun v : Int32 => v.toInt64))
    try dsimp only at hoo
    refine lv_aload_n hx hb dL_law_1623 rfl (lv_at hl 5 rfl) ?_
    refine lv_iconst (v := 0) hx hb dL_law_1624 (by decide) ?_
    refine g_laldk (k := 0) rfl X hw 102 rfl (vk rfl) dL_law_1625 ?_
    refine lv_iload hx hb dL_law_1626 (lv_at hl 0 rfl) ?_
    refine lv_i2l (v := r7.toInt64) hx hb dL_law_1628 rfl ?_
    refine W.lcmp hx hb dL_law_1629 ?_
    refine lv_if_eq (tgt := 1635) hx hb dL_law_1630 (by decide) (fun _ => ?_) (fun c9 => absurd (by rw [hoo, hb7]; exact lg_same _) c9)
    refine lv_goto (tgt := 1783) hx hb dL_law_1635 (by decide) ?_
    refine lv_iinc (v := nI (4 * (j + 1))) (lv' := [(5, .int (nI (4 * (j + 1)))), (7, .int r7), (6, .int r6), (0, .ref b), (1, .ref (ad 92)), (2, .ref (bd 0)), (3, .ref o), (4, .ref o2)]) hx hb dL_law_1783 hl (k := 7) rfl (lw_up j) (by decide) rfl (fun ls hl => ?_)
    refine lv_goto (tgt := 28) hx hb dL_law_1786 (by decide) ?_
    refine W.widen (k := 200 + 4 * (j + 1)) (n := 9000 + 24 * (j + 1)) (by omega) (by omega) ?_
    exact ih _ _ _ _ _ _ _ hR2 hw (lv_sub hl [3, 4, 5, 6, 7, 0] rfl)
set_option maxHeartbeats 4000000 in
set_option maxRecDepth 100000 in
theorem law_read (hSR : SimRd) {p : Program} {l : Launch} {e : Env} {s : State} {m : MethodId} {below : List Frame} {meth : Method} {c : Code} {D : va_G} {cy : Nat → ClassId} {ss : Nat → Nat} {ad bd : Nat → Nat} {o o2 b L : Nat} {xs : Nat → Int32} (CX : LX p l s m meth c D cy ss b L xs) {j : Nat} (hj : 4 * j + 4 ≤ L) (ih : LH p l e s m below meth c D cy ad bd o o2 b (j + 1)) {C M : CS} {f : Nat → Int64} {g : Nat → UInt64} {H : Heap} {locs : List Loc} {ls : Array Slot} (hR : Rel C M) (hw : gw D (LA s) s.heap (CW cy ad C ++ (oL cy o f :: oD cy o2 g :: MW cy bd M)) H locs) (hl : lv_has ls 9 [(0, .ref b), (1, .ref (ad 92)), (2, .ref (bd 0)), (3, .ref o), (4, .ref o2), (5, .int (nI (4 * j)))]) : W p l e room_1 s m #[Value.ref b] below meth c H locs (200 + 4 * j) (9000 + 24 * j) (lw_Z below #[Value.ref b] s) (F0 m 1638 ls []) := by
  obtain ⟨X, hE, hX, hbl, hbA, hlt, hL⟩ := CX
  have hx := X.1
  have hb := X.2.1
  obtain ⟨hSr, hS, hI, hR2⟩ := hSR hR
  refine lv_aload_n hx hb dL_law_1638 rfl (lv_at hl 1 rfl) ?_
  refine lv_aload_n hx hb dL_law_1639 rfl (lv_at hl 3 rfl) ?_
  refine gwS_i (rest := []) X hE (c_L_read l hlt D cy ss ad o (oD cy o2 g :: MW cy bd M) C f  hSr) gy_L_read gL_law_L_read ⟨rfl, rfl, Nat.le_of_ble_eq_true rfl, Nat.le_of_ble_eq_true rfl⟩ rfl hl rfl (Nat.le_of_ble_eq_true rfl) dL_law_1640 ⟨by show 200 + 4 * j + 1 ≤ 603072; omega, by show 9000 + 24 * j + 6 ≤ 7202922; omega⟩ hw (fun r6 u6 H locs hk hw => ?_)
  obtain ⟨uC, uO⟩ := u6
  obtain ⟨hk, hC, hout⟩ := hk
  have hC : uC = (F_X6_read C).2 := hC
  subst hC
  have hw : gw D (LA s) s.heap (CW cy ad (F_X6_read C).2 ++ (oL cy o uO :: oD cy o2 g :: MW cy bd M)) H locs := hw
  refine lv_istore (lv' := [(6, .int r6), (0, .ref b), (1, .ref (ad 92)), (2, .ref (bd 0)), (3, .ref o), (4, .ref o2), (5, .int (nI (4 * j)))]) hx hb dL_law_1643 hl (by decide) rfl (fun ls hl => ?_)
  refine lv_aload_n hx hb dL_law_1645 rfl (lv_at hl 3 rfl) ?_
  have hw := gw_lr hw
  refine gcV_i (rest := []) X (c_X7_read l D cy bd (CW cy ad (F_X6_read C).2 ++ [oL cy o uO, oD cy o2 g]) M  hS) gy_X7_read gL_law_X7_read ⟨rfl, rfl, Nat.le_of_ble_eq_true rfl, Nat.le_of_ble_eq_true rfl⟩ 0 rfl rfl rfl hl rfl (Nat.le_of_ble_eq_true rfl) dL_law_1646 ⟨by show 200 + 4 * j + 1 ≤ 603072; omega, by show 9000 + 24 * j + 6 ≤ 7202922; omega⟩ hw (fun r7 ur7 H locs hr7 hw => ?_)
  obtain ⟨hr7, hM⟩ := hr7
  have hM : ur7 = (F_X7_read M).2 := hM
  subst hM
  have hr7 : r7 = (F_X7_read M).1 := hr7
  have hw := gw_rl hw
  have hw : gw D (LA s) s.heap (CW cy ad (F_X6_read C).2 ++ (oL cy o uO :: oD cy o2 g :: MW cy bd (F_X7_read M).2)) H locs := hw
  have hb7 := hr7
  refine lv_istore (lv' := [(7, .int r7), (6, .int r6), (0, .ref b), (1, .ref (ad 92)), (2, .ref (bd 0)), (3, .ref o), (4, .ref o2), (5, .int (nI (4 * j)))]) hx hb dL_law_1649 hl (by decide) rfl (fun ls hl => ?_)
  refine lv_aload_n hx hb dL_law_1651 rfl (lv_at hl 4 rfl) ?_
  have hw := gw_lr hw
  refine gcV_i (rest := []) X (c_X7_thrown l D cy bd (CW cy ad (F_X6_read C).2 ++ [oL cy o uO, oD cy o2 g]) (F_X7_read M).2) gy_X7_thrown gL_law_X7_thrown ⟨rfl, rfl, Nat.le_of_ble_eq_true rfl, Nat.le_of_ble_eq_true rfl⟩ 0 rfl rfl rfl hl rfl (Nat.le_of_ble_eq_true rfl) dL_law_1652 ⟨by show 200 + 4 * j + 1 ≤ 603072; omega, by show 9000 + 24 * j + 6 ≤ 7202922; omega⟩ hw (fun r9x ur9x H locs hr9x hw => ?_)
  have hr9x : r9x = (F_X7_thrown (F_X7_read M).2) := hr9x
  have hw := gw_rl hw
  have hw : gw D (LA s) s.heap (CW cy ad (F_X6_read C).2 ++ (oL cy o uO :: oD cy o2 g :: MW cy bd (F_X7_read M).2)) H locs := hw
  have hthr : r9x = r6 := by rw [hr9x, hk]; exact (F_X7_thrown.eq_1 _).trans (simI_k hI)
  refine lv_iload hx hb dL_law_1655 (lv_at hl 1 rfl) ?_
  refine lv_icmp_eq (tgt := 1662) hx hb dL_law_1657 (by decide) (fun _ => ?_) (fun c9 => absurd (hthr) c9)
  refine lv_iload hx hb dL_law_1662 (lv_at hl 1 rfl) ?_
  refine lv_if_ne (tgt := 1679) hx hb dL_law_1664 (by decide) (fun c6 => ?_) (fun c6 => ?_)
  · skip
    refine lv_goto (tgt := 1783) hx hb dL_law_1679 (by decide) ?_
    refine lv_iinc (v := nI (4 * (j + 1))) (lv' := [(5, .int (nI (4 * (j + 1)))), (7, .int r7), (6, .int r6), (0, .ref b), (1, .ref (ad 92)), (2, .ref (bd 0)), (3, .ref o), (4, .ref o2)]) hx hb dL_law_1783 hl (k := 7) rfl (lw_up j) (by decide) rfl (fun ls hl => ?_)
    refine lv_goto (tgt := 28) hx hb dL_law_1786 (by decide) ?_
    refine W.widen (k := 200 + 4 * (j + 1)) (n := 9000 + 24 * (j + 1)) (by omega) (by omega) ?_
    exact ih _ _ _ _ _ _ _ hR2 hw (lv_sub hl [3, 4, 5, 6, 7, 0] rfl)
  · skip
    have hoo := hout.trans (simI_o hI (hk.symm.trans c6) vp_updL f (fun v : Int32 => v.toInt64))
    try dsimp only at hoo
    refine lv_aload_n hx hb dL_law_1667 rfl (lv_at hl 5 rfl) ?_
    refine lv_iconst (v := 0) hx hb dL_law_1668 (by decide) ?_
    refine g_laldk (k := 0) rfl X hw 102 rfl (vk rfl) dL_law_1669 ?_
    refine lv_iload hx hb dL_law_1670 (lv_at hl 0 rfl) ?_
    refine lv_i2l (v := r7.toInt64) hx hb dL_law_1672 rfl ?_
    refine W.lcmp hx hb dL_law_1673 ?_
    refine lv_if_eq (tgt := 1679) hx hb dL_law_1674 (by decide) (fun _ => ?_) (fun c9 => absurd (by rw [hoo, hb7]; exact lg_same _) c9)
    refine lv_goto (tgt := 1783) hx hb dL_law_1679 (by decide) ?_
    refine lv_iinc (v := nI (4 * (j + 1))) (lv' := [(5, .int (nI (4 * (j + 1)))), (7, .int r7), (6, .int r6), (0, .ref b), (1, .ref (ad 92)), (2, .ref (bd 0)), (3, .ref o), (4, .ref o2)]) hx hb dL_law_1783 hl (k := 7) rfl (lw_up j) (by decide) rfl (fun ls hl => ?_)
    refine lv_goto (tgt := 28) hx hb dL_law_1786 (by decide) ?_
    refine W.widen (k := 200 + 4 * (j + 1)) (n := 9000 + 24 * (j + 1)) (by omega) (by omega) ?_
    exact ih _ _ _ _ _ _ _ hR2 hw (lv_sub hl [3, 4, 5, 6, 7, 0] rfl)
set_option maxHeartbeats 4000000 in
set_option maxRecDepth 100000 in
theorem law_errorPosition {p : Program} {l : Launch} {e : Env} {s : State} {m : MethodId} {below : List Frame} {meth : Method} {c : Code} {D : va_G} {cy : Nat → ClassId} {ss : Nat → Nat} {ad bd : Nat → Nat} {o o2 b L : Nat} {xs : Nat → Int32} (CX : LX p l s m meth c D cy ss b L xs) {j : Nat} (hj : 4 * j + 4 ≤ L) (ih : LH p l e s m below meth c D cy ad bd o o2 b (j + 1)) {C M : CS} {f : Nat → Int64} {g : Nat → UInt64} {H : Heap} {locs : List Loc} {ls : Array Slot} (hR : Rel C M) (hw : gw D (LA s) s.heap (CW cy ad C ++ (oL cy o f :: oD cy o2 g :: MW cy bd M)) H locs) (hl : lv_has ls 9 [(0, .ref b), (1, .ref (ad 92)), (2, .ref (bd 0)), (3, .ref o), (4, .ref o2), (5, .int (nI (4 * j)))]) : W p l e room_1 s m #[Value.ref b] below meth c H locs (200 + 4 * j) (9000 + 24 * j) (lw_Z below #[Value.ref b] s) (F0 m 1682 ls []) := by
  obtain ⟨X, hE, hX, hbl, hbA, hlt, hL⟩ := CX
  have hx := X.1
  have hb := X.2.1
  obtain ⟨hI, hR2⟩ := sim_errorPosition hR
  refine lv_aload_n hx hb dL_law_1682 rfl (lv_at hl 1 rfl) ?_
  refine lv_aload_n hx hb dL_law_1683 rfl (lv_at hl 3 rfl) ?_
  refine gwS_i (rest := []) X hE (c_L_errorPosition l hlt D cy ss ad o (oD cy o2 g :: MW cy bd M) C f) gy_L_errorPosition gL_law_L_errorPosition ⟨rfl, rfl, Nat.le_of_ble_eq_true rfl, Nat.le_of_ble_eq_true rfl⟩ rfl hl rfl (Nat.le_of_ble_eq_true rfl) dL_law_1684 ⟨by show 200 + 4 * j + 1 ≤ 603072; omega, by show 9000 + 24 * j + 6 ≤ 7202922; omega⟩ hw (fun r6 u6 H locs hk hw => ?_)
  obtain ⟨uO, hu0⟩ : ∃ z, z = u6 := ⟨_, rfl⟩
  obtain ⟨hk, hout⟩ := hk
  rw [← hu0] at hout hw
  have hw : gw D (LA s) s.heap (CW cy ad C ++ (oL cy o uO :: oD cy o2 g :: MW cy bd M)) H locs := hw
  refine lv_istore (lv' := [(6, .int r6), (0, .ref b), (1, .ref (ad 92)), (2, .ref (bd 0)), (3, .ref o), (4, .ref o2), (5, .int (nI (4 * j)))]) hx hb dL_law_1687 hl (by decide) rfl (fun ls hl => ?_)
  refine lv_aload_n hx hb dL_law_1689 rfl (lv_at hl 3 rfl) ?_
  have hw := gw_lr hw
  refine gcV_i (rest := []) X (c_X7_errorPosition l D cy bd (CW cy ad C ++ [oL cy o uO, oD cy o2 g]) M) gy_X7_errorPosition gL_law_X7_errorPosition ⟨rfl, rfl, Nat.le_of_ble_eq_true rfl, Nat.le_of_ble_eq_true rfl⟩ 0 rfl rfl rfl hl rfl (Nat.le_of_ble_eq_true rfl) dL_law_1690 ⟨by show 200 + 4 * j + 1 ≤ 603072; omega, by show 9000 + 24 * j + 6 ≤ 7202922; omega⟩ hw (fun r7 ur7 H locs hr7 hw => ?_)
  obtain ⟨hr7, hM⟩ := hr7
  have hM : ur7 = (F_X7_errorPosition M).2 := hM
  subst hM
  have hr7 : r7 = (F_X7_errorPosition M).1 := hr7
  have hw := gw_rl hw
  have hw : gw D (LA s) s.heap (CW cy ad C ++ (oL cy o uO :: oD cy o2 g :: MW cy bd (F_X7_errorPosition M).2)) H locs := hw
  have hb7 := hr7
  refine lv_istore (lv' := [(7, .int r7), (6, .int r6), (0, .ref b), (1, .ref (ad 92)), (2, .ref (bd 0)), (3, .ref o), (4, .ref o2), (5, .int (nI (4 * j)))]) hx hb dL_law_1693 hl (by decide) rfl (fun ls hl => ?_)
  refine lv_aload_n hx hb dL_law_1695 rfl (lv_at hl 4 rfl) ?_
  have hw := gw_lr hw
  refine gcV_i (rest := []) X (c_X7_thrown l D cy bd (CW cy ad C ++ [oL cy o uO, oD cy o2 g]) (F_X7_errorPosition M).2) gy_X7_thrown gL_law_X7_thrown ⟨rfl, rfl, Nat.le_of_ble_eq_true rfl, Nat.le_of_ble_eq_true rfl⟩ 0 rfl rfl rfl hl rfl (Nat.le_of_ble_eq_true rfl) dL_law_1696 ⟨by show 200 + 4 * j + 1 ≤ 603072; omega, by show 9000 + 24 * j + 6 ≤ 7202922; omega⟩ hw (fun r9x ur9x H locs hr9x hw => ?_)
  have hr9x : r9x = (F_X7_thrown (F_X7_errorPosition M).2) := hr9x
  have hw := gw_rl hw
  have hw : gw D (LA s) s.heap (CW cy ad C ++ (oL cy o uO :: oD cy o2 g :: MW cy bd (F_X7_errorPosition M).2)) H locs := hw
  have hthr : r9x = r6 := by rw [hr9x, hk]; exact (F_X7_thrown.eq_1 _).trans (simI_k hI)
  refine lv_iload hx hb dL_law_1699 (lv_at hl 1 rfl) ?_
  refine lv_icmp_eq (tgt := 1706) hx hb dL_law_1701 (by decide) (fun _ => ?_) (fun c9 => absurd (hthr) c9)
  refine lv_iload hx hb dL_law_1706 (lv_at hl 1 rfl) ?_
  refine lv_if_ne (tgt := 1723) hx hb dL_law_1708 (by decide) (fun c6 => ?_) (fun c6 => ?_)
  · skip
    refine lv_goto (tgt := 1783) hx hb dL_law_1723 (by decide) ?_
    refine lv_iinc (v := nI (4 * (j + 1))) (lv' := [(5, .int (nI (4 * (j + 1)))), (7, .int r7), (6, .int r6), (0, .ref b), (1, .ref (ad 92)), (2, .ref (bd 0)), (3, .ref o), (4, .ref o2)]) hx hb dL_law_1783 hl (k := 7) rfl (lw_up j) (by decide) rfl (fun ls hl => ?_)
    refine lv_goto (tgt := 28) hx hb dL_law_1786 (by decide) ?_
    refine W.widen (k := 200 + 4 * (j + 1)) (n := 9000 + 24 * (j + 1)) (by omega) (by omega) ?_
    exact ih _ _ _ _ _ _ _ hR2 hw (lv_sub hl [3, 4, 5, 6, 7, 0] rfl)
  · skip
    have hoo := hout.trans (simI_o hI (hk.symm.trans c6) vp_updL f (fun v : Int32 => v.toInt64))
    try dsimp only at hoo
    refine lv_aload_n hx hb dL_law_1711 rfl (lv_at hl 5 rfl) ?_
    refine lv_iconst (v := 0) hx hb dL_law_1712 (by decide) ?_
    refine g_laldk (k := 0) rfl X hw 102 rfl (vk rfl) dL_law_1713 ?_
    refine lv_iload hx hb dL_law_1714 (lv_at hl 0 rfl) ?_
    refine lv_i2l (v := r7.toInt64) hx hb dL_law_1716 rfl ?_
    refine W.lcmp hx hb dL_law_1717 ?_
    refine lv_if_eq (tgt := 1723) hx hb dL_law_1718 (by decide) (fun _ => ?_) (fun c9 => absurd (by rw [hoo, hb7]; exact lg_same _) c9)
    refine lv_goto (tgt := 1783) hx hb dL_law_1723 (by decide) ?_
    refine lv_iinc (v := nI (4 * (j + 1))) (lv' := [(5, .int (nI (4 * (j + 1)))), (7, .int r7), (6, .int r6), (0, .ref b), (1, .ref (ad 92)), (2, .ref (bd 0)), (3, .ref o), (4, .ref o2)]) hx hb dL_law_1783 hl (k := 7) rfl (lw_up j) (by decide) rfl (fun ls hl => ?_)
    refine lv_goto (tgt := 28) hx hb dL_law_1786 (by decide) ?_
    refine W.widen (k := 200 + 4 * (j + 1)) (n := 9000 + 24 * (j + 1)) (by omega) (by omega) ?_
    exact ih _ _ _ _ _ _ _ hR2 hw (lv_sub hl [3, 4, 5, 6, 7, 0] rfl)
set_option maxHeartbeats 4000000 in
set_option maxRecDepth 100000 in
theorem law_save {p : Program} {l : Launch} {e : Env} {s : State} {m : MethodId} {below : List Frame} {meth : Method} {c : Code} {D : va_G} {cy : Nat → ClassId} {ss : Nat → Nat} {ad bd : Nat → Nat} {o o2 b L : Nat} {xs : Nat → Int32} (CX : LX p l s m meth c D cy ss b L xs) {j : Nat} (hj : 4 * j + 4 ≤ L) (ih : LH p l e s m below meth c D cy ad bd o o2 b (j + 1)) {C M : CS} {f : Nat → Int64} {g : Nat → UInt64} {H : Heap} {locs : List Loc} {ls : Array Slot} (hR : Rel C M) (hw : gw D (LA s) s.heap (CW cy ad C ++ (oL cy o f :: oD cy o2 g :: MW cy bd M)) H locs) (hl : lv_has ls 9 [(0, .ref b), (1, .ref (ad 92)), (2, .ref (bd 0)), (3, .ref o), (4, .ref o2), (5, .int (nI (4 * j)))]) : W p l e room_1 s m #[Value.ref b] below meth c H locs (200 + 4 * j) (9000 + 24 * j) (lw_Z below #[Value.ref b] s) (F0 m 1726 ls []) := by
  obtain ⟨X, hE, hX, hbl, hbA, hlt, hL⟩ := CX
  have hx := X.1
  have hb := X.2.1
  obtain ⟨hS, hI, hR2⟩ := sim_save hR
  refine lv_aload_n hx hb dL_law_1726 rfl (lv_at hl 1 rfl) ?_
  refine gcV_i (rest := []) X (c_X6_save l D cy ad (oL cy o f :: oD cy o2 g :: MW cy bd M) C) gy_X6_save gL_law_X6_save ⟨rfl, rfl, Nat.le_of_ble_eq_true rfl, Nat.le_of_ble_eq_true rfl⟩ 92 rfl rfl rfl hl rfl (Nat.le_of_ble_eq_true rfl) dL_law_1727 ⟨by show 200 + 4 * j ≤ 603072; omega, by show 9000 + 24 * j ≤ 7202922; omega⟩ hw (fun r8x ur8x H locs hr8x hw => ?_)
  obtain ⟨hr8x, hC⟩ := hr8x
  have hC : ur8x = (F_X6_save C).2 := hC
  subst hC
  have hr8x : r8x = (F_X6_save C).1 := hr8x
  have hw : gw D (LA s) s.heap (CW cy ad (F_X6_save C).2 ++ (oL cy o f :: oD cy o2 g :: MW cy bd M)) H locs := hw
  generalize (F_X6_save C) = vC at hI hR2 hr8x hw
  refine lv_aload_n hx hb dL_law_1730 rfl (lv_at hl 2 rfl) ?_
  have hw := gw_lr hw
  refine gcV_i (rest := [.int r8x]) X (c_X7_save l D cy bd (CW cy ad vC.2 ++ [oL cy o f, oD cy o2 g]) M  hS) gy_X7_save gL_law_X7_save ⟨rfl, rfl, Nat.le_of_ble_eq_true rfl, Nat.le_of_ble_eq_true rfl⟩ 0 rfl rfl rfl hl rfl (Nat.le_of_ble_eq_true rfl) dL_law_1731 ⟨by show 200 + 4 * j ≤ 603072; omega, by show 9000 + 24 * j ≤ 7202922; omega⟩ hw (fun r7 ur7 H locs hr7 hw => ?_)
  obtain ⟨hr7, hM⟩ := hr7
  generalize (F_X7_save M) = vM at hI hR2 hr7 hM
  have hM : ur7 = vM.2 := hM
  subst hM
  have hr7 : r7 = vM.1 := hr7
  have hw := gw_rl hw
  have hw : gw D (LA s) s.heap (CW cy ad vC.2 ++ (oL cy o f :: oD cy o2 g :: MW cy bd vM.2)) H locs := hw
  have hcmp : r8x = r7 := hr8x.trans (hI.trans hr7.symm)
  refine lv_icmp_eq (tgt := 1783) hx hb dL_law_1734 (by decide) (fun _ => ?_) (fun c9 => absurd (hcmp) c9)
  refine lv_iinc (v := nI (4 * (j + 1))) (lv' := [(5, .int (nI (4 * (j + 1)))), (0, .ref b), (1, .ref (ad 92)), (2, .ref (bd 0)), (3, .ref o), (4, .ref o2)]) hx hb dL_law_1783 hl (k := 5) rfl (lw_up j) (by decide) rfl (fun ls hl => ?_)
  refine lv_goto (tgt := 28) hx hb dL_law_1786 (by decide) ?_
  refine W.widen (k := 200 + 4 * (j + 1)) (n := 9000 + 24 * (j + 1)) (by omega) (by omega) ?_
  exact ih _ _ _ _ _ _ _ hR2 hw (lv_sub hl [1, 2, 3, 4, 5, 0] rfl)
set_option maxHeartbeats 4000000 in
set_option maxRecDepth 100000 in
theorem law_restore {p : Program} {l : Launch} {e : Env} {s : State} {m : MethodId} {below : List Frame} {meth : Method} {c : Code} {D : va_G} {cy : Nat → ClassId} {ss : Nat → Nat} {ad bd : Nat → Nat} {o o2 b L : Nat} {xs : Nat → Int32} (CX : LX p l s m meth c D cy ss b L xs) {j : Nat} (hj : 4 * j + 4 ≤ L) (ih : LH p l e s m below meth c D cy ad bd o o2 b (j + 1)) {C M : CS} {f : Nat → Int64} {g : Nat → UInt64} {H : Heap} {locs : List Loc} {ls : Array Slot} (hR : Rel C M) (hw : gw D (LA s) s.heap (CW cy ad C ++ (oL cy o f :: oD cy o2 g :: MW cy bd M)) H locs) (hl : lv_has ls 9 [(0, .ref b), (1, .ref (ad 92)), (2, .ref (bd 0)), (3, .ref o), (4, .ref o2), (5, .int (nI (4 * j)))]) : W p l e room_1 s m #[Value.ref b] below meth c H locs (200 + 4 * j) (9000 + 24 * j) (lw_Z below #[Value.ref b] s) (F0 m 1739 ls []) := by
  obtain ⟨X, hE, hX, hbl, hbA, hlt, hL⟩ := CX
  have hx := X.1
  have hb := X.2.1
  obtain ⟨hS, hI, hR2⟩ := sim_restore hR
  refine lv_aload_n hx hb dL_law_1739 rfl (lv_at hl 1 rfl) ?_
  refine lv_aload_n hx hb dL_law_1740 rfl (lv_at hl 3 rfl) ?_
  refine gwS_i (rest := []) X hE (c_L_restore l hlt D cy ss ad o (oD cy o2 g :: MW cy bd M) C f) gy_L_restore gL_law_L_restore ⟨rfl, rfl, Nat.le_of_ble_eq_true rfl, Nat.le_of_ble_eq_true rfl⟩ rfl hl rfl (Nat.le_of_ble_eq_true rfl) dL_law_1741 ⟨by show 200 + 4 * j + 1 ≤ 603072; omega, by show 9000 + 24 * j + 6 ≤ 7202922; omega⟩ hw (fun r6 u6 H locs hk hw => ?_)
  obtain ⟨uC, uO⟩ := u6
  obtain ⟨hk, hC, hout⟩ := hk
  have hC : uC = (F_X6_restore C).2 := hC
  subst hC
  have hw : gw D (LA s) s.heap (CW cy ad (F_X6_restore C).2 ++ (oL cy o uO :: oD cy o2 g :: MW cy bd M)) H locs := hw
  refine lv_istore (lv' := [(6, .int r6), (0, .ref b), (1, .ref (ad 92)), (2, .ref (bd 0)), (3, .ref o), (4, .ref o2), (5, .int (nI (4 * j)))]) hx hb dL_law_1744 hl (by decide) rfl (fun ls hl => ?_)
  refine lv_aload_n hx hb dL_law_1746 rfl (lv_at hl 3 rfl) ?_
  have hw := gw_lr hw
  refine gcV_i (rest := []) X (c_X7_restore l D cy bd (CW cy ad (F_X6_restore C).2 ++ [oL cy o uO, oD cy o2 g]) M  hS) gy_X7_restore gL_law_X7_restore ⟨rfl, rfl, Nat.le_of_ble_eq_true rfl, Nat.le_of_ble_eq_true rfl⟩ 0 rfl rfl rfl hl rfl (Nat.le_of_ble_eq_true rfl) dL_law_1747 ⟨by show 200 + 4 * j + 1 ≤ 603072; omega, by show 9000 + 24 * j + 6 ≤ 7202922; omega⟩ hw (fun r7 ur7 H locs hr7 hw => ?_)
  obtain ⟨hr7, hM⟩ := hr7
  have hM : ur7 = (F_X7_restore M).2 := hM
  subst hM
  have hr7 : r7 = (F_X7_restore M).1 := hr7
  have hw := gw_rl hw
  have hw : gw D (LA s) s.heap (CW cy ad (F_X6_restore C).2 ++ (oL cy o uO :: oD cy o2 g :: MW cy bd (F_X7_restore M).2)) H locs := hw
  have hb7 := hr7
  refine lv_istore (lv' := [(7, .int r7), (6, .int r6), (0, .ref b), (1, .ref (ad 92)), (2, .ref (bd 0)), (3, .ref o), (4, .ref o2), (5, .int (nI (4 * j)))]) hx hb dL_law_1750 hl (by decide) rfl (fun ls hl => ?_)
  refine lv_aload_n hx hb dL_law_1752 rfl (lv_at hl 4 rfl) ?_
  have hw := gw_lr hw
  refine gcV_i (rest := []) X (c_X7_thrown l D cy bd (CW cy ad (F_X6_restore C).2 ++ [oL cy o uO, oD cy o2 g]) (F_X7_restore M).2) gy_X7_thrown gL_law_X7_thrown ⟨rfl, rfl, Nat.le_of_ble_eq_true rfl, Nat.le_of_ble_eq_true rfl⟩ 0 rfl rfl rfl hl rfl (Nat.le_of_ble_eq_true rfl) dL_law_1753 ⟨by show 200 + 4 * j + 1 ≤ 603072; omega, by show 9000 + 24 * j + 6 ≤ 7202922; omega⟩ hw (fun r9x ur9x H locs hr9x hw => ?_)
  have hr9x : r9x = (F_X7_thrown (F_X7_restore M).2) := hr9x
  have hw := gw_rl hw
  have hw : gw D (LA s) s.heap (CW cy ad (F_X6_restore C).2 ++ (oL cy o uO :: oD cy o2 g :: MW cy bd (F_X7_restore M).2)) H locs := hw
  have hthr : r9x = r6 := by rw [hr9x, hk]; exact (F_X7_thrown.eq_1 _).trans (simI_k hI)
  refine lv_iload hx hb dL_law_1756 (lv_at hl 1 rfl) ?_
  refine lv_icmp_eq (tgt := 1763) hx hb dL_law_1758 (by decide) (fun _ => ?_) (fun c9 => absurd (hthr) c9)
  refine lv_iload hx hb dL_law_1763 (lv_at hl 1 rfl) ?_
  refine lv_if_ne (tgt := 1780) hx hb dL_law_1765 (by decide) (fun c6 => ?_) (fun c6 => ?_)
  · skip
    refine lv_goto (tgt := 1783) hx hb dL_law_1780 (by decide) ?_
    refine lv_iinc (v := nI (4 * (j + 1))) (lv' := [(5, .int (nI (4 * (j + 1)))), (7, .int r7), (6, .int r6), (0, .ref b), (1, .ref (ad 92)), (2, .ref (bd 0)), (3, .ref o), (4, .ref o2)]) hx hb dL_law_1783 hl (k := 7) rfl (lw_up j) (by decide) rfl (fun ls hl => ?_)
    refine lv_goto (tgt := 28) hx hb dL_law_1786 (by decide) ?_
    refine W.widen (k := 200 + 4 * (j + 1)) (n := 9000 + 24 * (j + 1)) (by omega) (by omega) ?_
    exact ih _ _ _ _ _ _ _ hR2 hw (lv_sub hl [3, 4, 5, 6, 7, 0] rfl)
  · skip
    have hoo := hout.trans (simI_o hI (hk.symm.trans c6) vp_updL f (fun v : Int32 => v.toInt64))
    try dsimp only at hoo
    refine lv_aload_n hx hb dL_law_1768 rfl (lv_at hl 5 rfl) ?_
    refine lv_iconst (v := 0) hx hb dL_law_1769 (by decide) ?_
    refine g_laldk (k := 0) rfl X hw 102 rfl (vk rfl) dL_law_1770 ?_
    refine lv_iload hx hb dL_law_1771 (lv_at hl 0 rfl) ?_
    refine lv_i2l (v := r7.toInt64) hx hb dL_law_1773 rfl ?_
    refine W.lcmp hx hb dL_law_1774 ?_
    refine lv_if_eq (tgt := 1780) hx hb dL_law_1775 (by decide) (fun _ => ?_) (fun c9 => absurd (by rw [hoo, hb7]; exact lg_same _) c9)
    refine lv_goto (tgt := 1783) hx hb dL_law_1780 (by decide) ?_
    refine lv_iinc (v := nI (4 * (j + 1))) (lv' := [(5, .int (nI (4 * (j + 1)))), (7, .int r7), (6, .int r6), (0, .ref b), (1, .ref (ad 92)), (2, .ref (bd 0)), (3, .ref o), (4, .ref o2)]) hx hb dL_law_1783 hl (k := 7) rfl (lw_up j) (by decide) rfl (fun ls hl => ?_)
    refine lv_goto (tgt := 28) hx hb dL_law_1786 (by decide) ?_
    refine W.widen (k := 200 + 4 * (j + 1)) (n := 9000 + 24 * (j + 1)) (by omega) (by omega) ?_
    exact ih _ _ _ _ _ _ _ hR2 hw (lv_sub hl [3, 4, 5, 6, 7, 0] rfl)
