set_option maxHeartbeats 4000000 in
set_option maxRecDepth 100000 in
theorem law_nextClosing {p : Program} {l : Launch} {e : Env} {s : State} {m : MethodId} {below : List Frame} {meth : Method} {c : Code} {D : va_G} {cy : Nat → ClassId} {ss : Nat → Nat} {ad bd : Nat → Nat} {o o2 b L : Nat} {xs : Nat → Int32} (CX : LX p l s m meth c D cy ss b L xs) {j : Nat} (hj : 4 * j + 4 ≤ L) (ih : LH p l e s m below meth c D cy ad bd o o2 b (j + 1)) {C M : CS} {f : Nat → Int64} {g : Nat → UInt64} {H : Heap} {locs : List Loc} {ls : Array Slot} (hR : Rel C M) (hw : gw D (LA s) s.heap (CW cy ad C ++ (oL cy o f :: oD cy o2 g :: MW cy bd M)) H locs) (hl : lv_has ls 9 [(0, .ref b), (1, .ref (ad 92)), (2, .ref (bd 0)), (3, .ref o), (4, .ref o2), (5, .int (nI (4 * j)))]) : W p l e room_1 s m #[Value.ref b] below meth c H locs (200 + 4 * j) (9000 + 24 * j) (lw_Z below #[Value.ref b] s) (F0 m 1169 ls []) := by
  obtain ⟨X, hE, hX, hbl, hbA, hlt, hL⟩ := CX
  have hx := X.1
  have hb := X.2.1
  obtain ⟨hS, hI, hR2⟩ := sim_nextClosing hR
  refine lv_aload_n hx hb dL_law_1169 rfl (lv_at hl 1 rfl) ?_
  refine lv_aload_n hx hb dL_law_1170 rfl (lv_at hl 3 rfl) ?_
  refine gwS_i (rest := []) X hE (c_L_nextClosing l hlt D cy ss ad o (oD cy o2 g :: MW cy bd M) C f) gy_L_nextClosing gL_law_L_nextClosing ⟨rfl, rfl, Nat.le_of_ble_eq_true rfl, Nat.le_of_ble_eq_true rfl⟩ rfl hl rfl (Nat.le_of_ble_eq_true rfl) dL_law_1171 ⟨by show 200 + 4 * j + 1 ≤ 603072; omega, by show 9000 + 24 * j + 6 ≤ 7202922; omega⟩ hw (fun r6 u6 H locs hk hw => ?_)
  obtain ⟨uO, hu0⟩ : ∃ z, z = u6 := ⟨_, rfl⟩
  obtain ⟨hk, hout⟩ := hk
  rw [← hu0] at hout hw
  have hw : gw D (LA s) s.heap (CW cy ad C ++ (oL cy o uO :: oD cy o2 g :: MW cy bd M)) H locs := hw
  refine lv_istore (lv' := [(6, .int r6), (0, .ref b), (1, .ref (ad 92)), (2, .ref (bd 0)), (3, .ref o), (4, .ref o2), (5, .int (nI (4 * j)))]) hx hb dL_law_1174 hl (by decide) rfl (fun ls hl => ?_)
  refine lv_aload_n hx hb dL_law_1176 rfl (lv_at hl 3 rfl) ?_
  have hw := gw_lr hw
  refine gcV_i (rest := []) X (c_X7_nextClosing l D cy bd (CW cy ad C ++ [oL cy o uO, oD cy o2 g]) M  hS) gy_X7_nextClosing gL_law_X7_nextClosing ⟨rfl, rfl, Nat.le_of_ble_eq_true rfl, Nat.le_of_ble_eq_true rfl⟩ 0 rfl rfl rfl hl rfl (Nat.le_of_ble_eq_true rfl) dL_law_1177 ⟨by show 200 + 4 * j + 1 ≤ 603072; omega, by show 9000 + 24 * j + 6 ≤ 7202922; omega⟩ hw (fun r7 ur7 H locs hr7 hw => ?_)
  obtain ⟨hr7, hM⟩ := hr7
  have hM : ur7 = (F_X7_nextClosing M).2 := hM
  subst hM
  have hr7 : r7 = (F_X7_nextClosing M).1 := hr7
  have hw := gw_rl hw
  have hw : gw D (LA s) s.heap (CW cy ad C ++ (oL cy o uO :: oD cy o2 g :: MW cy bd (F_X7_nextClosing M).2)) H locs := hw
  have hb7 := hr7
  refine lv_istore (lv' := [(7, .int r7), (6, .int r6), (0, .ref b), (1, .ref (ad 92)), (2, .ref (bd 0)), (3, .ref o), (4, .ref o2), (5, .int (nI (4 * j)))]) hx hb dL_law_1180 hl (by decide) rfl (fun ls hl => ?_)
  refine lv_aload_n hx hb dL_law_1182 rfl (lv_at hl 4 rfl) ?_
  have hw := gw_lr hw
  refine gcV_i (rest := []) X (c_X7_thrown l D cy bd (CW cy ad C ++ [oL cy o uO, oD cy o2 g]) (F_X7_nextClosing M).2) gy_X7_thrown gL_law_X7_thrown ⟨rfl, rfl, Nat.le_of_ble_eq_true rfl, Nat.le_of_ble_eq_true rfl⟩ 0 rfl rfl rfl hl rfl (Nat.le_of_ble_eq_true rfl) dL_law_1183 ⟨by show 200 + 4 * j + 1 ≤ 603072; omega, by show 9000 + 24 * j + 6 ≤ 7202922; omega⟩ hw (fun r9x ur9x H locs hr9x hw => ?_)
  have hr9x : r9x = (F_X7_thrown (F_X7_nextClosing M).2) := hr9x
  have hw := gw_rl hw
  have hw : gw D (LA s) s.heap (CW cy ad C ++ (oL cy o uO :: oD cy o2 g :: MW cy bd (F_X7_nextClosing M).2)) H locs := hw
  have hthr : r9x = r6 := by rw [hr9x, hk]; exact (F_X7_thrown.eq_1 _).trans (simI_k hI)
  refine lv_iload hx hb dL_law_1186 (lv_at hl 1 rfl) ?_
  refine lv_icmp_eq (tgt := 1193) hx hb dL_law_1188 (by decide) (fun _ => ?_) (fun c9 => absurd (hthr) c9)
  refine lv_iload hx hb dL_law_1193 (lv_at hl 1 rfl) ?_
  refine lv_if_ne (tgt := 1210) hx hb dL_law_1195 (by decide) (fun c6 => ?_) (fun c6 => ?_)
  · skip
    refine lv_goto (tgt := 1783) hx hb dL_law_1210 (by decide) ?_
    refine lv_iinc (v := nI (4 * (j + 1))) (lv' := [(5, .int (nI (4 * (j + 1)))), (7, .int r7), (6, .int r6), (0, .ref b), (1, .ref (ad 92)), (2, .ref (bd 0)), (3, .ref o), (4, .ref o2)]) hx hb dL_law_1783 hl (k := 7) rfl (lw_up j) (by decide) rfl (fun ls hl => ?_)
    refine lv_goto (tgt := 28) hx hb dL_law_1786 (by decide) ?_
    refine W.widen (k := 200 + 4 * (j + 1)) (n := 9000 + 24 * (j + 1)) (by omega) (by omega) ?_
    exact ih _ _ _ _ _ _ _ hR2 hw (lv_sub hl [3, 4, 5, 6, 7, 0] rfl)
  · skip
    have hoo := hout.trans (simI_o hI (hk.symm.trans c6) vp_updL f (fun v : Int32 => v.toInt64))
    try dsimp only at hoo
    refine lv_aload_n hx hb dL_law_1198 rfl (lv_at hl 5 rfl) ?_
    refine lv_iconst (v := 0) hx hb dL_law_1199 (by decide) ?_
    refine g_laldk (k := 0) rfl X hw 102 rfl (vk rfl) dL_law_1200 ?_
    refine lv_iload hx hb dL_law_1201 (lv_at hl 0 rfl) ?_
    refine lv_i2l (v := r7.toInt64) hx hb dL_law_1203 rfl ?_
    refine W.lcmp hx hb dL_law_1204 ?_
    refine lv_if_eq (tgt := 1210) hx hb dL_law_1205 (by decide) (fun _ => ?_) (fun c9 => absurd (by rw [hoo, hb7]; exact lg_same _) c9)
    refine lv_goto (tgt := 1783) hx hb dL_law_1210 (by decide) ?_
    refine lv_iinc (v := nI (4 * (j + 1))) (lv' := [(5, .int (nI (4 * (j + 1)))), (7, .int r7), (6, .int r6), (0, .ref b), (1, .ref (ad 92)), (2, .ref (bd 0)), (3, .ref o), (4, .ref o2)]) hx hb dL_law_1783 hl (k := 7) rfl (lw_up j) (by decide) rfl (fun ls hl => ?_)
    refine lv_goto (tgt := 28) hx hb dL_law_1786 (by decide) ?_
    refine W.widen (k := 200 + 4 * (j + 1)) (n := 9000 + 24 * (j + 1)) (by omega) (by omega) ?_
    exact ih _ _ _ _ _ _ _ hR2 hw (lv_sub hl [3, 4, 5, 6, 7, 0] rfl)
set_option maxHeartbeats 4000000 in
set_option maxRecDepth 100000 in
theorem law_averageLength {p : Program} {l : Launch} {e : Env} {s : State} {m : MethodId} {below : List Frame} {meth : Method} {c : Code} {D : va_G} {cy : Nat → ClassId} {ss : Nat → Nat} {ad bd : Nat → Nat} {o o2 b L : Nat} {xs : Nat → Int32} (CX : LX p l s m meth c D cy ss b L xs) {j : Nat} (hj : 4 * j + 4 ≤ L) (ih : LH p l e s m below meth c D cy ad bd o o2 b (j + 1)) {C M : CS} {f : Nat → Int64} {g : Nat → UInt64} {H : Heap} {locs : List Loc} {ls : Array Slot} (hR : Rel C M) (hw : gw D (LA s) s.heap (CW cy ad C ++ (oL cy o f :: oD cy o2 g :: MW cy bd M)) H locs) (hl : lv_has ls 9 [(0, .ref b), (1, .ref (ad 92)), (2, .ref (bd 0)), (3, .ref o), (4, .ref o2), (5, .int (nI (4 * j)))]) : W p l e room_1 s m #[Value.ref b] below meth c H locs (200 + 4 * j) (9000 + 24 * j) (lw_Z below #[Value.ref b] s) (F0 m 1213 ls []) := by
  obtain ⟨X, hE, hX, hbl, hbA, hlt, hL⟩ := CX
  have hx := X.1
  have hb := X.2.1
  obtain ⟨hS, hI, hR2⟩ := sim_averageLength hR (xs (nI (4 * j) + 1).toNatClampNeg)
  refine lv_aload_n hx hb dL_law_1213 rfl (lv_at hl 1 rfl) ?_
  refine lv_aload_n hx hb dL_law_1214 rfl (lv_at hl 0 rfl) ?_
  refine lv_iload hx hb dL_law_1215 (lv_at hl 5 rfl) ?_
  refine lv_iconst (v := 1) hx hb dL_law_1217 (by decide) ?_
  refine lv_iadd hx hb dL_law_1218 ?_
  refine va_sld hx hb hX hbl hbA hw.2.2 (lw_ix 1 hj hL (by decide)) dL_law_1219 ?_
  refine lv_aload hx hb dL_law_1220 (lv_at hl 4 rfl) ?_
  refine gwS_i (rest := []) X hE (c_L_averageLength l hlt D cy ss ad (oL cy o f) o2 (MW cy bd M) C g (xs (nI (4 * j) + 1).toNatClampNeg)) gy_L_averageLength gL_law_L_averageLength ⟨rfl, rfl, Nat.le_of_ble_eq_true rfl, Nat.le_of_ble_eq_true rfl⟩ rfl hl rfl (Nat.le_of_ble_eq_true rfl) dL_law_1222 ⟨by show 200 + 4 * j + 2 ≤ 603072; omega, by show 9000 + 24 * j + 12 ≤ 7202922; omega⟩ hw (fun r6 u6 H locs hk hw => ?_)
  obtain ⟨uO, hu0⟩ : ∃ z, z = u6 := ⟨_, rfl⟩
  obtain ⟨hk, hout⟩ := hk
  rw [← hu0] at hout hw
  have hw : gw D (LA s) s.heap (CW cy ad C ++ (oL cy o f :: oD cy o2 uO :: MW cy bd M)) H locs := hw
  refine lv_istore (lv' := [(6, .int r6), (0, .ref b), (1, .ref (ad 92)), (2, .ref (bd 0)), (3, .ref o), (4, .ref o2), (5, .int (nI (4 * j)))]) hx hb dL_law_1225 hl (by decide) rfl (fun ls hl => ?_)
  refine lv_aload_n hx hb dL_law_1227 rfl (lv_at hl 3 rfl) ?_
  refine lv_aload_n hx hb dL_law_1228 rfl (lv_at hl 1 rfl) ?_
  refine lv_iload hx hb dL_law_1229 (lv_at hl 6 rfl) ?_
  refine lv_iconst (v := 1) hx hb dL_law_1231 (by decide) ?_
  refine lv_iadd hx hb dL_law_1232 ?_
  refine va_sld hx hb hX hbl hbA hw.2.2 (lw_ix 1 hj hL (by decide)) dL_law_1233 ?_
  have hw := gw_lr hw
  refine gcV_d (rest := []) X (c_X7_averageLength l D cy bd (CW cy ad C ++ [oL cy o f, oD cy o2 uO]) M (xs (nI (4 * j) + 1).toNatClampNeg) hS) gy_X7_averageLength gL_law_X7_averageLength ⟨rfl, rfl, Nat.le_of_ble_eq_true rfl, Nat.le_of_ble_eq_true rfl⟩ 0 rfl rfl rfl hl rfl (Nat.le_of_ble_eq_true rfl) dL_law_1234 ⟨by show 200 + 4 * j + 2 ≤ 603072; omega, by show 9000 + 24 * j + 12 ≤ 7202922; omega⟩ hw (fun r7 ur7 H locs hr7 hw => ?_)
  obtain ⟨hr7, hM⟩ := hr7
  have hM : ur7 = (F_X7_averageLength M (xs (nI (4 * j) + 1).toNatClampNeg)).2 := hM
  subst hM
  have hr7 : r7 = (F_X7_averageLength M (xs (nI (4 * j) + 1).toNatClampNeg)).1 := hr7
  have hw := gw_rl hw
  have hw : gw D (LA s) s.heap (CW cy ad C ++ (oL cy o f :: oD cy o2 uO :: MW cy bd (F_X7_averageLength M (xs (nI (4 * j) + 1).toNatClampNeg)).2)) H locs := hw
  have hb7 := hr7
  refine lv_dstore (lv' := [(7, .double r7), (6, .int r6), (0, .ref b), (1, .ref (ad 92)), (2, .ref (bd 0)), (3, .ref o), (4, .ref o2), (5, .int (nI (4 * j)))]) hx hb dL_law_1237 hl (by decide) rfl (fun ls hl => ?_)
  refine lv_aload_n hx hb dL_law_1239 rfl (lv_at hl 4 rfl) ?_
  have hw := gw_lr hw
  refine gcV_i (rest := []) X (c_X7_thrown l D cy bd (CW cy ad C ++ [oL cy o f, oD cy o2 uO]) (F_X7_averageLength M (xs (nI (4 * j) + 1).toNatClampNeg)).2) gy_X7_thrown gL_law_X7_thrown ⟨rfl, rfl, Nat.le_of_ble_eq_true rfl, Nat.le_of_ble_eq_true rfl⟩ 0 rfl rfl rfl hl rfl (Nat.le_of_ble_eq_true rfl) dL_law_1240 ⟨by show 200 + 4 * j + 2 ≤ 603072; omega, by show 9000 + 24 * j + 12 ≤ 7202922; omega⟩ hw (fun r9x ur9x H locs hr9x hw => ?_)
  have hr9x : r9x = (F_X7_thrown (F_X7_averageLength M (xs (nI (4 * j) + 1).toNatClampNeg)).2) := hr9x
  have hw := gw_rl hw
  have hw : gw D (LA s) s.heap (CW cy ad C ++ (oL cy o f :: oD cy o2 uO :: MW cy bd (F_X7_averageLength M (xs (nI (4 * j) + 1).toNatClampNeg)).2)) H locs := hw
  have hthr : r9x = r6 := by rw [hr9x, hk]; exact (F_X7_thrown.eq_1 _).trans (simI_k hI)
  refine lv_iload hx hb dL_law_1243 (lv_at hl 1 rfl) ?_
  refine lv_icmp_eq (tgt := 1250) hx hb dL_law_1245 (by decide) (fun _ => ?_) (fun c9 => absurd (hthr) c9)
  refine lv_iload hx hb dL_law_1250 (lv_at hl 1 rfl) ?_
  refine lv_if_ne (tgt := 1287) hx hb dL_law_1252 (by decide) (fun c6 => ?_) (fun c6 => ?_)
  · skip
    refine lv_goto (tgt := 1783) hx hb dL_law_1287 (by decide) ?_
    refine lv_iinc (v := nI (4 * (j + 1))) (lv' := [(5, .int (nI (4 * (j + 1)))), (7, .double r7), (6, .int r6), (0, .ref b), (1, .ref (ad 92)), (2, .ref (bd 0)), (3, .ref o), (4, .ref o2)]) hx hb dL_law_1783 hl (k := 7) rfl (lw_up j) (by decide) rfl (fun ls hl => ?_)
    refine lv_goto (tgt := 28) hx hb dL_law_1786 (by decide) ?_
    refine W.widen (k := 200 + 4 * (j + 1)) (n := 9000 + 24 * (j + 1)) (by omega) (by omega) ?_
    exact ih _ _ _ _ _ _ _ hR2 hw (lv_sub hl [3, 4, 5, 6, 7, 0] rfl)
  · skip
    have hoo := hout.trans (simI_o hI (hk.symm.trans c6) vf_upd g (fun v : UInt64 => v))
    try dsimp only at hoo
    have hdd : uO 0 = r7 := by rw [hoo, hb7]; rfl
    refine lv_aload hx hb dL_law_1255 (lv_at hl 6 rfl) ?_
    refine lv_iconst (v := 0) hx hb dL_law_1257 (by decide) ?_
    refine g_daldk (k := 0) rfl X hw 103 rfl (vk rfl) dL_law_1258 ?_
    refine lv_dload hx hb dL_law_1259 (lv_at hl 0 rfl) ?_
    refine lv_dcmp hx hb dL_law_1261 ?_
    try rw [hdd]
    refine lv_if_eq (tgt := 1287) hx hb dL_law_1262 (by decide) (fun cv => ?_) (fun cv => ?_)
    · skip
      refine lv_goto (tgt := 1783) hx hb dL_law_1287 (by decide) ?_
      refine lv_iinc (v := nI (4 * (j + 1))) (lv' := [(5, .int (nI (4 * (j + 1)))), (7, .double r7), (6, .int r6), (0, .ref b), (1, .ref (ad 92)), (2, .ref (bd 0)), (3, .ref o), (4, .ref o2)]) hx hb dL_law_1783 hl (k := 7) rfl (lw_up j) (by decide) rfl (fun ls hl => ?_)
      refine lv_goto (tgt := 28) hx hb dL_law_1786 (by decide) ?_
      refine W.widen (k := 200 + 4 * (j + 1)) (n := 9000 + 24 * (j + 1)) (by omega) (by omega) ?_
      exact ih _ _ _ _ _ _ _ hR2 hw (lv_sub hl [3, 4, 5, 6, 7, 0] rfl)
    · skip
      refine lv_aload hx hb dL_law_1265 (lv_at hl 6 rfl) ?_
      refine lv_iconst (v := 0) hx hb dL_law_1267 (by decide) ?_
      refine g_daldk (k := 0) rfl X hw 103 rfl (vk rfl) dL_law_1268 ?_
      refine lv_aload hx hb dL_law_1269 (lv_at hl 6 rfl) ?_
      refine lv_iconst (v := 0) hx hb dL_law_1271 (by decide) ?_
      refine g_daldk (k := 0) rfl X hw 103 rfl (vk rfl) dL_law_1272 ?_
      refine lv_dcmp hx hb dL_law_1273 ?_
      try rw [hdd]
      refine lv_if_eq (tgt := 1285) hx hb dL_law_1274 (by decide) (fun c9 => absurd c9 cv) (fun _ => ?_)
      refine lv_dload hx hb dL_law_1277 (lv_at hl 0 rfl) ?_
      refine lv_dload hx hb dL_law_1279 (lv_at hl 0 rfl) ?_
      refine lv_dcmp hx hb dL_law_1281 ?_
      try rw [hdd]
      refine lv_if_ne (tgt := 1287) hx hb dL_law_1282 (by decide) (fun _ => ?_) (fun c9 => absurd c9 cv)
      refine lv_goto (tgt := 1783) hx hb dL_law_1287 (by decide) ?_
      refine lv_iinc (v := nI (4 * (j + 1))) (lv' := [(5, .int (nI (4 * (j + 1)))), (7, .double r7), (6, .int r6), (0, .ref b), (1, .ref (ad 92)), (2, .ref (bd 0)), (3, .ref o), (4, .ref o2)]) hx hb dL_law_1783 hl (k := 7) rfl (lw_up j) (by decide) rfl (fun ls hl => ?_)
      refine lv_goto (tgt := 28) hx hb dL_law_1786 (by decide) ?_
      refine W.widen (k := 200 + 4 * (j + 1)) (n := 9000 + 24 * (j + 1)) (by omega) (by omega) ?_
      exact ih _ _ _ _ _ _ _ hR2 hw (lv_sub hl [3, 4, 5, 6, 7, 0] rfl)
set_option maxHeartbeats 4000000 in
set_option maxRecDepth 100000 in
theorem law_mergeCount {p : Program} {l : Launch} {e : Env} {s : State} {m : MethodId} {below : List Frame} {meth : Method} {c : Code} {D : va_G} {cy : Nat → ClassId} {ss : Nat → Nat} {ad bd : Nat → Nat} {o o2 b L : Nat} {xs : Nat → Int32} (CX : LX p l s m meth c D cy ss b L xs) {j : Nat} (hj : 4 * j + 4 ≤ L) (ih : LH p l e s m below meth c D cy ad bd o o2 b (j + 1)) {C M : CS} {f : Nat → Int64} {g : Nat → UInt64} {H : Heap} {locs : List Loc} {ls : Array Slot} (hR : Rel C M) (hw : gw D (LA s) s.heap (CW cy ad C ++ (oL cy o f :: oD cy o2 g :: MW cy bd M)) H locs) (hl : lv_has ls 9 [(0, .ref b), (1, .ref (ad 92)), (2, .ref (bd 0)), (3, .ref o), (4, .ref o2), (5, .int (nI (4 * j)))]) : W p l e room_1 s m #[Value.ref b] below meth c H locs (200 + 4 * j) (9000 + 24 * j) (lw_Z below #[Value.ref b] s) (F0 m 1290 ls []) := by
  obtain ⟨X, hE, hX, hbl, hbA, hlt, hL⟩ := CX
  have hx := X.1
  have hb := X.2.1
  obtain ⟨hI, hR2⟩ := sim_mergeCount hR
  refine lv_aload_n hx hb dL_law_1290 rfl (lv_at hl 1 rfl) ?_
  refine gcV_i (rest := []) X (c_X6_mergeCount l D cy ad (oL cy o f :: oD cy o2 g :: MW cy bd M) C) gy_X6_mergeCount gL_law_X6_mergeCount ⟨rfl, rfl, Nat.le_of_ble_eq_true rfl, Nat.le_of_ble_eq_true rfl⟩ 92 rfl rfl rfl hl rfl (Nat.le_of_ble_eq_true rfl) dL_law_1291 ⟨by show 200 + 4 * j ≤ 603072; omega, by show 9000 + 24 * j ≤ 7202922; omega⟩ hw (fun r8x ur8x H locs hr8x hw => ?_)
  have hr8x : r8x = (F_X6_mergeCount C) := hr8x
  have hw : gw D (LA s) s.heap (CW cy ad C ++ (oL cy o f :: oD cy o2 g :: MW cy bd M)) H locs := hw
  refine lv_aload_n hx hb dL_law_1294 rfl (lv_at hl 2 rfl) ?_
  have hw := gw_lr hw
  refine gcV_i (rest := [.int r8x]) X (c_X7_mergeCount l D cy bd (CW cy ad C ++ [oL cy o f, oD cy o2 g]) M) gy_X7_mergeCount gL_law_X7_mergeCount ⟨rfl, rfl, Nat.le_of_ble_eq_true rfl, Nat.le_of_ble_eq_true rfl⟩ 0 rfl rfl rfl hl rfl (Nat.le_of_ble_eq_true rfl) dL_law_1295 ⟨by show 200 + 4 * j ≤ 603072; omega, by show 9000 + 24 * j ≤ 7202922; omega⟩ hw (fun r7 ur7 H locs hr7 hw => ?_)
  obtain ⟨hr7, hM⟩ := hr7
  have hM : ur7 = (F_X7_mergeCount M).2 := hM
  subst hM
  have hr7 : r7 = (F_X7_mergeCount M).1 := hr7
  have hw := gw_rl hw
  have hw : gw D (LA s) s.heap (CW cy ad C ++ (oL cy o f :: oD cy o2 g :: MW cy bd (F_X7_mergeCount M).2)) H locs := hw
  have hcmp : r8x = r7 := hr8x.trans (hI.trans hr7.symm)
  refine lv_icmp_eq (tgt := 1783) hx hb dL_law_1298 (by decide) (fun _ => ?_) (fun c9 => absurd (hcmp) c9)
  refine lv_iinc (v := nI (4 * (j + 1))) (lv' := [(5, .int (nI (4 * (j + 1)))), (0, .ref b), (1, .ref (ad 92)), (2, .ref (bd 0)), (3, .ref o), (4, .ref o2)]) hx hb dL_law_1783 hl (k := 5) rfl (lw_up j) (by decide) rfl (fun ls hl => ?_)
  refine lv_goto (tgt := 28) hx hb dL_law_1786 (by decide) ?_
  refine W.widen (k := 200 + 4 * (j + 1)) (n := 9000 + 24 * (j + 1)) (by omega) (by omega) ?_
  exact ih _ _ _ _ _ _ _ hR2 hw (lv_sub hl [1, 2, 3, 4, 5, 0] rfl)
set_option maxHeartbeats 4000000 in
set_option maxRecDepth 100000 in
theorem law_regrouped {p : Program} {l : Launch} {e : Env} {s : State} {m : MethodId} {below : List Frame} {meth : Method} {c : Code} {D : va_G} {cy : Nat → ClassId} {ss : Nat → Nat} {ad bd : Nat → Nat} {o o2 b L : Nat} {xs : Nat → Int32} (CX : LX p l s m meth c D cy ss b L xs) {j : Nat} (hj : 4 * j + 4 ≤ L) (ih : LH p l e s m below meth c D cy ad bd o o2 b (j + 1)) {C M : CS} {f : Nat → Int64} {g : Nat → UInt64} {H : Heap} {locs : List Loc} {ls : Array Slot} (hR : Rel C M) (hw : gw D (LA s) s.heap (CW cy ad C ++ (oL cy o f :: oD cy o2 g :: MW cy bd M)) H locs) (hl : lv_has ls 9 [(0, .ref b), (1, .ref (ad 92)), (2, .ref (bd 0)), (3, .ref o), (4, .ref o2), (5, .int (nI (4 * j)))]) : W p l e room_1 s m #[Value.ref b] below meth c H locs (200 + 4 * j) (9000 + 24 * j) (lw_Z below #[Value.ref b] s) (F0 m 1303 ls []) := by
  obtain ⟨X, hE, hX, hbl, hbA, hlt, hL⟩ := CX
  have hx := X.1
  have hb := X.2.1
  obtain ⟨hS, hI, hR2⟩ := sim_regrouped hR (xs (nI (4 * j) + 1).toNatClampNeg)
  refine lv_aload_n hx hb dL_law_1303 rfl (lv_at hl 1 rfl) ?_
  refine lv_aload_n hx hb dL_law_1304 rfl (lv_at hl 0 rfl) ?_
  refine lv_iload hx hb dL_law_1305 (lv_at hl 5 rfl) ?_
  refine lv_iconst (v := 1) hx hb dL_law_1307 (by decide) ?_
  refine lv_iadd hx hb dL_law_1308 ?_
  refine va_sld hx hb hX hbl hbA hw.2.2 (lw_ix 1 hj hL (by decide)) dL_law_1309 ?_
  refine lv_aload_n hx hb dL_law_1310 rfl (lv_at hl 3 rfl) ?_
  refine gwS_i (rest := []) X hE (c_L_regrouped l hlt D cy ss ad o (oD cy o2 g :: MW cy bd M) C f (xs (nI (4 * j) + 1).toNatClampNeg)) gy_L_regrouped gL_law_L_regrouped ⟨rfl, rfl, Nat.le_of_ble_eq_true rfl, Nat.le_of_ble_eq_true rfl⟩ rfl hl rfl (Nat.le_of_ble_eq_true rfl) dL_law_1311 ⟨by show 200 + 4 * j + 1 ≤ 603072; omega, by show 9000 + 24 * j + 6 ≤ 7202922; omega⟩ hw (fun r6 u6 H locs hk hw => ?_)
  obtain ⟨uO, hu0⟩ : ∃ z, z = u6 := ⟨_, rfl⟩
  obtain ⟨hk, hout⟩ := hk
  rw [← hu0] at hout hw
  have hw : gw D (LA s) s.heap (CW cy ad C ++ (oL cy o uO :: oD cy o2 g :: MW cy bd M)) H locs := hw
  refine lv_istore (lv' := [(6, .int r6), (0, .ref b), (1, .ref (ad 92)), (2, .ref (bd 0)), (3, .ref o), (4, .ref o2), (5, .int (nI (4 * j)))]) hx hb dL_law_1314 hl (by decide) rfl (fun ls hl => ?_)
  refine lv_aload_n hx hb dL_law_1316 rfl (lv_at hl 3 rfl) ?_
  refine lv_aload_n hx hb dL_law_1317 rfl (lv_at hl 1 rfl) ?_
  refine lv_iload hx hb dL_law_1318 (lv_at hl 6 rfl) ?_
  refine lv_iconst (v := 1) hx hb dL_law_1320 (by decide) ?_
  refine lv_iadd hx hb dL_law_1321 ?_
  refine va_sld hx hb hX hbl hbA hw.2.2 (lw_ix 1 hj hL (by decide)) dL_law_1322 ?_
  have hw := gw_lr hw
  refine gcV_i (rest := []) X (c_X7_regrouped l D cy bd (CW cy ad C ++ [oL cy o uO, oD cy o2 g]) M (xs (nI (4 * j) + 1).toNatClampNeg) hS) gy_X7_regrouped gL_law_X7_regrouped ⟨rfl, rfl, Nat.le_of_ble_eq_true rfl, Nat.le_of_ble_eq_true rfl⟩ 0 rfl rfl rfl hl rfl (Nat.le_of_ble_eq_true rfl) dL_law_1323 ⟨by show 200 + 4 * j + 1 ≤ 603072; omega, by show 9000 + 24 * j + 6 ≤ 7202922; omega⟩ hw (fun r7 ur7 H locs hr7 hw => ?_)
  obtain ⟨hr7, hM⟩ := hr7
  have hM : ur7 = (F_X7_regrouped M (xs (nI (4 * j) + 1).toNatClampNeg)).2 := hM
  subst hM
  have hr7 : r7 = (F_X7_regrouped M (xs (nI (4 * j) + 1).toNatClampNeg)).1 := hr7
  have hw := gw_rl hw
  have hw : gw D (LA s) s.heap (CW cy ad C ++ (oL cy o uO :: oD cy o2 g :: MW cy bd (F_X7_regrouped M (xs (nI (4 * j) + 1).toNatClampNeg)).2)) H locs := hw
  have hb7 := hr7
  refine lv_istore (lv' := [(7, .int r7), (6, .int r6), (0, .ref b), (1, .ref (ad 92)), (2, .ref (bd 0)), (3, .ref o), (4, .ref o2), (5, .int (nI (4 * j)))]) hx hb dL_law_1326 hl (by decide) rfl (fun ls hl => ?_)
  refine lv_aload_n hx hb dL_law_1328 rfl (lv_at hl 4 rfl) ?_
  have hw := gw_lr hw
  refine gcV_i (rest := []) X (c_X7_thrown l D cy bd (CW cy ad C ++ [oL cy o uO, oD cy o2 g]) (F_X7_regrouped M (xs (nI (4 * j) + 1).toNatClampNeg)).2) gy_X7_thrown gL_law_X7_thrown ⟨rfl, rfl, Nat.le_of_ble_eq_true rfl, Nat.le_of_ble_eq_true rfl⟩ 0 rfl rfl rfl hl rfl (Nat.le_of_ble_eq_true rfl) dL_law_1329 ⟨by show 200 + 4 * j + 1 ≤ 603072; omega, by show 9000 + 24 * j + 6 ≤ 7202922; omega⟩ hw (fun r9x ur9x H locs hr9x hw => ?_)
  have hr9x : r9x = (F_X7_thrown (F_X7_regrouped M (xs (nI (4 * j) + 1).toNatClampNeg)).2) := hr9x
  have hw := gw_rl hw
  have hw : gw D (LA s) s.heap (CW cy ad C ++ (oL cy o uO :: oD cy o2 g :: MW cy bd (F_X7_regrouped M (xs (nI (4 * j) + 1).toNatClampNeg)).2)) H locs := hw
  have hthr : r9x = r6 := by rw [hr9x, hk]; exact (F_X7_thrown.eq_1 _).trans (simI_k hI)
  refine lv_iload hx hb dL_law_1332 (lv_at hl 1 rfl) ?_
  refine lv_icmp_eq (tgt := 1339) hx hb dL_law_1334 (by decide) (fun _ => ?_) (fun c9 => absurd (hthr) c9)
  refine lv_iload hx hb dL_law_1339 (lv_at hl 1 rfl) ?_
  refine lv_if_ne (tgt := 1356) hx hb dL_law_1341 (by decide) (fun c6 => ?_) (fun c6 => ?_)
  · skip
    refine lv_goto (tgt := 1783) hx hb dL_law_1356 (by decide) ?_
    refine lv_iinc (v := nI (4 * (j + 1))) (lv' := [(5, .int (nI (4 * (j + 1)))), (7, .int r7), (6, .int r6), (0, .ref b), (1, .ref (ad 92)), (2, .ref (bd 0)), (3, .ref o), (4, .ref o2)]) hx hb dL_law_1783 hl (k := 7) rfl (lw_up j) (by decide) rfl (fun ls hl => ?_)
    refine lv_goto (tgt := 28) hx hb dL_law_1786 (by decide) ?_
    refine W.widen (k := 200 + 4 * (j + 1)) (n := 9000 + 24 * (j + 1)) (by omega) (by omega) ?_
    exact ih _ _ _ _ _ _ _ hR2 hw (lv_sub hl [3, 4, 5, 6, 7, 0] rfl)
  · skip
    have hoo := hout.trans (simI_o hI (hk.symm.trans c6) vp_updL f (fun v : Int32 => v.toInt64))
    try dsimp only at hoo
    refine lv_aload_n hx hb dL_law_1344 rfl (lv_at hl 5 rfl) ?_
    refine lv_iconst (v := 0) hx hb dL_law_1345 (by decide) ?_
    refine g_laldk (k := 0) rfl X hw 102 rfl (vk rfl) dL_law_1346 ?_
    refine lv_iload hx hb dL_law_1347 (lv_at hl 0 rfl) ?_
    refine lv_i2l (v := r7.toInt64) hx hb dL_law_1349 rfl ?_
    refine W.lcmp hx hb dL_law_1350 ?_
    refine lv_if_eq (tgt := 1356) hx hb dL_law_1351 (by decide) (fun _ => ?_) (fun c9 => absurd (by rw [hoo, hb7]; exact lg_same _) c9)
    refine lv_goto (tgt := 1783) hx hb dL_law_1356 (by decide) ?_
    refine lv_iinc (v := nI (4 * (j + 1))) (lv' := [(5, .int (nI (4 * (j + 1)))), (7, .int r7), (6, .int r6), (0, .ref b), (1, .ref (ad 92)), (2, .ref (bd 0)), (3, .ref o), (4, .ref o2)]) hx hb dL_law_1783 hl (k := 7) rfl (lw_up j) (by decide) rfl (fun ls hl => ?_)
    refine lv_goto (tgt := 28) hx hb dL_law_1786 (by decide) ?_
    refine W.widen (k := 200 + 4 * (j + 1)) (n := 9000 + 24 * (j + 1)) (by omega) (by omega) ?_
    exact ih _ _ _ _ _ _ _ hR2 hw (lv_sub hl [3, 4, 5, 6, 7, 0] rfl)
set_option maxHeartbeats 4000000 in
set_option maxRecDepth 100000 in
theorem law_fire {p : Program} {l : Launch} {e : Env} {s : State} {m : MethodId} {below : List Frame} {meth : Method} {c : Code} {D : va_G} {cy : Nat → ClassId} {ss : Nat → Nat} {ad bd : Nat → Nat} {o o2 b L : Nat} {xs : Nat → Int32} (CX : LX p l s m meth c D cy ss b L xs) {j : Nat} (hj : 4 * j + 4 ≤ L) (ih : LH p l e s m below meth c D cy ad bd o o2 b (j + 1)) {C M : CS} {f : Nat → Int64} {g : Nat → UInt64} {H : Heap} {locs : List Loc} {ls : Array Slot} (hR : Rel C M) (hw : gw D (LA s) s.heap (CW cy ad C ++ (oL cy o f :: oD cy o2 g :: MW cy bd M)) H locs) (hl : lv_has ls 9 [(0, .ref b), (1, .ref (ad 92)), (2, .ref (bd 0)), (3, .ref o), (4, .ref o2), (5, .int (nI (4 * j)))]) : W p l e room_1 s m #[Value.ref b] below meth c H locs (200 + 4 * j) (9000 + 24 * j) (lw_Z below #[Value.ref b] s) (F0 m 1359 ls []) := by
  obtain ⟨X, hE, hX, hbl, hbA, hlt, hL⟩ := CX
  have hx := X.1
  have hb := X.2.1
  obtain ⟨hS, hI, hR2⟩ := sim_fire hR (xs (nI (4 * j) + 1).toNatClampNeg)
  refine lv_aload_n hx hb dL_law_1359 rfl (lv_at hl 1 rfl) ?_
  refine lv_aload_n hx hb dL_law_1360 rfl (lv_at hl 0 rfl) ?_
  refine lv_iload hx hb dL_law_1361 (lv_at hl 5 rfl) ?_
  refine lv_iconst (v := 1) hx hb dL_law_1363 (by decide) ?_
  refine lv_iadd hx hb dL_law_1364 ?_
  refine va_sld hx hb hX hbl hbA hw.2.2 (lw_ix 1 hj hL (by decide)) dL_law_1365 ?_
  refine lv_aload_n hx hb dL_law_1366 rfl (lv_at hl 3 rfl) ?_
  refine gwS_i (rest := []) X hE (c_L_fire l hlt D cy ss ad o (oD cy o2 g :: MW cy bd M) C f (xs (nI (4 * j) + 1).toNatClampNeg)) gy_L_fire gL_law_L_fire ⟨rfl, rfl, Nat.le_of_ble_eq_true rfl, Nat.le_of_ble_eq_true rfl⟩ rfl hl rfl (Nat.le_of_ble_eq_true rfl) dL_law_1367 ⟨by show 200 + 4 * j + 2 ≤ 603072; omega, by show 9000 + 24 * j + 12 ≤ 7202922; omega⟩ hw (fun r6 u6 H locs hk hw => ?_)
  obtain ⟨uC, uO⟩ := u6
  obtain ⟨hk, hC, hout⟩ := hk
  have hC : uC = (F_X6_fire C (xs (nI (4 * j) + 1).toNatClampNeg)).2 := hC
  subst hC
  have hw : gw D (LA s) s.heap (CW cy ad (F_X6_fire C (xs (nI (4 * j) + 1).toNatClampNeg)).2 ++ (oL cy o uO :: oD cy o2 g :: MW cy bd M)) H locs := hw
  refine lv_istore (lv' := [(6, .int r6), (0, .ref b), (1, .ref (ad 92)), (2, .ref (bd 0)), (3, .ref o), (4, .ref o2), (5, .int (nI (4 * j)))]) hx hb dL_law_1370 hl (by decide) rfl (fun ls hl => ?_)
  refine lv_aload_n hx hb dL_law_1372 rfl (lv_at hl 3 rfl) ?_
  refine lv_aload_n hx hb dL_law_1373 rfl (lv_at hl 1 rfl) ?_
  refine lv_iload hx hb dL_law_1374 (lv_at hl 6 rfl) ?_
  refine lv_iconst (v := 1) hx hb dL_law_1376 (by decide) ?_
  refine lv_iadd hx hb dL_law_1377 ?_
  refine va_sld hx hb hX hbl hbA hw.2.2 (lw_ix 1 hj hL (by decide)) dL_law_1378 ?_
  have hw := gw_lr hw
  refine gcV_i (rest := []) X (c_X7_fire l D cy bd (CW cy ad (F_X6_fire C (xs (nI (4 * j) + 1).toNatClampNeg)).2 ++ [oL cy o uO, oD cy o2 g]) M (xs (nI (4 * j) + 1).toNatClampNeg) hS) gy_X7_fire gL_law_X7_fire ⟨rfl, rfl, Nat.le_of_ble_eq_true rfl, Nat.le_of_ble_eq_true rfl⟩ 0 rfl rfl rfl hl rfl (Nat.le_of_ble_eq_true rfl) dL_law_1379 ⟨by show 200 + 4 * j + 2 ≤ 603072; omega, by show 9000 + 24 * j + 12 ≤ 7202922; omega⟩ hw (fun r7 ur7 H locs hr7 hw => ?_)
  obtain ⟨hr7, hM⟩ := hr7
  have hM : ur7 = (F_X7_fire M (xs (nI (4 * j) + 1).toNatClampNeg)).2 := hM
  subst hM
  have hr7 : r7 = (F_X7_fire M (xs (nI (4 * j) + 1).toNatClampNeg)).1 := hr7
  have hw := gw_rl hw
  have hw : gw D (LA s) s.heap (CW cy ad (F_X6_fire C (xs (nI (4 * j) + 1).toNatClampNeg)).2 ++ (oL cy o uO :: oD cy o2 g :: MW cy bd (F_X7_fire M (xs (nI (4 * j) + 1).toNatClampNeg)).2)) H locs := hw
  have hb7 := hr7
  refine lv_istore (lv' := [(7, .int r7), (6, .int r6), (0, .ref b), (1, .ref (ad 92)), (2, .ref (bd 0)), (3, .ref o), (4, .ref o2), (5, .int (nI (4 * j)))]) hx hb dL_law_1382 hl (by decide) rfl (fun ls hl => ?_)
  refine lv_aload_n hx hb dL_law_1384 rfl (lv_at hl 4 rfl) ?_
  have hw := gw_lr hw
  refine gcV_i (rest := []) X (c_X7_thrown l D cy bd (CW cy ad (F_X6_fire C (xs (nI (4 * j) + 1).toNatClampNeg)).2 ++ [oL cy o uO, oD cy o2 g]) (F_X7_fire M (xs (nI (4 * j) + 1).toNatClampNeg)).2) gy_X7_thrown gL_law_X7_thrown ⟨rfl, rfl, Nat.le_of_ble_eq_true rfl, Nat.le_of_ble_eq_true rfl⟩ 0 rfl rfl rfl hl rfl (Nat.le_of_ble_eq_true rfl) dL_law_1385 ⟨by show 200 + 4 * j + 2 ≤ 603072; omega, by show 9000 + 24 * j + 12 ≤ 7202922; omega⟩ hw (fun r9x ur9x H locs hr9x hw => ?_)
  have hr9x : r9x = (F_X7_thrown (F_X7_fire M (xs (nI (4 * j) + 1).toNatClampNeg)).2) := hr9x
  have hw := gw_rl hw
  have hw : gw D (LA s) s.heap (CW cy ad (F_X6_fire C (xs (nI (4 * j) + 1).toNatClampNeg)).2 ++ (oL cy o uO :: oD cy o2 g :: MW cy bd (F_X7_fire M (xs (nI (4 * j) + 1).toNatClampNeg)).2)) H locs := hw
  have hthr : r9x = r6 := by rw [hr9x, hk]; exact (F_X7_thrown.eq_1 _).trans (simI_k hI)
  refine lv_iload hx hb dL_law_1388 (lv_at hl 1 rfl) ?_
  refine lv_icmp_eq (tgt := 1395) hx hb dL_law_1390 (by decide) (fun _ => ?_) (fun c9 => absurd (hthr) c9)
  refine lv_iload hx hb dL_law_1395 (lv_at hl 1 rfl) ?_
  refine lv_if_ne (tgt := 1412) hx hb dL_law_1397 (by decide) (fun c6 => ?_) (fun c6 => ?_)
  · skip
    refine lv_goto (tgt := 1783) hx hb dL_law_1412 (by decide) ?_
    refine lv_iinc (v := nI (4 * (j + 1))) (lv' := [(5, .int (nI (4 * (j + 1)))), (7, .int r7), (6, .int r6), (0, .ref b), (1, .ref (ad 92)), (2, .ref (bd 0)), (3, .ref o), (4, .ref o2)]) hx hb dL_law_1783 hl (k := 7) rfl (lw_up j) (by decide) rfl (fun ls hl => ?_)
    refine lv_goto (tgt := 28) hx hb dL_law_1786 (by decide) ?_
    refine W.widen (k := 200 + 4 * (j + 1)) (n := 9000 + 24 * (j + 1)) (by omega) (by omega) ?_
    exact ih _ _ _ _ _ _ _ hR2 hw (lv_sub hl [3, 4, 5, 6, 7, 0] rfl)
  · skip
    have hoo := hout.trans (simI_o hI (hk.symm.trans c6) vp_updL f (fun v : Int32 => v.toInt64))
    try dsimp only at hoo
    refine lv_aload_n hx hb dL_law_1400 rfl (lv_at hl 5 rfl) ?_
    refine lv_iconst (v := 0) hx hb dL_law_1401 (by decide) ?_
    refine g_laldk (k := 0) rfl X hw 102 rfl (vk rfl) dL_law_1402 ?_
    refine lv_iload hx hb dL_law_1403 (lv_at hl 0 rfl) ?_
    refine lv_i2l (v := r7.toInt64) hx hb dL_law_1405 rfl ?_
    refine W.lcmp hx hb dL_law_1406 ?_
    refine lv_if_eq (tgt := 1412) hx hb dL_law_1407 (by decide) (fun _ => ?_) (fun c9 => absurd (by rw [hoo, hb7]; exact lg_same _) c9)
    refine lv_goto (tgt := 1783) hx hb dL_law_1412 (by decide) ?_
    refine lv_iinc (v := nI (4 * (j + 1))) (lv' := [(5, .int (nI (4 * (j + 1)))), (7, .int r7), (6, .int r6), (0, .ref b), (1, .ref (ad 92)), (2, .ref (bd 0)), (3, .ref o), (4, .ref o2)]) hx hb dL_law_1783 hl (k := 7) rfl (lw_up j) (by decide) rfl (fun ls hl => ?_)
    refine lv_goto (tgt := 28) hx hb dL_law_1786 (by decide) ?_
    refine W.widen (k := 200 + 4 * (j + 1)) (n := 9000 + 24 * (j + 1)) (by omega) (by omega) ?_
    exact ih _ _ _ _ _ _ _ hR2 hw (lv_sub hl [3, 4, 5, 6, 7, 0] rfl)
