set_option maxHeartbeats 4000000 in
set_option maxRecDepth 100000 in
theorem law_setGap {p : Program} {l : Launch} {e : Env} {s : State} {m : MethodId} {below : List Frame} {meth : Method} {c : Code} {D : va_G} {cy : Nat → ClassId} {ss : Nat → Nat} {ad bd : Nat → Nat} {o o2 b L : Nat} {xs : Nat → Int32} (CX : LX p l s m meth c D cy ss b L xs) {j : Nat} (hj : 4 * j + 4 ≤ L) (ih : LH p l e s m below meth c D cy ad bd o o2 b (j + 1)) {C M : CS} {f : Nat → Int64} {g : Nat → UInt64} {H : Heap} {locs : List Loc} {ls : Array Slot} (hR : Rel C M) (hw : gw D (LA s) s.heap (CW cy ad C ++ (oL cy o f :: oD cy o2 g :: MW cy bd M)) H locs) (hl : lv_has ls 9 [(0, .ref b), (1, .ref (ad 92)), (2, .ref (bd 0)), (3, .ref o), (4, .ref o2), (5, .int (nI (4 * j)))]) : W p l e room_1 s m #[Value.ref b] below meth c H locs (200 + 4 * j) (9000 + 24 * j) (lw_Z below #[Value.ref b] s) (F0 m 200 ls []) := by
  obtain ⟨X, hE, hX, hbl, hbA, hlt, hL⟩ := CX
  have hx := X.1
  have hb := X.2.1
  obtain ⟨hS, hI, hR2⟩ := sim_setGap hR (xs (nI (4 * j) + 1).toNatClampNeg) (xs (nI (4 * j) + 2).toNatClampNeg)
  refine lv_aload_n hx hb dL_law_200 rfl (lv_at hl 1 rfl) ?_
  refine lv_aload_n hx hb dL_law_201 rfl (lv_at hl 0 rfl) ?_
  refine lv_iload hx hb dL_law_202 (lv_at hl 5 rfl) ?_
  refine lv_iconst (v := 1) hx hb dL_law_204 (by decide) ?_
  refine lv_iadd hx hb dL_law_205 ?_
  refine va_sld hx hb hX hbl hbA hw.2.2 (lw_ix 1 hj hL (by decide)) dL_law_206 ?_
  refine lv_aload_n hx hb dL_law_207 rfl (lv_at hl 0 rfl) ?_
  refine lv_iload hx hb dL_law_208 (lv_at hl 5 rfl) ?_
  refine lv_iconst (v := 2) hx hb dL_law_210 (by decide) ?_
  refine lv_iadd hx hb dL_law_211 ?_
  refine va_sld hx hb hX hbl hbA hw.2.2 (lw_ix 2 hj hL (by decide)) dL_law_212 ?_
  refine lv_aload_n hx hb dL_law_213 rfl (lv_at hl 3 rfl) ?_
  refine gwS_i (rest := []) X hE (c_L_setGap l hlt D cy ss ad o (oD cy o2 g :: MW cy bd M) C f (xs (nI (4 * j) + 1).toNatClampNeg) (xs (nI (4 * j) + 2).toNatClampNeg)) gy_L_setGap gL_law_L_setGap ⟨rfl, rfl, Nat.le_of_ble_eq_true rfl, Nat.le_of_ble_eq_true rfl⟩ rfl hl rfl (Nat.le_of_ble_eq_true rfl) dL_law_214 ⟨by show 200 + 4 * j + 2 ≤ 603072; omega, by show 9000 + 24 * j + 12 ≤ 7202922; omega⟩ hw (fun r6 u6 H locs hk hw => ?_)
  obtain ⟨uC, uO⟩ := u6
  obtain ⟨hk, hC, hout⟩ := hk
  have hC : uC = (F_X6_setGap C (xs (nI (4 * j) + 1).toNatClampNeg) (xs (nI (4 * j) + 2).toNatClampNeg)).2 := hC
  subst hC
  have hw : gw D (LA s) s.heap (CW cy ad (F_X6_setGap C (xs (nI (4 * j) + 1).toNatClampNeg) (xs (nI (4 * j) + 2).toNatClampNeg)).2 ++ (oL cy o uO :: oD cy o2 g :: MW cy bd M)) H locs := hw
  refine lv_istore (lv' := [(6, .int r6), (0, .ref b), (1, .ref (ad 92)), (2, .ref (bd 0)), (3, .ref o), (4, .ref o2), (5, .int (nI (4 * j)))]) hx hb dL_law_217 hl (by decide) rfl (fun ls hl => ?_)
  refine lv_aload_n hx hb dL_law_219 rfl (lv_at hl 3 rfl) ?_
  refine lv_aload_n hx hb dL_law_220 rfl (lv_at hl 1 rfl) ?_
  refine lv_iload hx hb dL_law_221 (lv_at hl 6 rfl) ?_
  refine lv_iconst (v := 1) hx hb dL_law_223 (by decide) ?_
  refine lv_iadd hx hb dL_law_224 ?_
  refine va_sld hx hb hX hbl hbA hw.2.2 (lw_ix 1 hj hL (by decide)) dL_law_225 ?_
  refine lv_aload_n hx hb dL_law_226 rfl (lv_at hl 1 rfl) ?_
  refine lv_iload hx hb dL_law_227 (lv_at hl 6 rfl) ?_
  refine lv_iconst (v := 2) hx hb dL_law_229 (by decide) ?_
  refine lv_iadd hx hb dL_law_230 ?_
  refine va_sld hx hb hX hbl hbA hw.2.2 (lw_ix 2 hj hL (by decide)) dL_law_231 ?_
  have hw := gw_lr hw
  refine gcV_i (rest := []) X (c_X7_setGap l D cy bd (CW cy ad (F_X6_setGap C (xs (nI (4 * j) + 1).toNatClampNeg) (xs (nI (4 * j) + 2).toNatClampNeg)).2 ++ [oL cy o uO, oD cy o2 g]) M (xs (nI (4 * j) + 1).toNatClampNeg) (xs (nI (4 * j) + 2).toNatClampNeg) hS) gy_X7_setGap gL_law_X7_setGap ⟨rfl, rfl, Nat.le_of_ble_eq_true rfl, Nat.le_of_ble_eq_true rfl⟩ 0 rfl rfl rfl hl rfl (Nat.le_of_ble_eq_true rfl) dL_law_232 ⟨by show 200 + 4 * j + 2 ≤ 603072; omega, by show 9000 + 24 * j + 12 ≤ 7202922; omega⟩ hw (fun r7 ur7 H locs hr7 hw => ?_)
  obtain ⟨hr7, hM⟩ := hr7
  have hM : ur7 = (F_X7_setGap M (xs (nI (4 * j) + 1).toNatClampNeg) (xs (nI (4 * j) + 2).toNatClampNeg)).2 := hM
  subst hM
  have hr7 : r7 = (F_X7_setGap M (xs (nI (4 * j) + 1).toNatClampNeg) (xs (nI (4 * j) + 2).toNatClampNeg)).1 := hr7
  have hw := gw_rl hw
  have hw : gw D (LA s) s.heap (CW cy ad (F_X6_setGap C (xs (nI (4 * j) + 1).toNatClampNeg) (xs (nI (4 * j) + 2).toNatClampNeg)).2 ++ (oL cy o uO :: oD cy o2 g :: MW cy bd (F_X7_setGap M (xs (nI (4 * j) + 1).toNatClampNeg) (xs (nI (4 * j) + 2).toNatClampNeg)).2)) H locs := hw
  have hb7 := hr7
  refine lv_istore (lv' := [(7, .int r7), (6, .int r6), (0, .ref b), (1, .ref (ad 92)), (2, .ref (bd 0)), (3, .ref o), (4, .ref o2), (5, .int (nI (4 * j)))]) hx hb dL_law_235 hl (by decide) rfl (fun ls hl => ?_)
  refine lv_aload_n hx hb dL_law_237 rfl (lv_at hl 4 rfl) ?_
  have hw := gw_lr hw
  refine gcV_i (rest := []) X (c_X7_thrown l D cy bd (CW cy ad (F_X6_setGap C (xs (nI (4 * j) + 1).toNatClampNeg) (xs (nI (4 * j) + 2).toNatClampNeg)).2 ++ [oL cy o uO, oD cy o2 g]) (F_X7_setGap M (xs (nI (4 * j) + 1).toNatClampNeg) (xs (nI (4 * j) + 2).toNatClampNeg)).2) gy_X7_thrown gL_law_X7_thrown ⟨rfl, rfl, Nat.le_of_ble_eq_true rfl, Nat.le_of_ble_eq_true rfl⟩ 0 rfl rfl rfl hl rfl (Nat.le_of_ble_eq_true rfl) dL_law_238 ⟨by show 200 + 4 * j + 2 ≤ 603072; omega, by show 9000 + 24 * j + 12 ≤ 7202922; omega⟩ hw (fun r9x ur9x H locs hr9x hw => ?_)
  have hr9x : r9x = (F_X7_thrown (F_X7_setGap M (xs (nI (4 * j) + 1).toNatClampNeg) (xs (nI (4 * j) + 2).toNatClampNeg)).2) := hr9x
  have hw := gw_rl hw
  have hw : gw D (LA s) s.heap (CW cy ad (F_X6_setGap C (xs (nI (4 * j) + 1).toNatClampNeg) (xs (nI (4 * j) + 2).toNatClampNeg)).2 ++ (oL cy o uO :: oD cy o2 g :: MW cy bd (F_X7_setGap M (xs (nI (4 * j) + 1).toNatClampNeg) (xs (nI (4 * j) + 2).toNatClampNeg)).2)) H locs := hw
  have hthr : r9x = r6 := by rw [hr9x, hk]; exact (F_X7_thrown.eq_1 _).trans (simI_k hI)
  refine lv_iload hx hb dL_law_241 (lv_at hl 1 rfl) ?_
  refine lv_icmp_eq (tgt := 248) hx hb dL_law_243 (by decide) (fun _ => ?_) (fun c9 => absurd (hthr) c9)
  refine lv_iload hx hb dL_law_248 (lv_at hl 1 rfl) ?_
  refine lv_if_ne (tgt := 265) hx hb dL_law_250 (by decide) (fun c6 => ?_) (fun c6 => ?_)
  · skip
    refine lv_goto (tgt := 1783) hx hb dL_law_265 (by decide) ?_
    refine lv_iinc (v := nI (4 * (j + 1))) (lv' := [(5, .int (nI (4 * (j + 1)))), (7, .int r7), (6, .int r6), (0, .ref b), (1, .ref (ad 92)), (2, .ref (bd 0)), (3, .ref o), (4, .ref o2)]) hx hb dL_law_1783 hl (k := 7) rfl (lw_up j) (by decide) rfl (fun ls hl => ?_)
    refine lv_goto (tgt := 28) hx hb dL_law_1786 (by decide) ?_
    refine W.widen (k := 200 + 4 * (j + 1)) (n := 9000 + 24 * (j + 1)) (by omega) (by omega) ?_
    exact ih _ _ _ _ _ _ _ hR2 hw (lv_sub hl [3, 4, 5, 6, 7, 0] rfl)
  · skip
    have hoo := hout.trans (simI_o hI (hk.symm.trans c6) vp_updL f (fun v : Int32 => v.toInt64))
    try dsimp only at hoo
    refine lv_aload_n hx hb dL_law_253 rfl (lv_at hl 5 rfl) ?_
    refine lv_iconst (v := 0) hx hb dL_law_254 (by decide) ?_
    refine g_laldk (k := 0) rfl X hw 102 rfl (vk rfl) dL_law_255 ?_
    refine lv_iload hx hb dL_law_256 (lv_at hl 0 rfl) ?_
    refine lv_i2l (v := r7.toInt64) hx hb dL_law_258 rfl ?_
    refine W.lcmp hx hb dL_law_259 ?_
    refine lv_if_eq (tgt := 265) hx hb dL_law_260 (by decide) (fun _ => ?_) (fun c9 => absurd (by rw [hoo, hb7]; exact lg_same _) c9)
    refine lv_goto (tgt := 1783) hx hb dL_law_265 (by decide) ?_
    refine lv_iinc (v := nI (4 * (j + 1))) (lv' := [(5, .int (nI (4 * (j + 1)))), (7, .int r7), (6, .int r6), (0, .ref b), (1, .ref (ad 92)), (2, .ref (bd 0)), (3, .ref o), (4, .ref o2)]) hx hb dL_law_1783 hl (k := 7) rfl (lw_up j) (by decide) rfl (fun ls hl => ?_)
    refine lv_goto (tgt := 28) hx hb dL_law_1786 (by decide) ?_
    refine W.widen (k := 200 + 4 * (j + 1)) (n := 9000 + 24 * (j + 1)) (by omega) (by omega) ?_
    exact ih _ _ _ _ _ _ _ hR2 hw (lv_sub hl [3, 4, 5, 6, 7, 0] rfl)
set_option maxHeartbeats 4000000 in
set_option maxRecDepth 100000 in
theorem law_setFold {p : Program} {l : Launch} {e : Env} {s : State} {m : MethodId} {below : List Frame} {meth : Method} {c : Code} {D : va_G} {cy : Nat → ClassId} {ss : Nat → Nat} {ad bd : Nat → Nat} {o o2 b L : Nat} {xs : Nat → Int32} (CX : LX p l s m meth c D cy ss b L xs) {j : Nat} (hj : 4 * j + 4 ≤ L) (ih : LH p l e s m below meth c D cy ad bd o o2 b (j + 1)) {C M : CS} {f : Nat → Int64} {g : Nat → UInt64} {H : Heap} {locs : List Loc} {ls : Array Slot} (hR : Rel C M) (hw : gw D (LA s) s.heap (CW cy ad C ++ (oL cy o f :: oD cy o2 g :: MW cy bd M)) H locs) (hl : lv_has ls 9 [(0, .ref b), (1, .ref (ad 92)), (2, .ref (bd 0)), (3, .ref o), (4, .ref o2), (5, .int (nI (4 * j)))]) : W p l e room_1 s m #[Value.ref b] below meth c H locs (200 + 4 * j) (9000 + 24 * j) (lw_Z below #[Value.ref b] s) (F0 m 268 ls []) := by
  obtain ⟨X, hE, hX, hbl, hbA, hlt, hL⟩ := CX
  have hx := X.1
  have hb := X.2.1
  obtain ⟨hS, hI, hR2⟩ := sim_setFold hR (xs (nI (4 * j) + 1).toNatClampNeg) (xs (nI (4 * j) + 2).toNatClampNeg)
  refine lv_aload_n hx hb dL_law_268 rfl (lv_at hl 1 rfl) ?_
  refine lv_aload_n hx hb dL_law_269 rfl (lv_at hl 0 rfl) ?_
  refine lv_iload hx hb dL_law_270 (lv_at hl 5 rfl) ?_
  refine lv_iconst (v := 1) hx hb dL_law_272 (by decide) ?_
  refine lv_iadd hx hb dL_law_273 ?_
  refine va_sld hx hb hX hbl hbA hw.2.2 (lw_ix 1 hj hL (by decide)) dL_law_274 ?_
  refine lv_aload_n hx hb dL_law_275 rfl (lv_at hl 0 rfl) ?_
  refine lv_iload hx hb dL_law_276 (lv_at hl 5 rfl) ?_
  refine lv_iconst (v := 2) hx hb dL_law_278 (by decide) ?_
  refine lv_iadd hx hb dL_law_279 ?_
  refine va_sld hx hb hX hbl hbA hw.2.2 (lw_ix 2 hj hL (by decide)) dL_law_280 ?_
  refine lv_aload_n hx hb dL_law_281 rfl (lv_at hl 3 rfl) ?_
  refine gwS_i (rest := []) X hE (c_L_setFold l hlt D cy ss ad o (oD cy o2 g :: MW cy bd M) C f (xs (nI (4 * j) + 1).toNatClampNeg) (xs (nI (4 * j) + 2).toNatClampNeg)) gy_L_setFold gL_law_L_setFold ⟨rfl, rfl, Nat.le_of_ble_eq_true rfl, Nat.le_of_ble_eq_true rfl⟩ rfl hl rfl (Nat.le_of_ble_eq_true rfl) dL_law_282 ⟨by show 200 + 4 * j + 2 ≤ 603072; omega, by show 9000 + 24 * j + 12 ≤ 7202922; omega⟩ hw (fun r6 u6 H locs hk hw => ?_)
  obtain ⟨uC, uO⟩ := u6
  obtain ⟨hk, hC, hout⟩ := hk
  have hC : uC = (F_X6_setFold C (xs (nI (4 * j) + 1).toNatClampNeg) (xs (nI (4 * j) + 2).toNatClampNeg)).2 := hC
  subst hC
  have hw : gw D (LA s) s.heap (CW cy ad (F_X6_setFold C (xs (nI (4 * j) + 1).toNatClampNeg) (xs (nI (4 * j) + 2).toNatClampNeg)).2 ++ (oL cy o uO :: oD cy o2 g :: MW cy bd M)) H locs := hw
  refine lv_istore (lv' := [(6, .int r6), (0, .ref b), (1, .ref (ad 92)), (2, .ref (bd 0)), (3, .ref o), (4, .ref o2), (5, .int (nI (4 * j)))]) hx hb dL_law_285 hl (by decide) rfl (fun ls hl => ?_)
  refine lv_aload_n hx hb dL_law_287 rfl (lv_at hl 3 rfl) ?_
  refine lv_aload_n hx hb dL_law_288 rfl (lv_at hl 1 rfl) ?_
  refine lv_iload hx hb dL_law_289 (lv_at hl 6 rfl) ?_
  refine lv_iconst (v := 1) hx hb dL_law_291 (by decide) ?_
  refine lv_iadd hx hb dL_law_292 ?_
  refine va_sld hx hb hX hbl hbA hw.2.2 (lw_ix 1 hj hL (by decide)) dL_law_293 ?_
  refine lv_aload_n hx hb dL_law_294 rfl (lv_at hl 1 rfl) ?_
  refine lv_iload hx hb dL_law_295 (lv_at hl 6 rfl) ?_
  refine lv_iconst (v := 2) hx hb dL_law_297 (by decide) ?_
  refine lv_iadd hx hb dL_law_298 ?_
  refine va_sld hx hb hX hbl hbA hw.2.2 (lw_ix 2 hj hL (by decide)) dL_law_299 ?_
  have hw := gw_lr hw
  refine gcV_i (rest := []) X (c_X7_setFold l D cy bd (CW cy ad (F_X6_setFold C (xs (nI (4 * j) + 1).toNatClampNeg) (xs (nI (4 * j) + 2).toNatClampNeg)).2 ++ [oL cy o uO, oD cy o2 g]) M (xs (nI (4 * j) + 1).toNatClampNeg) (xs (nI (4 * j) + 2).toNatClampNeg) hS) gy_X7_setFold gL_law_X7_setFold ⟨rfl, rfl, Nat.le_of_ble_eq_true rfl, Nat.le_of_ble_eq_true rfl⟩ 0 rfl rfl rfl hl rfl (Nat.le_of_ble_eq_true rfl) dL_law_300 ⟨by show 200 + 4 * j + 2 ≤ 603072; omega, by show 9000 + 24 * j + 12 ≤ 7202922; omega⟩ hw (fun r7 ur7 H locs hr7 hw => ?_)
  obtain ⟨hr7, hM⟩ := hr7
  have hM : ur7 = (F_X7_setFold M (xs (nI (4 * j) + 1).toNatClampNeg) (xs (nI (4 * j) + 2).toNatClampNeg)).2 := hM
  subst hM
  have hr7 : r7 = (F_X7_setFold M (xs (nI (4 * j) + 1).toNatClampNeg) (xs (nI (4 * j) + 2).toNatClampNeg)).1 := hr7
  have hw := gw_rl hw
  have hw : gw D (LA s) s.heap (CW cy ad (F_X6_setFold C (xs (nI (4 * j) + 1).toNatClampNeg) (xs (nI (4 * j) + 2).toNatClampNeg)).2 ++ (oL cy o uO :: oD cy o2 g :: MW cy bd (F_X7_setFold M (xs (nI (4 * j) + 1).toNatClampNeg) (xs (nI (4 * j) + 2).toNatClampNeg)).2)) H locs := hw
  have hb7 := hr7
  refine lv_istore (lv' := [(7, .int r7), (6, .int r6), (0, .ref b), (1, .ref (ad 92)), (2, .ref (bd 0)), (3, .ref o), (4, .ref o2), (5, .int (nI (4 * j)))]) hx hb dL_law_303 hl (by decide) rfl (fun ls hl => ?_)
  refine lv_aload_n hx hb dL_law_305 rfl (lv_at hl 4 rfl) ?_
  have hw := gw_lr hw
  refine gcV_i (rest := []) X (c_X7_thrown l D cy bd (CW cy ad (F_X6_setFold C (xs (nI (4 * j) + 1).toNatClampNeg) (xs (nI (4 * j) + 2).toNatClampNeg)).2 ++ [oL cy o uO, oD cy o2 g]) (F_X7_setFold M (xs (nI (4 * j) + 1).toNatClampNeg) (xs (nI (4 * j) + 2).toNatClampNeg)).2) gy_X7_thrown gL_law_X7_thrown ⟨rfl, rfl, Nat.le_of_ble_eq_true rfl, Nat.le_of_ble_eq_true rfl⟩ 0 rfl rfl rfl hl rfl (Nat.le_of_ble_eq_true rfl) dL_law_306 ⟨by show 200 + 4 * j + 2 ≤ 603072; omega, by show 9000 + 24 * j + 12 ≤ 7202922; omega⟩ hw (fun r9x ur9x H locs hr9x hw => ?_)
  have hr9x : r9x = (F_X7_thrown (F_X7_setFold M (xs (nI (4 * j) + 1).toNatClampNeg) (xs (nI (4 * j) + 2).toNatClampNeg)).2) := hr9x
  have hw := gw_rl hw
  have hw : gw D (LA s) s.heap (CW cy ad (F_X6_setFold C (xs (nI (4 * j) + 1).toNatClampNeg) (xs (nI (4 * j) + 2).toNatClampNeg)).2 ++ (oL cy o uO :: oD cy o2 g :: MW cy bd (F_X7_setFold M (xs (nI (4 * j) + 1).toNatClampNeg) (xs (nI (4 * j) + 2).toNatClampNeg)).2)) H locs := hw
  have hthr : r9x = r6 := by rw [hr9x, hk]; exact (F_X7_thrown.eq_1 _).trans (simI_k hI)
  refine lv_iload hx hb dL_law_309 (lv_at hl 1 rfl) ?_
  refine lv_icmp_eq (tgt := 316) hx hb dL_law_311 (by decide) (fun _ => ?_) (fun c9 => absurd (hthr) c9)
  refine lv_iload hx hb dL_law_316 (lv_at hl 1 rfl) ?_
  refine lv_if_ne (tgt := 333) hx hb dL_law_318 (by decide) (fun c6 => ?_) (fun c6 => ?_)
  · skip
    refine lv_goto (tgt := 1783) hx hb dL_law_333 (by decide) ?_
    refine lv_iinc (v := nI (4 * (j + 1))) (lv' := [(5, .int (nI (4 * (j + 1)))), (7, .int r7), (6, .int r6), (0, .ref b), (1, .ref (ad 92)), (2, .ref (bd 0)), (3, .ref o), (4, .ref o2)]) hx hb dL_law_1783 hl (k := 7) rfl (lw_up j) (by decide) rfl (fun ls hl => ?_)
    refine lv_goto (tgt := 28) hx hb dL_law_1786 (by decide) ?_
    refine W.widen (k := 200 + 4 * (j + 1)) (n := 9000 + 24 * (j + 1)) (by omega) (by omega) ?_
    exact ih _ _ _ _ _ _ _ hR2 hw (lv_sub hl [3, 4, 5, 6, 7, 0] rfl)
  · skip
    have hoo := hout.trans (simI_o hI (hk.symm.trans c6) vp_updL f (fun v : Int32 => v.toInt64))
    try dsimp only at hoo
    refine lv_aload_n hx hb dL_law_321 rfl (lv_at hl 5 rfl) ?_
    refine lv_iconst (v := 0) hx hb dL_law_322 (by decide) ?_
    refine g_laldk (k := 0) rfl X hw 102 rfl (vk rfl) dL_law_323 ?_
    refine lv_iload hx hb dL_law_324 (lv_at hl 0 rfl) ?_
    refine lv_i2l (v := r7.toInt64) hx hb dL_law_326 rfl ?_
    refine W.lcmp hx hb dL_law_327 ?_
    refine lv_if_eq (tgt := 333) hx hb dL_law_328 (by decide) (fun _ => ?_) (fun c9 => absurd (by rw [hoo, hb7]; exact lg_same _) c9)
    refine lv_goto (tgt := 1783) hx hb dL_law_333 (by decide) ?_
    refine lv_iinc (v := nI (4 * (j + 1))) (lv' := [(5, .int (nI (4 * (j + 1)))), (7, .int r7), (6, .int r6), (0, .ref b), (1, .ref (ad 92)), (2, .ref (bd 0)), (3, .ref o), (4, .ref o2)]) hx hb dL_law_1783 hl (k := 7) rfl (lw_up j) (by decide) rfl (fun ls hl => ?_)
    refine lv_goto (tgt := 28) hx hb dL_law_1786 (by decide) ?_
    refine W.widen (k := 200 + 4 * (j + 1)) (n := 9000 + 24 * (j + 1)) (by omega) (by omega) ?_
    exact ih _ _ _ _ _ _ _ hR2 hw (lv_sub hl [3, 4, 5, 6, 7, 0] rfl)
set_option maxHeartbeats 4000000 in
set_option maxRecDepth 100000 in
theorem law_setLateness {p : Program} {l : Launch} {e : Env} {s : State} {m : MethodId} {below : List Frame} {meth : Method} {c : Code} {D : va_G} {cy : Nat → ClassId} {ss : Nat → Nat} {ad bd : Nat → Nat} {o o2 b L : Nat} {xs : Nat → Int32} (CX : LX p l s m meth c D cy ss b L xs) {j : Nat} (hj : 4 * j + 4 ≤ L) (ih : LH p l e s m below meth c D cy ad bd o o2 b (j + 1)) {C M : CS} {f : Nat → Int64} {g : Nat → UInt64} {H : Heap} {locs : List Loc} {ls : Array Slot} (hR : Rel C M) (hw : gw D (LA s) s.heap (CW cy ad C ++ (oL cy o f :: oD cy o2 g :: MW cy bd M)) H locs) (hl : lv_has ls 9 [(0, .ref b), (1, .ref (ad 92)), (2, .ref (bd 0)), (3, .ref o), (4, .ref o2), (5, .int (nI (4 * j)))]) : W p l e room_1 s m #[Value.ref b] below meth c H locs (200 + 4 * j) (9000 + 24 * j) (lw_Z below #[Value.ref b] s) (F0 m 336 ls []) := by
  obtain ⟨X, hE, hX, hbl, hbA, hlt, hL⟩ := CX
  have hx := X.1
  have hb := X.2.1
  obtain ⟨hS, hI, hR2⟩ := sim_setLateness hR (xs (nI (4 * j) + 1).toNatClampNeg)
  refine lv_aload_n hx hb dL_law_336 rfl (lv_at hl 1 rfl) ?_
  refine lv_aload_n hx hb dL_law_337 rfl (lv_at hl 0 rfl) ?_
  refine lv_iload hx hb dL_law_338 (lv_at hl 5 rfl) ?_
  refine lv_iconst (v := 1) hx hb dL_law_340 (by decide) ?_
  refine lv_iadd hx hb dL_law_341 ?_
  refine va_sld hx hb hX hbl hbA hw.2.2 (lw_ix 1 hj hL (by decide)) dL_law_342 ?_
  refine lv_aload_n hx hb dL_law_343 rfl (lv_at hl 3 rfl) ?_
  refine gwS_i (rest := []) X hE (c_L_setLateness l hlt D cy ss ad o (oD cy o2 g :: MW cy bd M) C f (xs (nI (4 * j) + 1).toNatClampNeg)) gy_L_setLateness gL_law_L_setLateness ⟨rfl, rfl, Nat.le_of_ble_eq_true rfl, Nat.le_of_ble_eq_true rfl⟩ rfl hl rfl (Nat.le_of_ble_eq_true rfl) dL_law_344 ⟨by show 200 + 4 * j + 1 ≤ 603072; omega, by show 9000 + 24 * j + 6 ≤ 7202922; omega⟩ hw (fun r6 u6 H locs hk hw => ?_)
  obtain ⟨uC, uO⟩ := u6
  obtain ⟨hk, hC, hout⟩ := hk
  have hC : uC = (F_X6_setLateness C (xs (nI (4 * j) + 1).toNatClampNeg)).2 := hC
  subst hC
  have hw : gw D (LA s) s.heap (CW cy ad (F_X6_setLateness C (xs (nI (4 * j) + 1).toNatClampNeg)).2 ++ (oL cy o uO :: oD cy o2 g :: MW cy bd M)) H locs := hw
  refine lv_istore (lv' := [(6, .int r6), (0, .ref b), (1, .ref (ad 92)), (2, .ref (bd 0)), (3, .ref o), (4, .ref o2), (5, .int (nI (4 * j)))]) hx hb dL_law_347 hl (by decide) rfl (fun ls hl => ?_)
  refine lv_aload_n hx hb dL_law_349 rfl (lv_at hl 3 rfl) ?_
  refine lv_aload_n hx hb dL_law_350 rfl (lv_at hl 1 rfl) ?_
  refine lv_iload hx hb dL_law_351 (lv_at hl 6 rfl) ?_
  refine lv_iconst (v := 1) hx hb dL_law_353 (by decide) ?_
  refine lv_iadd hx hb dL_law_354 ?_
  refine va_sld hx hb hX hbl hbA hw.2.2 (lw_ix 1 hj hL (by decide)) dL_law_355 ?_
  have hw := gw_lr hw
  refine gcV_i (rest := []) X (c_X7_setLateness l D cy bd (CW cy ad (F_X6_setLateness C (xs (nI (4 * j) + 1).toNatClampNeg)).2 ++ [oL cy o uO, oD cy o2 g]) M (xs (nI (4 * j) + 1).toNatClampNeg) hS) gy_X7_setLateness gL_law_X7_setLateness ⟨rfl, rfl, Nat.le_of_ble_eq_true rfl, Nat.le_of_ble_eq_true rfl⟩ 0 rfl rfl rfl hl rfl (Nat.le_of_ble_eq_true rfl) dL_law_356 ⟨by show 200 + 4 * j + 1 ≤ 603072; omega, by show 9000 + 24 * j + 6 ≤ 7202922; omega⟩ hw (fun r7 ur7 H locs hr7 hw => ?_)
  obtain ⟨hr7, hM⟩ := hr7
  have hM : ur7 = (F_X7_setLateness M (xs (nI (4 * j) + 1).toNatClampNeg)).2 := hM
  subst hM
  have hr7 : r7 = (F_X7_setLateness M (xs (nI (4 * j) + 1).toNatClampNeg)).1 := hr7
  have hw := gw_rl hw
  have hw : gw D (LA s) s.heap (CW cy ad (F_X6_setLateness C (xs (nI (4 * j) + 1).toNatClampNeg)).2 ++ (oL cy o uO :: oD cy o2 g :: MW cy bd (F_X7_setLateness M (xs (nI (4 * j) + 1).toNatClampNeg)).2)) H locs := hw
  have hb7 := hr7
  refine lv_istore (lv' := [(7, .int r7), (6, .int r6), (0, .ref b), (1, .ref (ad 92)), (2, .ref (bd 0)), (3, .ref o), (4, .ref o2), (5, .int (nI (4 * j)))]) hx hb dL_law_359 hl (by decide) rfl (fun ls hl => ?_)
  refine lv_aload_n hx hb dL_law_361 rfl (lv_at hl 4 rfl) ?_
  have hw := gw_lr hw
  refine gcV_i (rest := []) X (c_X7_thrown l D cy bd (CW cy ad (F_X6_setLateness C (xs (nI (4 * j) + 1).toNatClampNeg)).2 ++ [oL cy o uO, oD cy o2 g]) (F_X7_setLateness M (xs (nI (4 * j) + 1).toNatClampNeg)).2) gy_X7_thrown gL_law_X7_thrown ⟨rfl, rfl, Nat.le_of_ble_eq_true rfl, Nat.le_of_ble_eq_true rfl⟩ 0 rfl rfl rfl hl rfl (Nat.le_of_ble_eq_true rfl) dL_law_362 ⟨by show 200 + 4 * j + 1 ≤ 603072; omega, by show 9000 + 24 * j + 6 ≤ 7202922; omega⟩ hw (fun r9x ur9x H locs hr9x hw => ?_)
  have hr9x : r9x = (F_X7_thrown (F_X7_setLateness M (xs (nI (4 * j) + 1).toNatClampNeg)).2) := hr9x
  have hw := gw_rl hw
  have hw : gw D (LA s) s.heap (CW cy ad (F_X6_setLateness C (xs (nI (4 * j) + 1).toNatClampNeg)).2 ++ (oL cy o uO :: oD cy o2 g :: MW cy bd (F_X7_setLateness M (xs (nI (4 * j) + 1).toNatClampNeg)).2)) H locs := hw
  have hthr : r9x = r6 := by rw [hr9x, hk]; exact (F_X7_thrown.eq_1 _).trans (simI_k hI)
  refine lv_iload hx hb dL_law_365 (lv_at hl 1 rfl) ?_
  refine lv_icmp_eq (tgt := 372) hx hb dL_law_367 (by decide) (fun _ => ?_) (fun c9 => absurd (hthr) c9)
  refine lv_iload hx hb dL_law_372 (lv_at hl 1 rfl) ?_
  refine lv_if_ne (tgt := 389) hx hb dL_law_374 (by decide) (fun c6 => ?_) (fun c6 => ?_)
  · skip
    refine lv_goto (tgt := 1783) hx hb dL_law_389 (by decide) ?_
    refine lv_iinc (v := nI (4 * (j + 1))) (lv' := [(5, .int (nI (4 * (j + 1)))), (7, .int r7), (6, .int r6), (0, .ref b), (1, .ref (ad 92)), (2, .ref (bd 0)), (3, .ref o), (4, .ref o2)]) hx hb dL_law_1783 hl (k := 7) rfl (lw_up j) (by decide) rfl (fun ls hl => ?_)
    refine lv_goto (tgt := 28) hx hb dL_law_1786 (by decide) ?_
    refine W.widen (k := 200 + 4 * (j + 1)) (n := 9000 + 24 * (j + 1)) (by omega) (by omega) ?_
    exact ih _ _ _ _ _ _ _ hR2 hw (lv_sub hl [3, 4, 5, 6, 7, 0] rfl)
  · skip
    have hoo := hout.trans (simI_o hI (hk.symm.trans c6) vp_updL f (fun v : Int32 => v.toInt64))
    try dsimp only at hoo
    refine lv_aload_n hx hb dL_law_377 rfl (lv_at hl 5 rfl) ?_
    refine lv_iconst (v := 0) hx hb dL_law_378 (by decide) ?_
    refine g_laldk (k := 0) rfl X hw 102 rfl (vk rfl) dL_law_379 ?_
    refine lv_iload hx hb dL_law_380 (lv_at hl 0 rfl) ?_
    refine lv_i2l (v := r7.toInt64) hx hb dL_law_382 rfl ?_
    refine W.lcmp hx hb dL_law_383 ?_
    refine lv_if_eq (tgt := 389) hx hb dL_law_384 (by decide) (fun _ => ?_) (fun c9 => absurd (by rw [hoo, hb7]; exact lg_same _) c9)
    refine lv_goto (tgt := 1783) hx hb dL_law_389 (by decide) ?_
    refine lv_iinc (v := nI (4 * (j + 1))) (lv' := [(5, .int (nI (4 * (j + 1)))), (7, .int r7), (6, .int r6), (0, .ref b), (1, .ref (ad 92)), (2, .ref (bd 0)), (3, .ref o), (4, .ref o2)]) hx hb dL_law_1783 hl (k := 7) rfl (lw_up j) (by decide) rfl (fun ls hl => ?_)
    refine lv_goto (tgt := 28) hx hb dL_law_1786 (by decide) ?_
    refine W.widen (k := 200 + 4 * (j + 1)) (n := 9000 + 24 * (j + 1)) (by omega) (by omega) ?_
    exact ih _ _ _ _ _ _ _ hR2 hw (lv_sub hl [3, 4, 5, 6, 7, 0] rfl)
set_option maxHeartbeats 4000000 in
set_option maxRecDepth 100000 in
theorem law_setTrigger {p : Program} {l : Launch} {e : Env} {s : State} {m : MethodId} {below : List Frame} {meth : Method} {c : Code} {D : va_G} {cy : Nat → ClassId} {ss : Nat → Nat} {ad bd : Nat → Nat} {o o2 b L : Nat} {xs : Nat → Int32} (CX : LX p l s m meth c D cy ss b L xs) {j : Nat} (hj : 4 * j + 4 ≤ L) (ih : LH p l e s m below meth c D cy ad bd o o2 b (j + 1)) {C M : CS} {f : Nat → Int64} {g : Nat → UInt64} {H : Heap} {locs : List Loc} {ls : Array Slot} (hR : Rel C M) (hw : gw D (LA s) s.heap (CW cy ad C ++ (oL cy o f :: oD cy o2 g :: MW cy bd M)) H locs) (hl : lv_has ls 9 [(0, .ref b), (1, .ref (ad 92)), (2, .ref (bd 0)), (3, .ref o), (4, .ref o2), (5, .int (nI (4 * j)))]) : W p l e room_1 s m #[Value.ref b] below meth c H locs (200 + 4 * j) (9000 + 24 * j) (lw_Z below #[Value.ref b] s) (F0 m 392 ls []) := by
  obtain ⟨X, hE, hX, hbl, hbA, hlt, hL⟩ := CX
  have hx := X.1
  have hb := X.2.1
  obtain ⟨hS, hI, hR2⟩ := sim_setTrigger hR (xs (nI (4 * j) + 1).toNatClampNeg)
  refine lv_aload_n hx hb dL_law_392 rfl (lv_at hl 1 rfl) ?_
  refine lv_aload_n hx hb dL_law_393 rfl (lv_at hl 0 rfl) ?_
  refine lv_iload hx hb dL_law_394 (lv_at hl 5 rfl) ?_
  refine lv_iconst (v := 1) hx hb dL_law_396 (by decide) ?_
  refine lv_iadd hx hb dL_law_397 ?_
  refine va_sld hx hb hX hbl hbA hw.2.2 (lw_ix 1 hj hL (by decide)) dL_law_398 ?_
  refine lv_aload_n hx hb dL_law_399 rfl (lv_at hl 3 rfl) ?_
  refine gwS_i (rest := []) X hE (c_L_setTrigger l hlt D cy ss ad o (oD cy o2 g :: MW cy bd M) C f (xs (nI (4 * j) + 1).toNatClampNeg)) gy_L_setTrigger gL_law_L_setTrigger ⟨rfl, rfl, Nat.le_of_ble_eq_true rfl, Nat.le_of_ble_eq_true rfl⟩ rfl hl rfl (Nat.le_of_ble_eq_true rfl) dL_law_400 ⟨by show 200 + 4 * j + 1 ≤ 603072; omega, by show 9000 + 24 * j + 6 ≤ 7202922; omega⟩ hw (fun r6 u6 H locs hk hw => ?_)
  obtain ⟨uC, uO⟩ := u6
  obtain ⟨hk, hC, hout⟩ := hk
  have hC : uC = (F_X6_setTrigger C (xs (nI (4 * j) + 1).toNatClampNeg)).2 := hC
  subst hC
  have hw : gw D (LA s) s.heap (CW cy ad (F_X6_setTrigger C (xs (nI (4 * j) + 1).toNatClampNeg)).2 ++ (oL cy o uO :: oD cy o2 g :: MW cy bd M)) H locs := hw
  refine lv_istore (lv' := [(6, .int r6), (0, .ref b), (1, .ref (ad 92)), (2, .ref (bd 0)), (3, .ref o), (4, .ref o2), (5, .int (nI (4 * j)))]) hx hb dL_law_403 hl (by decide) rfl (fun ls hl => ?_)
  refine lv_aload_n hx hb dL_law_405 rfl (lv_at hl 3 rfl) ?_
  refine lv_aload_n hx hb dL_law_406 rfl (lv_at hl 1 rfl) ?_
  refine lv_iload hx hb dL_law_407 (lv_at hl 6 rfl) ?_
  refine lv_iconst (v := 1) hx hb dL_law_409 (by decide) ?_
  refine lv_iadd hx hb dL_law_410 ?_
  refine va_sld hx hb hX hbl hbA hw.2.2 (lw_ix 1 hj hL (by decide)) dL_law_411 ?_
  have hw := gw_lr hw
  refine gcV_i (rest := []) X (c_X7_setTrigger l D cy bd (CW cy ad (F_X6_setTrigger C (xs (nI (4 * j) + 1).toNatClampNeg)).2 ++ [oL cy o uO, oD cy o2 g]) M (xs (nI (4 * j) + 1).toNatClampNeg) hS) gy_X7_setTrigger gL_law_X7_setTrigger ⟨rfl, rfl, Nat.le_of_ble_eq_true rfl, Nat.le_of_ble_eq_true rfl⟩ 0 rfl rfl rfl hl rfl (Nat.le_of_ble_eq_true rfl) dL_law_412 ⟨by show 200 + 4 * j + 1 ≤ 603072; omega, by show 9000 + 24 * j + 6 ≤ 7202922; omega⟩ hw (fun r7 ur7 H locs hr7 hw => ?_)
  obtain ⟨hr7, hM⟩ := hr7
  have hM : ur7 = (F_X7_setTrigger M (xs (nI (4 * j) + 1).toNatClampNeg)).2 := hM
  subst hM
  have hr7 : r7 = (F_X7_setTrigger M (xs (nI (4 * j) + 1).toNatClampNeg)).1 := hr7
  have hw := gw_rl hw
  have hw : gw D (LA s) s.heap (CW cy ad (F_X6_setTrigger C (xs (nI (4 * j) + 1).toNatClampNeg)).2 ++ (oL cy o uO :: oD cy o2 g :: MW cy bd (F_X7_setTrigger M (xs (nI (4 * j) + 1).toNatClampNeg)).2)) H locs := hw
  have hb7 := hr7
  refine lv_istore (lv' := [(7, .int r7), (6, .int r6), (0, .ref b), (1, .ref (ad 92)), (2, .ref (bd 0)), (3, .ref o), (4, .ref o2), (5, .int (nI (4 * j)))]) hx hb dL_law_415 hl (by decide) rfl (fun ls hl => ?_)
  refine lv_aload_n hx hb dL_law_417 rfl (lv_at hl 4 rfl) ?_
  have hw := gw_lr hw
  refine gcV_i (rest := []) X (c_X7_thrown l D cy bd (CW cy ad (F_X6_setTrigger C (xs (nI (4 * j) + 1).toNatClampNeg)).2 ++ [oL cy o uO, oD cy o2 g]) (F_X7_setTrigger M (xs (nI (4 * j) + 1).toNatClampNeg)).2) gy_X7_thrown gL_law_X7_thrown ⟨rfl, rfl, Nat.le_of_ble_eq_true rfl, Nat.le_of_ble_eq_true rfl⟩ 0 rfl rfl rfl hl rfl (Nat.le_of_ble_eq_true rfl) dL_law_418 ⟨by show 200 + 4 * j + 1 ≤ 603072; omega, by show 9000 + 24 * j + 6 ≤ 7202922; omega⟩ hw (fun r9x ur9x H locs hr9x hw => ?_)
  have hr9x : r9x = (F_X7_thrown (F_X7_setTrigger M (xs (nI (4 * j) + 1).toNatClampNeg)).2) := hr9x
  have hw := gw_rl hw
  have hw : gw D (LA s) s.heap (CW cy ad (F_X6_setTrigger C (xs (nI (4 * j) + 1).toNatClampNeg)).2 ++ (oL cy o uO :: oD cy o2 g :: MW cy bd (F_X7_setTrigger M (xs (nI (4 * j) + 1).toNatClampNeg)).2)) H locs := hw
  have hthr : r9x = r6 := by rw [hr9x, hk]; exact (F_X7_thrown.eq_1 _).trans (simI_k hI)
  refine lv_iload hx hb dL_law_421 (lv_at hl 1 rfl) ?_
  refine lv_icmp_eq (tgt := 428) hx hb dL_law_423 (by decide) (fun _ => ?_) (fun c9 => absurd (hthr) c9)
  refine lv_iload hx hb dL_law_428 (lv_at hl 1 rfl) ?_
  refine lv_if_ne (tgt := 445) hx hb dL_law_430 (by decide) (fun c6 => ?_) (fun c6 => ?_)
  · skip
    refine lv_goto (tgt := 1783) hx hb dL_law_445 (by decide) ?_
    refine lv_iinc (v := nI (4 * (j + 1))) (lv' := [(5, .int (nI (4 * (j + 1)))), (7, .int r7), (6, .int r6), (0, .ref b), (1, .ref (ad 92)), (2, .ref (bd 0)), (3, .ref o), (4, .ref o2)]) hx hb dL_law_1783 hl (k := 7) rfl (lw_up j) (by decide) rfl (fun ls hl => ?_)
    refine lv_goto (tgt := 28) hx hb dL_law_1786 (by decide) ?_
    refine W.widen (k := 200 + 4 * (j + 1)) (n := 9000 + 24 * (j + 1)) (by omega) (by omega) ?_
    exact ih _ _ _ _ _ _ _ hR2 hw (lv_sub hl [3, 4, 5, 6, 7, 0] rfl)
  · skip
    have hoo := hout.trans (simI_o hI (hk.symm.trans c6) vp_updL f (fun v : Int32 => v.toInt64))
    try dsimp only at hoo
    refine lv_aload_n hx hb dL_law_433 rfl (lv_at hl 5 rfl) ?_
    refine lv_iconst (v := 0) hx hb dL_law_434 (by decide) ?_
    refine g_laldk (k := 0) rfl X hw 102 rfl (vk rfl) dL_law_435 ?_
    refine lv_iload hx hb dL_law_436 (lv_at hl 0 rfl) ?_
    refine lv_i2l (v := r7.toInt64) hx hb dL_law_438 rfl ?_
    refine W.lcmp hx hb dL_law_439 ?_
    refine lv_if_eq (tgt := 445) hx hb dL_law_440 (by decide) (fun _ => ?_) (fun c9 => absurd (by rw [hoo, hb7]; exact lg_same _) c9)
    refine lv_goto (tgt := 1783) hx hb dL_law_445 (by decide) ?_
    refine lv_iinc (v := nI (4 * (j + 1))) (lv' := [(5, .int (nI (4 * (j + 1)))), (7, .int r7), (6, .int r6), (0, .ref b), (1, .ref (ad 92)), (2, .ref (bd 0)), (3, .ref o), (4, .ref o2)]) hx hb dL_law_1783 hl (k := 7) rfl (lw_up j) (by decide) rfl (fun ls hl => ?_)
    refine lv_goto (tgt := 28) hx hb dL_law_1786 (by decide) ?_
    refine W.widen (k := 200 + 4 * (j + 1)) (n := 9000 + 24 * (j + 1)) (by omega) (by omega) ?_
    exact ih _ _ _ _ _ _ _ hR2 hw (lv_sub hl [3, 4, 5, 6, 7, 0] rfl)
set_option maxHeartbeats 4000000 in
set_option maxRecDepth 100000 in
theorem law_reset {p : Program} {l : Launch} {e : Env} {s : State} {m : MethodId} {below : List Frame} {meth : Method} {c : Code} {D : va_G} {cy : Nat → ClassId} {ss : Nat → Nat} {ad bd : Nat → Nat} {o o2 b L : Nat} {xs : Nat → Int32} (CX : LX p l s m meth c D cy ss b L xs) {j : Nat} (hj : 4 * j + 4 ≤ L) (ih : LH p l e s m below meth c D cy ad bd o o2 b (j + 1)) {C M : CS} {f : Nat → Int64} {g : Nat → UInt64} {H : Heap} {locs : List Loc} {ls : Array Slot} (hR : Rel C M) (hw : gw D (LA s) s.heap (CW cy ad C ++ (oL cy o f :: oD cy o2 g :: MW cy bd M)) H locs) (hl : lv_has ls 9 [(0, .ref b), (1, .ref (ad 92)), (2, .ref (bd 0)), (3, .ref o), (4, .ref o2), (5, .int (nI (4 * j)))]) : W p l e room_1 s m #[Value.ref b] below meth c H locs (200 + 4 * j) (9000 + 24 * j) (lw_Z below #[Value.ref b] s) (F0 m 448 ls []) := by
  obtain ⟨X, hE, hX, hbl, hbA, hlt, hL⟩ := CX
  have hx := X.1
  have hb := X.2.1
  obtain ⟨hS, hI, hR2⟩ := sim_reset hR
  refine lv_aload_n hx hb dL_law_448 rfl (lv_at hl 1 rfl) ?_
  refine gcV_i (rest := []) X (c_X6_reset l D cy ad (oL cy o f :: oD cy o2 g :: MW cy bd M) C) gy_X6_reset gL_law_X6_reset ⟨rfl, rfl, Nat.le_of_ble_eq_true rfl, Nat.le_of_ble_eq_true rfl⟩ 92 rfl rfl rfl hl rfl (Nat.le_of_ble_eq_true rfl) dL_law_449 ⟨by show 200 + 4 * j ≤ 603072; omega, by show 9000 + 24 * j ≤ 7202922; omega⟩ hw (fun r8x ur8x H locs hr8x hw => ?_)
  obtain ⟨hr8x, hC⟩ := hr8x
  have hC : ur8x = (F_X6_reset C).2 := hC
  subst hC
  have hr8x : r8x = (F_X6_reset C).1 := hr8x
  have hw : gw D (LA s) s.heap (CW cy ad (F_X6_reset C).2 ++ (oL cy o f :: oD cy o2 g :: MW cy bd M)) H locs := hw
  refine lv_aload_n hx hb dL_law_452 rfl (lv_at hl 2 rfl) ?_
  have hw := gw_lr hw
  refine gcV_i (rest := [.int r8x]) X (c_X7_reset l D cy bd (CW cy ad (F_X6_reset C).2 ++ [oL cy o f, oD cy o2 g]) M  hS) gy_X7_reset gL_law_X7_reset ⟨rfl, rfl, Nat.le_of_ble_eq_true rfl, Nat.le_of_ble_eq_true rfl⟩ 0 rfl rfl rfl hl rfl (Nat.le_of_ble_eq_true rfl) dL_law_453 ⟨by show 200 + 4 * j ≤ 603072; omega, by show 9000 + 24 * j ≤ 7202922; omega⟩ hw (fun r7 ur7 H locs hr7 hw => ?_)
  obtain ⟨hr7, hM⟩ := hr7
  have hM : ur7 = (F_X7_reset M).2 := hM
  subst hM
  have hr7 : r7 = (F_X7_reset M).1 := hr7
  have hw := gw_rl hw
  have hw : gw D (LA s) s.heap (CW cy ad (F_X6_reset C).2 ++ (oL cy o f :: oD cy o2 g :: MW cy bd (F_X7_reset M).2)) H locs := hw
  have hcmp : r8x = r7 := hr8x.trans (hI.trans hr7.symm)
  refine lv_icmp_eq (tgt := 1783) hx hb dL_law_456 (by decide) (fun _ => ?_) (fun c9 => absurd (hcmp) c9)
  refine lv_iinc (v := nI (4 * (j + 1))) (lv' := [(5, .int (nI (4 * (j + 1)))), (0, .ref b), (1, .ref (ad 92)), (2, .ref (bd 0)), (3, .ref o), (4, .ref o2)]) hx hb dL_law_1783 hl (k := 5) rfl (lw_up j) (by decide) rfl (fun ls hl => ?_)
  refine lv_goto (tgt := 28) hx hb dL_law_1786 (by decide) ?_
  refine W.widen (k := 200 + 4 * (j + 1)) (n := 9000 + 24 * (j + 1)) (by omega) (by omega) ?_
  exact ih _ _ _ _ _ _ _ hR2 hw (lv_sub hl [1, 2, 3, 4, 5, 0] rfl)
