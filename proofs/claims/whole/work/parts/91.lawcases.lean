set_option maxHeartbeats 4000000 in
set_option maxRecDepth 100000 in
theorem law_setGap {p : Program} {l : Launch} {e : Env} {s : State} {m : MethodId} {below : List Frame} {meth : Method} {c : Code} {D : va_G} {cy : Nat → ClassId} {ss : Nat → Nat} {ad bd : Nat → Nat} {o o2 b L : Nat} {xs : Nat → Int32} (CX : LX p l s m meth c D cy ss b L xs) {j : Nat} (hj : 4 * j + 4 ≤ L) (ih : LH p l e s m below meth c D cy ad bd o o2 b (j + 1)) {C M : CS} {f : Nat → Int64} {g : Nat → UInt64} {H : Heap} {locs : List Loc} {ls : Array Slot} (hR : Rel C M) (hw : gw D (LA s) s.heap (CW cy ad C ++ (oL cy o f :: oD cy o2 g :: MW cy bd M)) H locs) (hl : lv_has ls 9 [(0, .ref b), (1, .ref (ad 92)), (2, .ref (bd 0)), (3, .ref o), (4, .ref o2), (5, .int (nI (4 * j)))]) : W p l e room_1 s m #[Value.ref b] below meth c H locs (200 + 4 * j) (9000 + 24 * j) (lw_Z below #[Value.ref b] s) (F0 m 200 ls []) := by
  obtain ⟨X, hE, hX, hbl, hbA, hlt, hL⟩ := CX
  have hx := X.1
  have hb := X.2.1
  obtain ⟨hS, hI, hR2⟩ := sim_setGap hR (xs (nI (4 * j) + 1).toNatClampNeg) (xs (nI (4 * j) + 2).toNatClampNeg)
  refine lv_aload_n hx hb dL_law_200 rfl (lv_at hl 1 rfl) ?_
  refine lv_aload_n hx hb dL_law_201 rfl (lv_at hl 0 rfl) ?_
  refine lv_iload hx hb dL_law_202 (lv_at hl 5 rfl) ?_
  refine lv_iconst (v := 1) hx hb dL_law_204 (by decide) ?_
  refine lv_iadd hx hb dL_law_205 ?_
  refine va_sld hx hb hX hbl hbA hw.2.2 (lw_ix 1 hj hL (by decide)) dL_law_206 ?_
  refine lv_aload_n hx hb dL_law_207 rfl (lv_at hl 0 rfl) ?_
  refine lv_iload hx hb dL_law_208 (lv_at hl 5 rfl) ?_
  refine lv_iconst (v := 2) hx hb dL_law_210 (by decide) ?_
  refine lv_iadd hx hb dL_law_211 ?_
  refine va_sld hx hb hX hbl hbA hw.2.2 (lw_ix 2 hj hL (by decide)) dL_law_212 ?_
  refine lv_aload_n hx hb dL_law_213 rfl (lv_at hl 3 rfl) ?_
  refine gwS_i (rest := []) X hE (c_L_setGap l hlt D cy ss ad o (oD cy o2 g :: MW cy bd M) C f (xs (nI (4 * j) + 1).toNatClampNeg) (xs (nI (4 * j) + 2).toNatClampNeg)) gy_L_setGap gL_law_L_setGap ⟨rfl, rfl, Nat.le_of_ble_eq_true rfl, Nat.le_of_ble_eq_true rfl⟩ rfl hl rfl (Nat.le_of_ble_eq_true rfl) dL_law_214 ⟨by show 200 + 4 * j + 2 ≤ 603072; omega, by show 9000 + 24 * j + 12 ≤ 7202922; omega⟩ hw (fun r6 u6 H locs hk hw => ?_)
  obtain ⟨uC, uO⟩ := u6
  obtain ⟨hk, hC, hout⟩ := hk
  have hC : uC = (F_X6_setGap C (xs (nI (4 * j) + 1).toNatClampNeg) (xs (nI (4 * j) + 2).toNatClampNeg)).2 := hC
  subst hC
  have hw : gw D (LA s) s.heap (CW cy ad (F_X6_setGap C (xs (nI (4 * j) + 1).toNatClampNeg) (xs (nI (4 * j) + 2).toNatClampNeg)).2 ++ (oL cy o uO :: oD cy o2 g :: MW cy bd M)) H locs := hw
  refine lv_istore (lv' := [(6, .int r6), (0, .ref b), (1, .ref (ad 92)), (2, .ref (bd 0)), (3, .ref o), (4, .ref o2), (5, .int (nI (4 * j)))]) hx hb dL_law_217 hl (by decide) rfl (fun ls hl => ?_)
  refine lv_aload_n hx hb dL_law_219 rfl (lv_at hl 3 rfl) ?_
  refine lv_aload_n hx hb dL_law_220 rfl (lv_at hl 1 rfl) ?_
  refine lv_iload hx hb dL_law_221 (lv_at hl 6 rfl) ?_
  refine lv_iconst (v := 1) hx hb dL_law_223 (by decide) ?_
  refine lv_iadd hx hb dL_law_224 ?_
  refine va_sld hx hb hX hbl hbA hw.2.2 (lw_ix 1 hj hL (by decide)) dL_law_225 ?_
  refine lv_aload_n hx hb dL_law_226 rfl (lv_at hl 1 rfl) ?_
  refine lv_iload hx hb dL_law_227 (lv_at hl 6 rfl) ?_
  refine lv_iconst (v := 2) hx hb dL_law_229 (by decide) ?_
  refine lv_iadd hx hb dL_law_230 ?_
  refine va_sld hx hb hX hbl hbA hw.2.2 (lw_ix 2 hj hL (by decide)) dL_law_231 ?_
  have hw := gw_lr hw
  refine gcV_i (rest := []) X (c_X7_setGap l D cy bd (CW cy ad (F_X6_setGap C (xs (nI (4 * j) + 1).toNatClampNeg) (xs (nI (4 * j) + 2).toNatClampNeg)).2 ++ [oL cy o uO, oD cy o2 g]) M (xs (nI (4 * j) + 1).toNatClampNeg) (xs (nI (4 * j) + 2).toNatClampNeg) hS) gy_X7_setGap gL_law_X7_setGap ⟨rfl, rfl, Nat.le_of_ble_eq_true rfl, Nat.le_of_ble_eq_true rfl⟩ 0 rfl rfl rfl hl rfl (Nat.le_of_ble_eq_true rfl) dL_law_232 ⟨by show 200 + 4 * j + 2 ≤ 603072; omega, by show 9000 + 24 * j + 12 ≤ 7202922; omega⟩ hw (fun r7 ur7 H locs hr7 hw => ?_)
  obtain ⟨hr7, hM⟩ := hr7
  have hM : ur7 = (F_X7_setGap M (xs (nI (4 * j) + 1).toNatClampNeg) (xs (nI (4 * j) + 2).toNatClampNeg)).2 := hM
  subst hM
  have hr7 : r7 = (F_X7_setGap M (xs (nI (4 * j) + 1).toNatClampNeg) (xs (nI (4 * j) + 2).toNatClampNeg)).1 := hr7
  have hw := gw_rl hw
  have hw : gw D (LA s) s.heap (CW cy ad (F_X6_setGap C (xs (nI (4 * j) + 1).toNatClampNeg) (xs (nI (4 * j) + 2).toNatClampNeg)).2 ++ (oL cy o uO :: oD cy o2 g :: MW cy bd (F_X7_setGap M (xs (nI (4 * j) + 1).toNatClampNeg) (xs (nI (4 * j) + 2).toNatClampNeg)).2)) H locs := hw
  have hb7 := hr7
  refine lv_istore (lv' := [(7, .int r7), (6, .int r6), (0, .ref b), (1, .ref (ad 92)), (2, .ref (bd 0)), (3, .ref o), (4, .ref o2), (5, .int (nI (4 * j)))]) hx hb dL_law_235 hl (by decide) rfl (fun ls hl => ?_)
  refine lv_aload_n hx hb dL_law_237 rfl (lv_at hl 4 rfl) ?_
  have hw := gw_lr hw
  refine gcV_i (rest := []) X (c_X7_thrown l D cy bd (CW cy ad (F_X6_setGap C (xs (nI (4 * j) + 1).toNatClampNeg) (xs (nI (4 * j) + 2).toNatClampNeg)).2 ++ [oL cy o uO, oD cy o2 g]) (F_X7_setGap M (xs (nI (4 * j) + 1).toNatClampNeg) (xs (nI (4 * j) + 2).toNatClampNeg)).2) gy_X7_thrown gL_law_X7_thrown ⟨rfl, rfl, Nat.le_of_ble_eq_true rfl, Nat.le_of_ble_eq_true rfl⟩ 0 rfl rfl rfl hl rfl (Nat.le_of_ble_eq_true rfl) dL_law_238 ⟨by show 200 + 4 * j + 2 ≤ 603072; omega, by show 9000 + 24 * j + 12 ≤ 7202922; omega⟩ hw (fun r9x ur9x H locs hr9x hw => ?_)
  have hr9x : r9x = (F_X7_thrown (F_X7_setGap M (xs (nI (4 * j) + 1).toNatClampNeg) (xs (nI (4 * j) + 2).toNatClampNeg)).2) := hr9x
  have hw := gw_rl hw
  have hw : gw D (LA s) s.heap (CW cy ad (F_X6_setGap C (xs (nI (4 * j) + 1).toNatClampNeg) (xs (nI (4 * j) + 2).toNatClampNeg)).2 ++ (oL cy o uO :: oD cy o2 g :: MW cy bd (F_X7_setGap M (xs (nI (4 * j) + 1).toNatClampNeg) (xs (nI (4 * j) + 2).toNatClampNeg)).2)) H locs := hw
  have hthr : r9x = r6 := by rw [hr9x, hk]; exact (F_X7_thrown.eq_1 _).trans (simI_k hI)
  refine lv_iload hx hb dL_law_241 (lv_at hl 1 rfl) ?_
  refine lv_icmp_eq (tgt := 248) hx hb dL_law_243 (by decide) (fun _ => ?_) (fun c9 => absurd (hthr) c9)
  refine lv_iload hx hb dL_law_248 (lv_at hl 1 rfl) ?_
  refine lv_if_ne (tgt := 265) hx hb dL_law_250 (by decide) (fun c6 => ?_) (fun c6 => ?_)
  · skip
    refine lv_goto (tgt := 1783) hx hb dL_law_265 (by decide) ?_
    refine lv_iinc (v := nI (4 * (j + 1))) (lv' := [(5, .int (nI (4 * (j + 1)))), (7, .int r7), (6, .int r6), (0, .ref b), (1, .ref (ad 92)), (2, .ref (bd 0)), (3, .ref o), (4, .ref o2)]) hx hb dL_law_1783 hl (k := 7) rfl (lw_up j) (by decide) rfl (fun ls hl => ?_)
    refine lv_goto (tgt := 28) hx hb dL_law_1786 (by decide) ?_
    refine W.widen (k := 200 + 4 * (j + 1)) (n := 9000 + 24 * (j + 1)) (by omega) (by omega) ?_
    exact ih _ _ _ _ _ _ _ hR2 hw (lv_sub hl [3, 4, 5, 6, 7, 0] rfl)
  · skip
    have hoo := hout.trans (simI_o hI (hk.symm.trans c6) vp_updL f (fun v : Int32 => v.toInt64))
    refine lv_aload_n hx hb dL_law_253 rfl (lv_at hl 5 rfl) ?_
    refine lv_iconst (v := 0) hx hb dL_law_254 (by decide) ?_
    refine g_laldk (k := 0) rfl X hw 102 rfl (vk rfl) dL_law_255 ?_
    refine lv_iload hx hb dL_law_256 (lv_at hl 0 rfl) ?_
    refine lv_i2l (v := r7.toInt64) hx hb dL_law_258 rfl ?_
    refine W.lcmp hx hb dL_law_259 ?_
    refine lv_if_eq (tgt := 265) hx hb dL_law_260 (by decide) (fun _ => ?_) (fun c9 => absurd (by rw [hoo, hb7]; exact lg_same _) c9)
    refine lv_goto (tgt := 1783) hx hb dL_law_265 (by decide) ?_
    refine lv_iinc (v := nI (4 * (j + 1))) (lv' := [(5, .int (nI (4 * (j + 1)))), (7, .int r7), (6, .int r6), (0, .ref b), (1, .ref (ad 92)), (2, .ref (bd 0)), (3, .ref o), (4, .ref o2)]) hx hb dL_law_1783 hl (k := 7) rfl (lw_up j) (by decide) rfl (fun ls hl => ?_)
    refine lv_goto (tgt := 28) hx hb dL_law_1786 (by decide) ?_
    refine W.widen (k := 200 + 4 * (j + 1)) (n := 9000 + 24 * (j + 1)) (by omega) (by omega) ?_
    exact ih _ _ _ _ _ _ _ hR2 hw (lv_sub hl [3, 4, 5, 6, 7, 0] rfl)
set_option maxHeartbeats 4000000 in
set_option maxRecDepth 100000 in
theorem law_setFold {p : Program} {l : Launch} {e : Env} {s : State} {m : MethodId} {below : List Frame} {meth : Method} {c : Code} {D : va_G} {cy : Nat → ClassId} {ss : Nat → Nat} {ad bd : Nat → Nat} {o o2 b L : Nat} {xs : Nat → Int32} (CX : LX p l s m meth c D cy ss b L xs) {j : Nat} (hj : 4 * j + 4 ≤ L) (ih : LH p l e s m below meth c D cy ad bd o o2 b (j + 1)) {C M : CS} {f : Nat → Int64} {g : Nat → UInt64} {H : Heap} {locs : List Loc} {ls : Array Slot} (hR : Rel C M) (hw : gw D (LA s) s.heap (CW cy ad C ++ (oL cy o f :: oD cy o2 g :: MW cy bd M)) H locs) (hl : lv_has ls 9 [(0, .ref b), (1, .ref (ad 92)), (2, .ref (bd 0)), (3, .ref o), (4, .ref o2), (5, .int (nI (4 * j)))]) : W p l e room_1 s m #[Value.ref b] below meth c H locs (200 + 4 * j) (9000 + 24 * j) (lw_Z below #[Value.ref b] s) (F0 m 268 ls []) := by
  obtain ⟨X, hE, hX, hbl, hbA, hlt, hL⟩ := CX
  have hx := X.1
  have hb := X.2.1
  obtain ⟨hS, hI, hR2⟩ := sim_setFold hR (xs (nI (4 * j) + 1).toNatClampNeg) (xs (nI (4 * j) + 2).toNatClampNeg)
  refine lv_aload_n hx hb dL_law_268 rfl (lv_at hl 1 rfl) ?_
  refine lv_aload_n hx hb dL_law_269 rfl (lv_at hl 0 rfl) ?_
  refine lv_iload hx hb dL_law_270 (lv_at hl 5 rfl) ?_
  refine lv_iconst (v := 1) hx hb dL_law_272 (by decide) ?_
  refine lv_iadd hx hb dL_law_273 ?_
  refine va_sld hx hb hX hbl hbA hw.2.2 (lw_ix 1 hj hL (by decide)) dL_law_274 ?_
  refine lv_aload_n hx hb dL_law_275 rfl (lv_at hl 0 rfl) ?_
  refine lv_iload hx hb dL_law_276 (lv_at hl 5 rfl) ?_
  refine lv_iconst (v := 2) hx hb dL_law_278 (by decide) ?_
  refine lv_iadd hx hb dL_law_279 ?_
  refine va_sld hx hb hX hbl hbA hw.2.2 (lw_ix 2 hj hL (by decide)) dL_law_280 ?_
  refine lv_aload_n hx hb dL_law_281 rfl (lv_at hl 3 rfl) ?_
  refine gwS_i (rest := []) X hE (c_L_setFold l hlt D cy ss ad o (oD cy o2 g :: MW cy bd M) C f (xs (nI (4 * j) + 1).toNatClampNeg) (xs (nI (4 * j) + 2).toNatClampNeg)) gy_L_setFold gL_law_L_setFold ⟨rfl, rfl, Nat.le_of_ble_eq_true rfl, Nat.le_of_ble_eq_true rfl⟩ rfl hl rfl (Nat.le_of_ble_eq_true rfl) dL_law_282 ⟨by show 200 + 4 * j + 2 ≤ 603072; omega, by show 9000 + 24 * j + 12 ≤ 7202922; omega⟩ hw (fun r6 u6 H locs hk hw => ?_)
  obtain ⟨uC, uO⟩ := u6
  obtain ⟨hk, hC, hout⟩ := hk
  have hC : uC = (F_X6_setFold C (xs (nI (4 * j) + 1).toNatClampNeg) (xs (nI (4 * j) + 2).toNatClampNeg)).2 := hC
  subst hC
  have hw : gw D (LA s) s.heap (CW cy ad (F_X6_setFold C (xs (nI (4 * j) + 1).toNatClampNeg) (xs (nI (4 * j) + 2).toNatClampNeg)).2 ++ (oL cy o uO :: oD cy o2 g :: MW cy bd M)) H locs := hw
  refine lv_istore (lv' := [(6, .int r6), (0, .ref b), (1, .ref (ad 92)), (2, .ref (bd 0)), (3, .ref o), (4, .ref o2), (5, .int (nI (4 * j)))]) hx hb dL_law_285 hl (by decide) rfl (fun ls hl => ?_)
  refine lv_aload_n hx hb dL_law_287 rfl (lv_at hl 3 rfl) ?_
  refine lv_aload_n hx hb dL_law_288 rfl (lv_at hl 1 rfl) ?_
  refine lv_iload hx hb dL_law_289 (lv_at hl 6 rfl) ?_
  refine lv_iconst (v := 1) hx hb dL_law_291 (by decide) ?_
  refine lv_iadd hx hb dL_law_292 ?_
  refine va_sld hx hb hX hbl hbA hw.2.2 (lw_ix 1 hj hL (by decide)) dL_law_293 ?_
  refine lv_aload_n hx hb dL_law_294 rfl (lv_at hl 1 rfl) ?_
  refine lv_iload hx hb dL_law_295 (lv_at hl 6 rfl) ?_
  refine lv_iconst (v := 2) hx hb dL_law_297 (by decide) ?_
  refine lv_iadd hx hb dL_law_298 ?_
  refine va_sld hx hb hX hbl hbA hw.2.2 (lw_ix 2 hj hL (by decide)) dL_law_299 ?_
  have hw := gw_lr hw
  refine gcV_i (rest := []) X (c_X7_setFold l D cy bd (CW cy ad (F_X6_setFold C (xs (nI (4 * j) + 1).toNatClampNeg) (xs (nI (4 * j) + 2).toNatClampNeg)).2 ++ [oL cy o uO, oD cy o2 g]) M (xs (nI (4 * j) + 1).toNatClampNeg) (xs (nI (4 * j) + 2).toNatClampNeg) hS) gy_X7_setFold gL_law_X7_setFold ⟨rfl, rfl, Nat.le_of_ble_eq_true rfl, Nat.le_of_ble_eq_true rfl⟩ 0 rfl rfl rfl hl rfl (Nat.le_of_ble_eq_true rfl) dL_law_300 ⟨by show 200 + 4 * j + 2 ≤ 603072; omega, by show 9000 + 24 * j + 12 ≤ 7202922; omega⟩ hw (fun r7 ur7 H locs hr7 hw => ?_)
  obtain ⟨hr7, hM⟩ := hr7
  have hM : ur7 = (F_X7_setFold M (xs (nI (4 * j) + 1).toNatClampNeg) (xs (nI (4 * j) + 2).toNatClampNeg)).2 := hM
  subst hM
  have hr7 : r7 = (F_X7_setFold M (xs (nI (4 * j) + 1).toNatClampNeg) (xs (nI (4 * j) + 2).toNatClampNeg)).1 := hr7
  have hw := gw_rl hw
  have hw : gw D (LA s) s.heap (CW cy ad (F_X6_setFold C (xs (nI (4 * j) + 1).toNatClampNeg) (xs (nI (4 * j) + 2).toNatClampNeg)).2 ++ (oL cy o uO :: oD cy o2 g :: MW cy bd (F_X7_setFold M (xs (nI (4 * j) + 1).toNatClampNeg) (xs (nI (4 * j) + 2).toNatClampNeg)).2)) H locs := hw
  have hb7 := hr7
  refine lv_istore (lv' := [(7, .int r7), (6, .int r6), (0, .ref b), (1, .ref (ad 92)), (2, .ref (bd 0)), (3, .ref o), (4, .ref o2), (5, .int (nI (4 * j)))]) hx hb dL_law_303 hl (by decide) rfl (fun ls hl => ?_)
  refine lv_aload_n hx hb dL_law_305 rfl (lv_at hl 4 rfl) ?_
  have hw := gw_lr hw
  refine gcV_i (rest := []) X (c_X7_thrown l D cy bd (CW cy ad (F_X6_setFold C (xs (nI (4 * j) + 1).toNatClampNeg) (xs (nI (4 * j) + 2).toNatClampNeg)).2 ++ [oL cy o uO, oD cy o2 g]) (F_X7_setFold M (xs (nI (4 * j) + 1).toNatClampNeg) (xs (nI (4 * j) + 2).toNatClampNeg)).2) gy_X7_thrown gL_law_X7_thrown ⟨rfl, rfl, Nat.le_of_ble_eq_true rfl, Nat.le_of_ble_eq_true rfl⟩ 0 rfl rfl rfl hl rfl (Nat.le_of_ble_eq_true rfl) dL_law_306 ⟨by show 200 + 4 * j + 2 ≤ 603072; omega, by show 9000 + 24 * j + 12 ≤ 7202922; omega⟩ hw (fun r9x ur9x H locs hr9x hw => ?_)
  have hr9x : r9x = (F_X7_thrown (F_X7_setFold M (xs (nI (4 * j) + 1).toNatClampNeg) (xs (nI (4 * j) + 2).toNatClampNeg)).2) := hr9x
  have hw := gw_rl hw
  have hw : gw D (LA s) s.heap (CW cy ad (F_X6_setFold C (xs (nI (4 * j) + 1).toNatClampNeg) (xs (nI (4 * j) + 2).toNatClampNeg)).2 ++ (oL cy o uO :: oD cy o2 g :: MW cy bd (F_X7_setFold M (xs (nI (4 * j) + 1).toNatClampNeg) (xs (nI (4 * j) + 2).toNatClampNeg)).2)) H locs := hw
  have hthr : r9x = r6 := by rw [hr9x, hk]; exact (F_X7_thrown.eq_1 _).trans (simI_k hI)
  refine lv_iload hx hb dL_law_309 (lv_at hl 1 rfl) ?_
  refine lv_icmp_eq (tgt := 316) hx hb dL_law_311 (by decide) (fun _ => ?_) (fun c9 => absurd (hthr) c9)
  refine lv_iload hx hb dL_law_316 (lv_at hl 1 rfl) ?_
  refine lv_if_ne (tgt := 333) hx hb dL_law_318 (by decide) (fun c6 => ?_) (fun c6 => ?_)
  · skip
    refine lv_goto (tgt := 1783) hx hb dL_law_333 (by decide) ?_
    refine lv_iinc (v := nI (4 * (j + 1))) (lv' := [(5, .int (nI (4 * (j + 1)))), (7, .int r7), (6, .int r6), (0, .ref b), (1, .ref (ad 92)), (2, .ref (bd 0)), (3, .ref o), (4, .ref o2)]) hx hb dL_law_1783 hl (k := 7) rfl (lw_up j) (by decide) rfl (fun ls hl => ?_)
    refine lv_goto (tgt := 28) hx hb dL_law_1786 (by decide) ?_
    refine W.widen (k := 200 + 4 * (j + 1)) (n := 9000 + 24 * (j + 1)) (by omega) (by omega) ?_
    exact ih _ _ _ _ _ _ _ hR2 hw (lv_sub hl [3, 4, 5, 6, 7, 0] rfl)
  · skip
    have hoo := hout.trans (simI_o hI (hk.symm.trans c6) vp_updL f (fun v : Int32 => v.toInt64))
    refine lv_aload_n hx hb dL_law_321 rfl (lv_at hl 5 rfl) ?_
    refine lv_iconst (v := 0) hx hb dL_law_322 (by decide) ?_
    refine g_laldk (k := 0) rfl X hw 102 rfl (vk rfl) dL_law_323 ?_
    refine lv_iload hx hb dL_law_324 (lv_at hl 0 rfl) ?_
    refine lv_i2l (v := r7.toInt64) hx hb dL_law_326 rfl ?_
    refine W.lcmp hx hb dL_law_327 ?_
    refine lv_if_eq (tgt := 333) hx hb dL_law_328 (by decide) (fun _ => ?_) (fun c9 => absurd (by rw [hoo, hb7]; exact lg_same _) c9)
    refine lv_goto (tgt := 1783) hx hb dL_law_333 (by decide) ?_
    refine lv_iinc (v := nI (4 * (j + 1))) (lv' := [(5, .int (nI (4 * (j + 1)))), (7, .int r7), (6, .int r6), (0, .ref b), (1, .ref (ad 92)), (2, .ref (bd 0)), (3, .ref o), (4, .ref o2)]) hx hb dL_law_1783 hl (k := 7) rfl (lw_up j) (by decide) rfl (fun ls hl => ?_)
    refine lv_goto (tgt := 28) hx hb dL_law_1786 (by decide) ?_
    refine W.widen (k := 200 + 4 * (j + 1)) (n := 9000 + 24 * (j + 1)) (by omega) (by omega) ?_
    exact ih _ _ _ _ _ _ _ hR2 hw (lv_sub hl [3, 4, 5, 6, 7, 0] rfl)
set_option maxHeartbeats 4000000 in
set_option maxRecDepth 100000 in
theorem law_setLateness {p : Program} {l : Launch} {e : Env} {s : State} {m : MethodId} {below : List Frame} {meth : Method} {c : Code} {D : va_G} {cy : Nat → ClassId} {ss : Nat → Nat} {ad bd : Nat → Nat} {o o2 b L : Nat} {xs : Nat → Int32} (CX : LX p l s m meth c D cy ss b L xs) {j : Nat} (hj : 4 * j + 4 ≤ L) (ih : LH p l e s m below meth c D cy ad bd o o2 b (j + 1)) {C M : CS} {f : Nat → Int64} {g : Nat → UInt64} {H : Heap} {locs : List Loc} {ls : Array Slot} (hR : Rel C M) (hw : gw D (LA s) s.heap (CW cy ad C ++ (oL cy o f :: oD cy o2 g :: MW cy bd M)) H locs) (hl : lv_has ls 9 [(0, .ref b), (1, .ref (ad 92)), (2, .ref (bd 0)), (3, .ref o), (4, .ref o2), (5, .int (nI (4 * j)))]) : W p l e room_1 s m #[Value.ref b] below meth c H locs (200 + 4 * j) (9000 + 24 * j) (lw_Z below #[Value.ref b] s) (F0 m 336 ls []) := by
  obtain ⟨X, hE, hX, hbl, hbA, hlt, hL⟩ := CX
  have hx := X.1
  have hb := X.2.1
  obtain ⟨hS, hI, hR2⟩ := sim_setLateness hR (xs (nI (4 * j) + 1).toNatClampNeg)
  refine lv_aload_n hx hb dL_law_336 rfl (lv_at hl 1 rfl) ?_
  refine lv_aload_n hx hb dL_law_337 rfl (lv_at hl 0 rfl) ?_
  refine lv_iload hx hb dL_law_338 (lv_at hl 5 rfl) ?_
  refine lv_iconst (v := 1) hx hb dL_law_340 (by decide) ?_
  refine lv_iadd hx hb dL_law_341 ?_
  refine va_sld hx hb hX hbl hbA hw.2.2 (lw_ix 1 hj hL (by decide)) dL_law_342 ?_
  refine lv_aload_n hx hb dL_law_343 rfl (lv_at hl 3 rfl) ?_
  refine gwS_i (rest := []) X hE (c_L_setLateness l hlt D cy ss ad o (oD cy o2 g :: MW cy bd M) C f (xs (nI (4 * j) + 1).toNatClampNeg)) gy_L_setLateness gL_law_L_setLateness ⟨rfl, rfl, Nat.le_of_ble_eq_true rfl, Nat.le_of_ble_eq_true rfl⟩ rfl hl rfl (Nat.le_of_ble_eq_true rfl) dL_law_344 ⟨by show 200 + 4 * j + 1 ≤ 603072; omega, by show 9000 + 24 * j + 6 ≤ 7202922; omega⟩ hw (fun r6 u6 H locs hk hw => ?_)
  obtain ⟨uC, uO⟩ := u6
  obtain ⟨hk, hC, hout⟩ := hk
  have hC : uC = (F_X6_setLateness C (xs (nI (4 * j) + 1).toNatClampNeg)).2 := hC
  subst hC
  have hw : gw D (LA s) s.heap (CW cy ad (F_X6_setLateness C (xs (nI (4 * j) + 1).toNatClampNeg)).2 ++ (oL cy o uO :: oD cy o2 g :: MW cy bd M)) H locs := hw
  refine lv_istore (lv' := [(6, .int r6), (0, .ref b), (1, .ref (ad 92)), (2, .ref (bd 0)), (3, .ref o), (4, .ref o2), (5, .int (nI (4 * j)))]) hx hb dL_law_347 hl (by decide) rfl (fun ls hl => ?_)
  refine lv_aload_n hx hb dL_law_349 rfl (lv_at hl 3 rfl) ?_
  refine lv_aload_n hx hb dL_law_350 rfl (lv_at hl 1 rfl) ?_
  refine lv_iload hx hb dL_law_351 (lv_at hl 6 rfl) ?_
  refine lv_iconst (v := 1) hx hb dL_law_353 (by decide) ?_
  refine lv_iadd hx hb dL_law_354 ?_
  refine va_sld hx hb hX hbl hbA hw.2.2 (lw_ix 1 hj hL (by decide)) dL_law_355 ?_
  have hw := gw_lr hw
  refine gcV_i (rest := []) X (c_X7_setLateness l D cy bd (CW cy ad (F_X6_setLateness C (xs (nI (4 * j) + 1).toNatClampNeg)).2 ++ [oL cy o uO, oD cy o2 g]) M (xs (nI (4 * j) + 1).toNatClampNeg) hS) gy_X7_setLateness gL_law_X7_setLateness ⟨rfl, rfl, Nat.le_of_ble_eq_true rfl, Nat.le_of_ble_eq_true rfl⟩ 0 rfl rfl rfl hl rfl (Nat.le_of_ble_eq_true rfl) dL_law_356 ⟨by show 200 + 4 * j + 1 ≤ 603072; omega, by show 9000 + 24 * j + 6 ≤ 7202922; omega⟩ hw (fun r7 ur7 H locs hr7 hw => ?_)
  obtain ⟨hr7, hM⟩ := hr7
  have hM : ur7 = (F_X7_setLateness M (xs (nI (4 * j) + 1).toNatClampNeg)).2 := hM
  subst hM
  have hr7 : r7 = (F_X7_setLateness M (xs (nI (4 * j) + 1).toNatClampNeg)).1 := hr7
  have hw := gw_rl hw
  have hw : gw D (LA s) s.heap (CW cy ad (F_X6_setLateness C (xs (nI (4 * j) + 1).toNatClampNeg)).2 ++ (oL cy o uO :: oD cy o2 g :: MW cy bd (F_X7_setLateness M (xs (nI (4 * j) + 1).toNatClampNeg)).2)) H locs := hw
  have hb7 := hr7
  refine lv_istore (lv' := [(7, .int r7), (6, .int r6), (0, .ref b), (1, .ref (ad 92)), (2, .ref (bd 0)), (3, .ref o), (4, .ref o2), (5, .int (nI (4 * j)))]) hx hb dL_law_359 hl (by decide) rfl (fun ls hl => ?_)
  refine lv_aload_n hx hb dL_law_361 rfl (lv_at hl 4 rfl) ?_
  have hw := gw_lr hw
  refine gcV_i (rest := []) X (c_X7_thrown l D cy bd (CW cy ad (F_X6_setLateness C (xs (nI (4 * j) + 1).toNatClampNeg)).2 ++ [oL cy o uO, oD cy o2 g]) (F_X7_setLateness M (xs (nI (4 * j) + 1).toNatClampNeg)).2) gy_X7_thrown gL_law_X7_thrown ⟨rfl, rfl, Nat.le_of_ble_eq_true rfl, Nat.le_of_ble_eq_true rfl⟩ 0 rfl rfl rfl hl rfl (Nat.le_of_ble_eq_true rfl) dL_law_362 ⟨by show 200 + 4 * j + 1 ≤ 603072; omega, by show 9000 + 24 * j + 6 ≤ 7202922; omega⟩ hw (fun r9x ur9x H locs hr9x hw => ?_)
  have hr9x : r9x = (F_X7_thrown (F_X7_setLateness M (xs (nI (4 * j) + 1).toNatClampNeg)).2) := hr9x
  have hw := gw_rl hw
  have hw : gw D (LA s) s.heap (CW cy ad (F_X6_setLateness C (xs (nI (4 * j) + 1).toNatClampNeg)).2 ++ (oL cy o uO :: oD cy o2 g :: MW cy bd (F_X7_setLateness M (xs (nI (4 * j) + 1).toNatClampNeg)).2)) H locs := hw
  have hthr : r9x = r6 := by rw [hr9x, hk]; exact (F_X7_thrown.eq_1 _).trans (simI_k hI)
  refine lv_iload hx hb dL_law_365 (lv_at hl 1 rfl) ?_
  refine lv_icmp_eq (tgt := 372) hx hb dL_law_367 (by decide) (fun _ => ?_) (fun c9 => absurd (hthr) c9)
  refine lv_iload hx hb dL_law_372 (lv_at hl 1 rfl) ?_
  refine lv_if_ne (tgt := 389) hx hb dL_law_374 (by decide) (fun c6 => ?_) (fun c6 => ?_)
  · skip
    refine lv_goto (tgt := 1783) hx hb dL_law_389 (by decide) ?_
    refine lv_iinc (v := nI (4 * (j + 1))) (lv' := [(5, .int (nI (4 * (j + 1)))), (7, .int r7), (6, .int r6), (0, .ref b), (1, .ref (ad 92)), (2, .ref (bd 0)), (3, .ref o), (4, .ref o2)]) hx hb dL_law_1783 hl (k := 7) rfl (lw_up j) (by decide) rfl (fun ls hl => ?_)
    refine lv_goto (tgt := 28) hx hb dL_law_1786 (by decide) ?_
    refine W.widen (k := 200 + 4 * (j + 1)) (n := 9000 + 24 * (j + 1)) (by omega) (by omega) ?_
    exact ih _ _ _ _ _ _ _ hR2 hw (lv_sub hl [3, 4, 5, 6, 7, 0] rfl)
  · skip
    have hoo := hout.trans (simI_o hI (hk.symm.trans c6) vp_updL f (fun v : Int32 => v.toInt64))
    refine lv_aload_n hx hb dL_law_377 rfl (lv_at hl 5 rfl) ?_
    refine lv_iconst (v := 0) hx hb dL_law_378 (by decide) ?_
    refine g_laldk (k := 0) rfl X hw 102 rfl (vk rfl) dL_law_379 ?_
    refine lv_iload hx hb dL_law_380 (lv_at hl 0 rfl) ?_
    refine lv_i2l (v := r7.toInt64) hx hb dL_law_382 rfl ?_
    refine W.lcmp hx hb dL_law_383 ?_
    refine lv_if_eq (tgt := 389) hx hb dL_law_384 (by decide) (fun _ => ?_) (fun c9 => absurd (by rw [hoo, hb7]; exact lg_same _) c9)
    refine lv_goto (tgt := 1783) hx hb dL_law_389 (by decide) ?_
    refine lv_iinc (v := nI (4 * (j + 1))) (lv' := [(5, .int (nI (4 * (j + 1)))), (7, .int r7), (6, .int r6), (0, .ref b), (1, .ref (ad 92)), (2, .ref (bd 0)), (3, .ref o), (4, .ref o2)]) hx hb dL_law_1783 hl (k := 7) rfl (lw_up j) (by decide) rfl (fun ls hl => ?_)
    refine lv_goto (tgt := 28) hx hb dL_law_1786 (by decide) ?_
    refine W.widen (k := 200 + 4 * (j + 1)) (n := 9000 + 24 * (j + 1)) (by omega) (by omega) ?_
    exact ih _ _ _ _ _ _ _ hR2 hw (lv_sub hl [3, 4, 5, 6, 7, 0] rfl)
set_option maxHeartbeats 4000000 in
set_option maxRecDepth 100000 in
theorem law_setTrigger {p : Program} {l : Launch} {e : Env} {s : State} {m : MethodId} {below : List Frame} {meth : Method} {c : Code} {D : va_G} {cy : Nat → ClassId} {ss : Nat → Nat} {ad bd : Nat → Nat} {o o2 b L : Nat} {xs : Nat → Int32} (CX : LX p l s m meth c D cy ss b L xs) {j : Nat} (hj : 4 * j + 4 ≤ L) (ih : LH p l e s m below meth c D cy ad bd o o2 b (j + 1)) {C M : CS} {f : Nat → Int64} {g : Nat → UInt64} {H : Heap} {locs : List Loc} {ls : Array Slot} (hR : Rel C M) (hw : gw D (LA s) s.heap (CW cy ad C ++ (oL cy o f :: oD cy o2 g :: MW cy bd M)) H locs) (hl : lv_has ls 9 [(0, .ref b), (1, .ref (ad 92)), (2, .ref (bd 0)), (3, .ref o), (4, .ref o2), (5, .int (nI (4 * j)))]) : W p l e room_1 s m #[Value.ref b] below meth c H locs (200 + 4 * j) (9000 + 24 * j) (lw_Z below #[Value.ref b] s) (F0 m 392 ls []) := by
  obtain ⟨X, hE, hX, hbl, hbA, hlt, hL⟩ := CX
  have hx := X.1
  have hb := X.2.1
  obtain ⟨hS, hI, hR2⟩ := sim_setTrigger hR (xs (nI (4 * j) + 1).toNatClampNeg)
  refine lv_aload_n hx hb dL_law_392 rfl (lv_at hl 1 rfl) ?_
  refine lv_aload_n hx hb dL_law_393 rfl (lv_at hl 0 rfl) ?_
  refine lv_iload hx hb dL_law_394 (lv_at hl 5 rfl) ?_
  refine lv_iconst (v := 1) hx hb dL_law_396 (by decide) ?_
  refine lv_iadd hx hb dL_law_397 ?_
  refine va_sld hx hb hX hbl hbA hw.2.2 (lw_ix 1 hj hL (by decide)) dL_law_398 ?_
  refine lv_aload_n hx hb dL_law_399 rfl (lv_at hl 3 rfl) ?_
  refine gwS_i (rest := []) X hE (c_L_setTrigger l hlt D cy ss ad o (oD cy o2 g :: MW cy bd M) C f (xs (nI (4 * j) + 1).toNatClampNeg)) gy_L_setTrigger gL_law_L_setTrigger ⟨rfl, rfl, Nat.le_of_ble_eq_true rfl, Nat.le_of_ble_eq_true rfl⟩ rfl hl rfl (Nat.le_of_ble_eq_true rfl) dL_law_400 ⟨by show 200 + 4 * j + 1 ≤ 603072; omega, by show 9000 + 24 * j + 6 ≤ 7202922; omega⟩ hw (fun r6 u6 H locs hk hw => ?_)
  obtain ⟨uC, uO⟩ := u6
  obtain ⟨hk, hC, hout⟩ := hk
  have hC : uC = (F_X6_setTrigger C (xs (nI (4 * j) + 1).toNatClampNeg)).2 := hC
  subst hC
  have hw : gw D (LA s) s.heap (CW cy ad (F_X6_setTrigger C (xs (nI (4 * j) + 1).toNatClampNeg)).2 ++ (oL cy o uO :: oD cy o2 g :: MW cy bd M)) H locs := hw
  refine lv_istore (lv' := [(6, .int r6), (0, .ref b), (1, .ref (ad 92)), (2, .ref (bd 0)), (3, .ref o), (4, .ref o2), (5, .int (nI (4 * j)))]) hx hb dL_law_403 hl (by decide) rfl (fun ls hl => ?_)
  refine lv_aload_n hx hb dL_law_405 rfl (lv_at hl 3 rfl) ?_
  refine lv_aload_n hx hb dL_law_406 rfl (lv_at hl 1 rfl) ?_
  refine lv_iload hx hb dL_law_407 (lv_at hl 6 rfl) ?_
  refine lv_iconst (v := 1) hx hb dL_law_409 (by decide) ?_
  refine lv_iadd hx hb dL_law_410 ?_
  refine va_sld hx hb hX hbl hbA hw.2.2 (lw_ix 1 hj hL (by decide)) dL_law_411 ?_
  have hw := gw_lr hw
  refine gcV_i (rest := []) X (c_X7_setTrigger l D cy bd (CW cy ad (F_X6_setTrigger C (xs (nI (4 * j) + 1).toNatClampNeg)).2 ++ [oL cy o uO, oD cy o2 g]) M (xs (nI (4 * j) + 1).toNatClampNeg) hS) gy_X7_setTrigger gL_law_X7_setTrigger ⟨rfl, rfl, Nat.le_of_ble_eq_true rfl, Nat.le_of_ble_eq_true rfl⟩ 0 rfl rfl rfl hl rfl (Nat.le_of_ble_eq_true rfl) dL_law_412 ⟨by show 200 + 4 * j + 1 ≤ 603072; omega, by show 9000 + 24 * j + 6 ≤ 7202922; omega⟩ hw (fun r7 ur7 H locs hr7 hw => ?_)
  obtain ⟨hr7, hM⟩ := hr7
  have hM : ur7 = (F_X7_setTrigger M (xs (nI (4 * j) + 1).toNatClampNeg)).2 := hM
  subst hM
  have hr7 : r7 = (F_X7_setTrigger M (xs (nI (4 * j) + 1).toNatClampNeg)).1 := hr7
  have hw := gw_rl hw
  have hw : gw D (LA s) s.heap (CW cy ad (F_X6_setTrigger C (xs (nI (4 * j) + 1).toNatClampNeg)).2 ++ (oL cy o uO :: oD cy o2 g :: MW cy bd (F_X7_setTrigger M (xs (nI (4 * j) + 1).toNatClampNeg)).2)) H locs := hw
  have hb7 := hr7
  refine lv_istore (lv' := [(7, .int r7), (6, .int r6), (0, .ref b), (1, .ref (ad 92)), (2, .ref (bd 0)), (3, .ref o), (4, .ref o2), (5, .int (nI (4 * j)))]) hx hb dL_law_415 hl (by decide) rfl (fun ls hl => ?_)
  refine lv_aload_n hx hb dL_law_417 rfl (lv_at hl 4 rfl) ?_
  have hw := gw_lr hw
  refine gcV_i (rest := []) X (c_X7_thrown l D cy bd (CW cy ad (F_X6_setTrigger C (xs (nI (4 * j) + 1).toNatClampNeg)).2 ++ [oL cy o uO, oD cy o2 g]) (F_X7_setTrigger M (xs (nI (4 * j) + 1).toNatClampNeg)).2) gy_X7_thrown gL_law_X7_thrown ⟨rfl, rfl, Nat.le_of_ble_eq_true rfl, Nat.le_of_ble_eq_true rfl⟩ 0 rfl rfl rfl hl rfl (Nat.le_of_ble_eq_true rfl) dL_law_418 ⟨by show 200 + 4 * j + 1 ≤ 603072; omega, by show 9000 + 24 * j + 6 ≤ 7202922; omega⟩ hw (fun r9x ur9x H locs hr9x hw => ?_)
  have hr9x : r9x = (F_X7_thrown (F_X7_setTrigger M (xs (nI (4 * j) + 1).toNatClampNeg)).2) := hr9x
  have hw := gw_rl hw
  have hw : gw D (LA s) s.heap (CW cy ad (F_X6_setTrigger C (xs (nI (4 * j) + 1).toNatClampNeg)).2 ++ (oL cy o uO :: oD cy o2 g :: MW cy bd (F_X7_setTrigger M (xs (nI (4 * j) + 1).toNatClampNeg)).2)) H locs := hw
  have hthr : r9x = r6 := by rw [hr9x, hk]; exact (F_X7_thrown.eq_1 _).trans (simI_k hI)
  refine lv_iload hx hb dL_law_421 (lv_at hl 1 rfl) ?_
  refine lv_icmp_eq (tgt := 428) hx hb dL_law_423 (by decide) (fun _ => ?_) (fun c9 => absurd (hthr) c9)
  refine lv_iload hx hb dL_law_428 (lv_at hl 1 rfl) ?_
  refine lv_if_ne (tgt := 445) hx hb dL_law_430 (by decide) (fun c6 => ?_) (fun c6 => ?_)
  · skip
    refine lv_goto (tgt := 1783) hx hb dL_law_445 (by decide) ?_
    refine lv_iinc (v := nI (4 * (j + 1))) (lv' := [(5, .int (nI (4 * (j + 1)))), (7, .int r7), (6, .int r6), (0, .ref b), (1, .ref (ad 92)), (2, .ref (bd 0)), (3, .ref o), (4, .ref o2)]) hx hb dL_law_1783 hl (k := 7) rfl (lw_up j) (by decide) rfl (fun ls hl => ?_)
    refine lv_goto (tgt := 28) hx hb dL_law_1786 (by decide) ?_
    refine W.widen (k := 200 + 4 * (j + 1)) (n := 9000 + 24 * (j + 1)) (by omega) (by omega) ?_
    exact ih _ _ _ _ _ _ _ hR2 hw (lv_sub hl [3, 4, 5, 6, 7, 0] rfl)
  · skip
    have hoo := hout.trans (simI_o hI (hk.symm.trans c6) vp_updL f (fun v : Int32 => v.toInt64))
    refine lv_aload_n hx hb dL_law_433 rfl (lv_at hl 5 rfl) ?_
    refine lv_iconst (v := 0) hx hb dL_law_434 (by decide) ?_
    refine g_laldk (k := 0) rfl X hw 102 rfl (vk rfl) dL_law_435 ?_
    refine lv_iload hx hb dL_law_436 (lv_at hl 0 rfl) ?_
    refine lv_i2l (v := r7.toInt64) hx hb dL_law_438 rfl ?_
    refine W.lcmp hx hb dL_law_439 ?_
    refine lv_if_eq (tgt := 445) hx hb dL_law_440 (by decide) (fun _ => ?_) (fun c9 => absurd (by rw [hoo, hb7]; exact lg_same _) c9)
    refine lv_goto (tgt := 1783) hx hb dL_law_445 (by decide) ?_
    refine lv_iinc (v := nI (4 * (j + 1))) (lv' := [(5, .int (nI (4 * (j + 1)))), (7, .int r7), (6, .int r6), (0, .ref b), (1, .ref (ad 92)), (2, .ref (bd 0)), (3, .ref o), (4, .ref o2)]) hx hb dL_law_1783 hl (k := 7) rfl (lw_up j) (by decide) rfl (fun ls hl => ?_)
    refine lv_goto (tgt := 28) hx hb dL_law_1786 (by decide) ?_
    refine W.widen (k := 200 + 4 * (j + 1)) (n := 9000 + 24 * (j + 1)) (by omega) (by omega) ?_
    exact ih _ _ _ _ _ _ _ hR2 hw (lv_sub hl [3, 4, 5, 6, 7, 0] rfl)
set_option maxHeartbeats 4000000 in
set_option maxRecDepth 100000 in
theorem law_reset {p : Program} {l : Launch} {e : Env} {s : State} {m : MethodId} {below : List Frame} {meth : Method} {c : Code} {D : va_G} {cy : Nat → ClassId} {ss : Nat → Nat} {ad bd : Nat → Nat} {o o2 b L : Nat} {xs : Nat → Int32} (CX : LX p l s m meth c D cy ss b L xs) {j : Nat} (hj : 4 * j + 4 ≤ L) (ih : LH p l e s m below meth c D cy ad bd o o2 b (j + 1)) {C M : CS} {f : Nat → Int64} {g : Nat → UInt64} {H : Heap} {locs : List Loc} {ls : Array Slot} (hR : Rel C M) (hw : gw D (LA s) s.heap (CW cy ad C ++ (oL cy o f :: oD cy o2 g :: MW cy bd M)) H locs) (hl : lv_has ls 9 [(0, .ref b), (1, .ref (ad 92)), (2, .ref (bd 0)), (3, .ref o), (4, .ref o2), (5, .int (nI (4 * j)))]) : W p l e room_1 s m #[Value.ref b] below meth c H locs (200 + 4 * j) (9000 + 24 * j) (lw_Z below #[Value.ref b] s) (F0 m 448 ls []) := by
  obtain ⟨X, hE, hX, hbl, hbA, hlt, hL⟩ := CX
  have hx := X.1
  have hb := X.2.1
  obtain ⟨hS, hI, hR2⟩ := sim_reset hR
  refine lv_aload_n hx hb dL_law_448 rfl (lv_at hl 1 rfl) ?_
  refine gcV_i (rest := []) X (c_X6_reset l D cy ad (oL cy o f :: oD cy o2 g :: MW cy bd M) C) gy_X6_reset gL_law_X6_reset ⟨rfl, rfl, Nat.le_of_ble_eq_true rfl, Nat.le_of_ble_eq_true rfl⟩ 92 rfl rfl rfl hl rfl (Nat.le_of_ble_eq_true rfl) dL_law_449 ⟨by show 200 + 4 * j ≤ 603072; omega, by show 9000 + 24 * j ≤ 7202922; omega⟩ hw (fun r8x ur8x H locs hr8x hw => ?_)
  obtain ⟨hr8x, hC⟩ := hr8x
  have hC : ur8x = (F_X6_reset C).2 := hC
  subst hC
  have hr8x : r8x = (F_X6_reset C).1 := hr8x
  have hw : gw D (LA s) s.heap (CW cy ad (F_X6_reset C).2 ++ (oL cy o f :: oD cy o2 g :: MW cy bd M)) H locs := hw
  refine lv_aload_n hx hb dL_law_452 rfl (lv_at hl 2 rfl) ?_
  have hw := gw_lr hw
  refine gcV_i (rest := [.int r8x]) X (c_X7_reset l D cy bd (CW cy ad (F_X6_reset C).2 ++ [oL cy o f, oD cy o2 g]) M  hS) gy_X7_reset gL_law_X7_reset ⟨rfl, rfl, Nat.le_of_ble_eq_true rfl, Nat.le_of_ble_eq_true rfl⟩ 0 rfl rfl rfl hl rfl (Nat.le_of_ble_eq_true rfl) dL_law_453 ⟨by show 200 + 4 * j ≤ 603072; omega, by show 9000 + 24 * j ≤ 7202922; omega⟩ hw (fun r7 ur7 H locs hr7 hw => ?_)
  obtain ⟨hr7, hM⟩ := hr7
  have hM : ur7 = (F_X7_reset M).2 := hM
  subst hM
  have hr7 : r7 = (F_X7_reset M).1 := hr7
  have hw := gw_rl hw
  have hw : gw D (LA s) s.heap (CW cy ad (F_X6_reset C).2 ++ (oL cy o f :: oD cy o2 g :: MW cy bd (F_X7_reset M).2)) H locs := hw
  have hcmp : r8x = r7 := hr8x.trans (hI.trans hr7.symm)
  refine lv_icmp_eq (tgt := 1783) hx hb dL_law_456 (by decide) (fun _ => ?_) (fun c9 => absurd (hcmp) c9)
  refine lv_iinc (v := nI (4 * (j + 1))) (lv' := [(5, .int (nI (4 * (j + 1)))), (0, .ref b), (1, .ref (ad 92)), (2, .ref (bd 0)), (3, .ref o), (4, .ref o2)]) hx hb dL_law_1783 hl (k := 5) rfl (lw_up j) (by decide) rfl (fun ls hl => ?_)
  refine lv_goto (tgt := 28) hx hb dL_law_1786 (by decide) ?_
  refine W.widen (k := 200 + 4 * (j + 1)) (n := 9000 + 24 * (j + 1)) (by omega) (by omega) ?_
  exact ih _ _ _ _ _ _ _ hR2 hw (lv_sub hl [1, 2, 3, 4, 5, 0] rfl)
set_option maxHeartbeats 4000000 in
set_option maxRecDepth 100000 in
theorem law_add {p : Program} {l : Launch} {e : Env} {s : State} {m : MethodId} {below : List Frame} {meth : Method} {c : Code} {D : va_G} {cy : Nat → ClassId} {ss : Nat → Nat} {ad bd : Nat → Nat} {o o2 b L : Nat} {xs : Nat → Int32} (CX : LX p l s m meth c D cy ss b L xs) {j : Nat} (hj : 4 * j + 4 ≤ L) (ih : LH p l e s m below meth c D cy ad bd o o2 b (j + 1)) {C M : CS} {f : Nat → Int64} {g : Nat → UInt64} {H : Heap} {locs : List Loc} {ls : Array Slot} (hR : Rel C M) (hw : gw D (LA s) s.heap (CW cy ad C ++ (oL cy o f :: oD cy o2 g :: MW cy bd M)) H locs) (hl : lv_has ls 9 [(0, .ref b), (1, .ref (ad 92)), (2, .ref (bd 0)), (3, .ref o), (4, .ref o2), (5, .int (nI (4 * j)))]) : W p l e room_1 s m #[Value.ref b] below meth c H locs (200 + 4 * j) (9000 + 24 * j) (lw_Z below #[Value.ref b] s) (F0 m 461 ls []) := by
  obtain ⟨X, hE, hX, hbl, hbA, hlt, hL⟩ := CX
  have hx := X.1
  have hb := X.2.1
  obtain ⟨hS, hI, hR2⟩ := sim_add hR (xs (nI (4 * j) + 1).toNatClampNeg) (xs (nI (4 * j) + 2).toNatClampNeg) (xs (nI (4 * j) + 3).toNatClampNeg)
  refine lv_aload_n hx hb dL_law_461 rfl (lv_at hl 1 rfl) ?_
  refine lv_aload_n hx hb dL_law_462 rfl (lv_at hl 0 rfl) ?_
  refine lv_iload hx hb dL_law_463 (lv_at hl 5 rfl) ?_
  refine lv_iconst (v := 1) hx hb dL_law_465 (by decide) ?_
  refine lv_iadd hx hb dL_law_466 ?_
  refine va_sld hx hb hX hbl hbA hw.2.2 (lw_ix 1 hj hL (by decide)) dL_law_467 ?_
  refine lv_aload_n hx hb dL_law_468 rfl (lv_at hl 0 rfl) ?_
  refine lv_iload hx hb dL_law_469 (lv_at hl 5 rfl) ?_
  refine lv_iconst (v := 2) hx hb dL_law_471 (by decide) ?_
  refine lv_iadd hx hb dL_law_472 ?_
  refine va_sld hx hb hX hbl hbA hw.2.2 (lw_ix 2 hj hL (by decide)) dL_law_473 ?_
  refine lv_aload_n hx hb dL_law_474 rfl (lv_at hl 0 rfl) ?_
  refine lv_iload hx hb dL_law_475 (lv_at hl 5 rfl) ?_
  refine lv_iconst (v := 3) hx hb dL_law_477 (by decide) ?_
  refine lv_iadd hx hb dL_law_478 ?_
  refine va_sld hx hb hX hbl hbA hw.2.2 (lw_ix 3 hj hL (by decide)) dL_law_479 ?_
  refine lv_aload_n hx hb dL_law_480 rfl (lv_at hl 3 rfl) ?_
  refine gwS_i (rest := []) X hE (c_L_add l hlt D cy ss ad o (oD cy o2 g :: MW cy bd M) C f (xs (nI (4 * j) + 1).toNatClampNeg) (xs (nI (4 * j) + 2).toNatClampNeg) (xs (nI (4 * j) + 3).toNatClampNeg)) gy_L_add gL_law_L_add ⟨rfl, rfl, Nat.le_of_ble_eq_true rfl, Nat.le_of_ble_eq_true rfl⟩ rfl hl rfl (Nat.le_of_ble_eq_true rfl) dL_law_481 ⟨by show 200 + 4 * j + 3 ≤ 603072; omega, by show 9000 + 24 * j + 18 ≤ 7202922; omega⟩ hw (fun r6 u6 H locs hk hw => ?_)
  obtain ⟨uC, uO⟩ := u6
  obtain ⟨hk, hC, hout⟩ := hk
  have hC : uC = (F_X6_add C (xs (nI (4 * j) + 1).toNatClampNeg) (xs (nI (4 * j) + 2).toNatClampNeg) (xs (nI (4 * j) + 3).toNatClampNeg)).2 := hC
  subst hC
  have hw : gw D (LA s) s.heap (CW cy ad (F_X6_add C (xs (nI (4 * j) + 1).toNatClampNeg) (xs (nI (4 * j) + 2).toNatClampNeg) (xs (nI (4 * j) + 3).toNatClampNeg)).2 ++ (oL cy o uO :: oD cy o2 g :: MW cy bd M)) H locs := hw
  refine lv_istore (lv' := [(6, .int r6), (0, .ref b), (1, .ref (ad 92)), (2, .ref (bd 0)), (3, .ref o), (4, .ref o2), (5, .int (nI (4 * j)))]) hx hb dL_law_484 hl (by decide) rfl (fun ls hl => ?_)
  refine lv_aload_n hx hb dL_law_486 rfl (lv_at hl 3 rfl) ?_
  refine lv_aload_n hx hb dL_law_487 rfl (lv_at hl 1 rfl) ?_
  refine lv_iload hx hb dL_law_488 (lv_at hl 6 rfl) ?_
  refine lv_iconst (v := 1) hx hb dL_law_490 (by decide) ?_
  refine lv_iadd hx hb dL_law_491 ?_
  refine va_sld hx hb hX hbl hbA hw.2.2 (lw_ix 1 hj hL (by decide)) dL_law_492 ?_
  refine lv_aload_n hx hb dL_law_493 rfl (lv_at hl 1 rfl) ?_
  refine lv_iload hx hb dL_law_494 (lv_at hl 6 rfl) ?_
  refine lv_iconst (v := 2) hx hb dL_law_496 (by decide) ?_
  refine lv_iadd hx hb dL_law_497 ?_
  refine va_sld hx hb hX hbl hbA hw.2.2 (lw_ix 2 hj hL (by decide)) dL_law_498 ?_
  refine lv_aload_n hx hb dL_law_499 rfl (lv_at hl 1 rfl) ?_
  refine lv_iload hx hb dL_law_500 (lv_at hl 6 rfl) ?_
  refine lv_iconst (v := 3) hx hb dL_law_502 (by decide) ?_
  refine lv_iadd hx hb dL_law_503 ?_
  refine va_sld hx hb hX hbl hbA hw.2.2 (lw_ix 3 hj hL (by decide)) dL_law_504 ?_
  have hw := gw_lr hw
  refine gcV_i (rest := []) X (c_X7_add l D cy bd (CW cy ad (F_X6_add C (xs (nI (4 * j) + 1).toNatClampNeg) (xs (nI (4 * j) + 2).toNatClampNeg) (xs (nI (4 * j) + 3).toNatClampNeg)).2 ++ [oL cy o uO, oD cy o2 g]) M (xs (nI (4 * j) + 1).toNatClampNeg) (xs (nI (4 * j) + 2).toNatClampNeg) (xs (nI (4 * j) + 3).toNatClampNeg) hS) gy_X7_add gL_law_X7_add ⟨rfl, rfl, Nat.le_of_ble_eq_true rfl, Nat.le_of_ble_eq_true rfl⟩ 0 rfl rfl rfl hl rfl (Nat.le_of_ble_eq_true rfl) dL_law_505 ⟨by show 200 + 4 * j + 3 ≤ 603072; omega, by show 9000 + 24 * j + 18 ≤ 7202922; omega⟩ hw (fun r7 ur7 H locs hr7 hw => ?_)
  obtain ⟨hr7, hM⟩ := hr7
  have hM : ur7 = (F_X7_add M (xs (nI (4 * j) + 1).toNatClampNeg) (xs (nI (4 * j) + 2).toNatClampNeg) (xs (nI (4 * j) + 3).toNatClampNeg)).2 := hM
  subst hM
  have hr7 : r7 = (F_X7_add M (xs (nI (4 * j) + 1).toNatClampNeg) (xs (nI (4 * j) + 2).toNatClampNeg) (xs (nI (4 * j) + 3).toNatClampNeg)).1 := hr7
  have hw := gw_rl hw
  have hw : gw D (LA s) s.heap (CW cy ad (F_X6_add C (xs (nI (4 * j) + 1).toNatClampNeg) (xs (nI (4 * j) + 2).toNatClampNeg) (xs (nI (4 * j) + 3).toNatClampNeg)).2 ++ (oL cy o uO :: oD cy o2 g :: MW cy bd (F_X7_add M (xs (nI (4 * j) + 1).toNatClampNeg) (xs (nI (4 * j) + 2).toNatClampNeg) (xs (nI (4 * j) + 3).toNatClampNeg)).2)) H locs := hw
  have hb7 := hr7
  refine lv_istore (lv' := [(7, .int r7), (6, .int r6), (0, .ref b), (1, .ref (ad 92)), (2, .ref (bd 0)), (3, .ref o), (4, .ref o2), (5, .int (nI (4 * j)))]) hx hb dL_law_508 hl (by decide) rfl (fun ls hl => ?_)
  refine lv_aload_n hx hb dL_law_510 rfl (lv_at hl 4 rfl) ?_
  have hw := gw_lr hw
  refine gcV_i (rest := []) X (c_X7_thrown l D cy bd (CW cy ad (F_X6_add C (xs (nI (4 * j) + 1).toNatClampNeg) (xs (nI (4 * j) + 2).toNatClampNeg) (xs (nI (4 * j) + 3).toNatClampNeg)).2 ++ [oL cy o uO, oD cy o2 g]) (F_X7_add M (xs (nI (4 * j) + 1).toNatClampNeg) (xs (nI (4 * j) + 2).toNatClampNeg) (xs (nI (4 * j) + 3).toNatClampNeg)).2) gy_X7_thrown gL_law_X7_thrown ⟨rfl, rfl, Nat.le_of_ble_eq_true rfl, Nat.le_of_ble_eq_true rfl⟩ 0 rfl rfl rfl hl rfl (Nat.le_of_ble_eq_true rfl) dL_law_511 ⟨by show 200 + 4 * j + 3 ≤ 603072; omega, by show 9000 + 24 * j + 18 ≤ 7202922; omega⟩ hw (fun r9x ur9x H locs hr9x hw => ?_)
  have hr9x : r9x = (F_X7_thrown (F_X7_add M (xs (nI (4 * j) + 1).toNatClampNeg) (xs (nI (4 * j) + 2).toNatClampNeg) (xs (nI (4 * j) + 3).toNatClampNeg)).2) := hr9x
  have hw := gw_rl hw
  have hw : gw D (LA s) s.heap (CW cy ad (F_X6_add C (xs (nI (4 * j) + 1).toNatClampNeg) (xs (nI (4 * j) + 2).toNatClampNeg) (xs (nI (4 * j) + 3).toNatClampNeg)).2 ++ (oL cy o uO :: oD cy o2 g :: MW cy bd (F_X7_add M (xs (nI (4 * j) + 1).toNatClampNeg) (xs (nI (4 * j) + 2).toNatClampNeg) (xs (nI (4 * j) + 3).toNatClampNeg)).2)) H locs := hw
  have hthr : r9x = r6 := by rw [hr9x, hk]; exact (F_X7_thrown.eq_1 _).trans (simI_k hI)
  refine lv_iload hx hb dL_law_514 (lv_at hl 1 rfl) ?_
  refine lv_icmp_eq (tgt := 521) hx hb dL_law_516 (by decide) (fun _ => ?_) (fun c9 => absurd (hthr) c9)
  refine lv_iload hx hb dL_law_521 (lv_at hl 1 rfl) ?_
  refine lv_if_ne (tgt := 538) hx hb dL_law_523 (by decide) (fun c6 => ?_) (fun c6 => ?_)
  · skip
    refine lv_goto (tgt := 1783) hx hb dL_law_538 (by decide) ?_
    refine lv_iinc (v := nI (4 * (j + 1))) (lv' := [(5, .int (nI (4 * (j + 1)))), (7, .int r7), (6, .int r6), (0, .ref b), (1, .ref (ad 92)), (2, .ref (bd 0)), (3, .ref o), (4, .ref o2)]) hx hb dL_law_1783 hl (k := 7) rfl (lw_up j) (by decide) rfl (fun ls hl => ?_)
    refine lv_goto (tgt := 28) hx hb dL_law_1786 (by decide) ?_
    refine W.widen (k := 200 + 4 * (j + 1)) (n := 9000 + 24 * (j + 1)) (by omega) (by omega) ?_
    exact ih _ _ _ _ _ _ _ hR2 hw (lv_sub hl [3, 4, 5, 6, 7, 0] rfl)
  · skip
    have hoo := hout.trans (simI_o hI (hk.symm.trans c6) vp_updL f (fun v : Int32 => v.toInt64))
    refine lv_aload_n hx hb dL_law_526 rfl (lv_at hl 5 rfl) ?_
    refine lv_iconst (v := 0) hx hb dL_law_527 (by decide) ?_
    refine g_laldk (k := 0) rfl X hw 102 rfl (vk rfl) dL_law_528 ?_
    refine lv_iload hx hb dL_law_529 (lv_at hl 0 rfl) ?_
    refine lv_i2l (v := r7.toInt64) hx hb dL_law_531 rfl ?_
    refine W.lcmp hx hb dL_law_532 ?_
    refine lv_if_eq (tgt := 538) hx hb dL_law_533 (by decide) (fun _ => ?_) (fun c9 => absurd (by rw [hoo, hb7]; exact lg_same _) c9)
    refine lv_goto (tgt := 1783) hx hb dL_law_538 (by decide) ?_
    refine lv_iinc (v := nI (4 * (j + 1))) (lv' := [(5, .int (nI (4 * (j + 1)))), (7, .int r7), (6, .int r6), (0, .ref b), (1, .ref (ad 92)), (2, .ref (bd 0)), (3, .ref o), (4, .ref o2)]) hx hb dL_law_1783 hl (k := 7) rfl (lw_up j) (by decide) rfl (fun ls hl => ?_)
    refine lv_goto (tgt := 28) hx hb dL_law_1786 (by decide) ?_
    refine W.widen (k := 200 + 4 * (j + 1)) (n := 9000 + 24 * (j + 1)) (by omega) (by omega) ?_
    exact ih _ _ _ _ _ _ _ hR2 hw (lv_sub hl [3, 4, 5, 6, 7, 0] rfl)
set_option maxHeartbeats 4000000 in
set_option maxRecDepth 100000 in
theorem law_advance {p : Program} {l : Launch} {e : Env} {s : State} {m : MethodId} {below : List Frame} {meth : Method} {c : Code} {D : va_G} {cy : Nat → ClassId} {ss : Nat → Nat} {ad bd : Nat → Nat} {o o2 b L : Nat} {xs : Nat → Int32} (CX : LX p l s m meth c D cy ss b L xs) {j : Nat} (hj : 4 * j + 4 ≤ L) (ih : LH p l e s m below meth c D cy ad bd o o2 b (j + 1)) {C M : CS} {f : Nat → Int64} {g : Nat → UInt64} {H : Heap} {locs : List Loc} {ls : Array Slot} (hR : Rel C M) (hw : gw D (LA s) s.heap (CW cy ad C ++ (oL cy o f :: oD cy o2 g :: MW cy bd M)) H locs) (hl : lv_has ls 9 [(0, .ref b), (1, .ref (ad 92)), (2, .ref (bd 0)), (3, .ref o), (4, .ref o2), (5, .int (nI (4 * j)))]) : W p l e room_1 s m #[Value.ref b] below meth c H locs (200 + 4 * j) (9000 + 24 * j) (lw_Z below #[Value.ref b] s) (F0 m 541 ls []) := by
  obtain ⟨X, hE, hX, hbl, hbA, hlt, hL⟩ := CX
  have hx := X.1
  have hb := X.2.1
  obtain ⟨hS, hI, hR2⟩ := sim_advance hR (xs (nI (4 * j) + 1).toNatClampNeg)
  refine lv_aload_n hx hb dL_law_541 rfl (lv_at hl 1 rfl) ?_
  refine lv_aload_n hx hb dL_law_542 rfl (lv_at hl 0 rfl) ?_
  refine lv_iload hx hb dL_law_543 (lv_at hl 5 rfl) ?_
  refine lv_iconst (v := 1) hx hb dL_law_545 (by decide) ?_
  refine lv_iadd hx hb dL_law_546 ?_
  refine va_sld hx hb hX hbl hbA hw.2.2 (lw_ix 1 hj hL (by decide)) dL_law_547 ?_
  refine lv_aload_n hx hb dL_law_548 rfl (lv_at hl 3 rfl) ?_
  refine gwS_i (rest := []) X hE (c_L_advance l hlt D cy ss ad o (oD cy o2 g :: MW cy bd M) C f (xs (nI (4 * j) + 1).toNatClampNeg)) gy_L_advance gL_law_L_advance ⟨rfl, rfl, Nat.le_of_ble_eq_true rfl, Nat.le_of_ble_eq_true rfl⟩ rfl hl rfl (Nat.le_of_ble_eq_true rfl) dL_law_549 ⟨by show 200 + 4 * j + 1 ≤ 603072; omega, by show 9000 + 24 * j + 6 ≤ 7202922; omega⟩ hw (fun r6 u6 H locs hk hw => ?_)
  obtain ⟨uC, uO⟩ := u6
  obtain ⟨hk, hC, hout⟩ := hk
  have hC : uC = (F_X6_advance C (xs (nI (4 * j) + 1).toNatClampNeg)).2 := hC
  subst hC
  have hw : gw D (LA s) s.heap (CW cy ad (F_X6_advance C (xs (nI (4 * j) + 1).toNatClampNeg)).2 ++ (oL cy o uO :: oD cy o2 g :: MW cy bd M)) H locs := hw
  refine lv_istore (lv' := [(6, .int r6), (0, .ref b), (1, .ref (ad 92)), (2, .ref (bd 0)), (3, .ref o), (4, .ref o2), (5, .int (nI (4 * j)))]) hx hb dL_law_552 hl (by decide) rfl (fun ls hl => ?_)
  refine lv_aload_n hx hb dL_law_554 rfl (lv_at hl 3 rfl) ?_
  refine lv_aload_n hx hb dL_law_555 rfl (lv_at hl 1 rfl) ?_
  refine lv_iload hx hb dL_law_556 (lv_at hl 6 rfl) ?_
  refine lv_iconst (v := 1) hx hb dL_law_558 (by decide) ?_
  refine lv_iadd hx hb dL_law_559 ?_
  refine va_sld hx hb hX hbl hbA hw.2.2 (lw_ix 1 hj hL (by decide)) dL_law_560 ?_
  have hw := gw_lr hw
  refine gcV_i (rest := []) X (c_X7_advance l D cy bd (CW cy ad (F_X6_advance C (xs (nI (4 * j) + 1).toNatClampNeg)).2 ++ [oL cy o uO, oD cy o2 g]) M (xs (nI (4 * j) + 1).toNatClampNeg) hS) gy_X7_advance gL_law_X7_advance ⟨rfl, rfl, Nat.le_of_ble_eq_true rfl, Nat.le_of_ble_eq_true rfl⟩ 0 rfl rfl rfl hl rfl (Nat.le_of_ble_eq_true rfl) dL_law_561 ⟨by show 200 + 4 * j + 1 ≤ 603072; omega, by show 9000 + 24 * j + 6 ≤ 7202922; omega⟩ hw (fun r7 ur7 H locs hr7 hw => ?_)
  obtain ⟨hr7, hM⟩ := hr7
  have hM : ur7 = (F_X7_advance M (xs (nI (4 * j) + 1).toNatClampNeg)).2 := hM
  subst hM
  have hr7 : r7 = (F_X7_advance M (xs (nI (4 * j) + 1).toNatClampNeg)).1 := hr7
  have hw := gw_rl hw
  have hw : gw D (LA s) s.heap (CW cy ad (F_X6_advance C (xs (nI (4 * j) + 1).toNatClampNeg)).2 ++ (oL cy o uO :: oD cy o2 g :: MW cy bd (F_X7_advance M (xs (nI (4 * j) + 1).toNatClampNeg)).2)) H locs := hw
  have hb7 := hr7
  refine lv_istore (lv' := [(7, .int r7), (6, .int r6), (0, .ref b), (1, .ref (ad 92)), (2, .ref (bd 0)), (3, .ref o), (4, .ref o2), (5, .int (nI (4 * j)))]) hx hb dL_law_564 hl (by decide) rfl (fun ls hl => ?_)
  refine lv_aload_n hx hb dL_law_566 rfl (lv_at hl 4 rfl) ?_
  have hw := gw_lr hw
  refine gcV_i (rest := []) X (c_X7_thrown l D cy bd (CW cy ad (F_X6_advance C (xs (nI (4 * j) + 1).toNatClampNeg)).2 ++ [oL cy o uO, oD cy o2 g]) (F_X7_advance M (xs (nI (4 * j) + 1).toNatClampNeg)).2) gy_X7_thrown gL_law_X7_thrown ⟨rfl, rfl, Nat.le_of_ble_eq_true rfl, Nat.le_of_ble_eq_true rfl⟩ 0 rfl rfl rfl hl rfl (Nat.le_of_ble_eq_true rfl) dL_law_567 ⟨by show 200 + 4 * j + 1 ≤ 603072; omega, by show 9000 + 24 * j + 6 ≤ 7202922; omega⟩ hw (fun r9x ur9x H locs hr9x hw => ?_)
  have hr9x : r9x = (F_X7_thrown (F_X7_advance M (xs (nI (4 * j) + 1).toNatClampNeg)).2) := hr9x
  have hw := gw_rl hw
  have hw : gw D (LA s) s.heap (CW cy ad (F_X6_advance C (xs (nI (4 * j) + 1).toNatClampNeg)).2 ++ (oL cy o uO :: oD cy o2 g :: MW cy bd (F_X7_advance M (xs (nI (4 * j) + 1).toNatClampNeg)).2)) H locs := hw
  have hthr : r9x = r6 := by rw [hr9x, hk]; exact (F_X7_thrown.eq_1 _).trans (simI_k hI)
  refine lv_iload hx hb dL_law_570 (lv_at hl 1 rfl) ?_
  refine lv_icmp_eq (tgt := 577) hx hb dL_law_572 (by decide) (fun _ => ?_) (fun c9 => absurd (hthr) c9)
  refine lv_iload hx hb dL_law_577 (lv_at hl 1 rfl) ?_
  refine lv_if_ne (tgt := 594) hx hb dL_law_579 (by decide) (fun c6 => ?_) (fun c6 => ?_)
  · skip
    refine lv_goto (tgt := 1783) hx hb dL_law_594 (by decide) ?_
    refine lv_iinc (v := nI (4 * (j + 1))) (lv' := [(5, .int (nI (4 * (j + 1)))), (7, .int r7), (6, .int r6), (0, .ref b), (1, .ref (ad 92)), (2, .ref (bd 0)), (3, .ref o), (4, .ref o2)]) hx hb dL_law_1783 hl (k := 7) rfl (lw_up j) (by decide) rfl (fun ls hl => ?_)
    refine lv_goto (tgt := 28) hx hb dL_law_1786 (by decide) ?_
    refine W.widen (k := 200 + 4 * (j + 1)) (n := 9000 + 24 * (j + 1)) (by omega) (by omega) ?_
    exact ih _ _ _ _ _ _ _ hR2 hw (lv_sub hl [3, 4, 5, 6, 7, 0] rfl)
  · skip
    have hoo := hout.trans (simI_o hI (hk.symm.trans c6) vp_updL f (fun v : Int32 => v.toInt64))
    refine lv_aload_n hx hb dL_law_582 rfl (lv_at hl 5 rfl) ?_
    refine lv_iconst (v := 0) hx hb dL_law_583 (by decide) ?_
    refine g_laldk (k := 0) rfl X hw 102 rfl (vk rfl) dL_law_584 ?_
    refine lv_iload hx hb dL_law_585 (lv_at hl 0 rfl) ?_
    refine lv_i2l (v := r7.toInt64) hx hb dL_law_587 rfl ?_
    refine W.lcmp hx hb dL_law_588 ?_
    refine lv_if_eq (tgt := 594) hx hb dL_law_589 (by decide) (fun _ => ?_) (fun c9 => absurd (by rw [hoo, hb7]; exact lg_same _) c9)
    refine lv_goto (tgt := 1783) hx hb dL_law_594 (by decide) ?_
    refine lv_iinc (v := nI (4 * (j + 1))) (lv' := [(5, .int (nI (4 * (j + 1)))), (7, .int r7), (6, .int r6), (0, .ref b), (1, .ref (ad 92)), (2, .ref (bd 0)), (3, .ref o), (4, .ref o2)]) hx hb dL_law_1783 hl (k := 7) rfl (lw_up j) (by decide) rfl (fun ls hl => ?_)
    refine lv_goto (tgt := 28) hx hb dL_law_1786 (by decide) ?_
    refine W.widen (k := 200 + 4 * (j + 1)) (n := 9000 + 24 * (j + 1)) (by omega) (by omega) ?_
    exact ih _ _ _ _ _ _ _ hR2 hw (lv_sub hl [3, 4, 5, 6, 7, 0] rfl)
set_option maxHeartbeats 4000000 in
set_option maxRecDepth 100000 in
theorem law_watermark {p : Program} {l : Launch} {e : Env} {s : State} {m : MethodId} {below : List Frame} {meth : Method} {c : Code} {D : va_G} {cy : Nat → ClassId} {ss : Nat → Nat} {ad bd : Nat → Nat} {o o2 b L : Nat} {xs : Nat → Int32} (CX : LX p l s m meth c D cy ss b L xs) {j : Nat} (hj : 4 * j + 4 ≤ L) (ih : LH p l e s m below meth c D cy ad bd o o2 b (j + 1)) {C M : CS} {f : Nat → Int64} {g : Nat → UInt64} {H : Heap} {locs : List Loc} {ls : Array Slot} (hR : Rel C M) (hw : gw D (LA s) s.heap (CW cy ad C ++ (oL cy o f :: oD cy o2 g :: MW cy bd M)) H locs) (hl : lv_has ls 9 [(0, .ref b), (1, .ref (ad 92)), (2, .ref (bd 0)), (3, .ref o), (4, .ref o2), (5, .int (nI (4 * j)))]) : W p l e room_1 s m #[Value.ref b] below meth c H locs (200 + 4 * j) (9000 + 24 * j) (lw_Z below #[Value.ref b] s) (F0 m 597 ls []) := by
  obtain ⟨X, hE, hX, hbl, hbA, hlt, hL⟩ := CX
  have hx := X.1
  have hb := X.2.1
  obtain ⟨hI, hR2⟩ := sim_watermark hR
  refine lv_aload_n hx hb dL_law_597 rfl (lv_at hl 1 rfl) ?_
  refine gcV_i (rest := []) X (c_X6_watermark l D cy ad (oL cy o f :: oD cy o2 g :: MW cy bd M) C) gy_X6_watermark gL_law_X6_watermark ⟨rfl, rfl, Nat.le_of_ble_eq_true rfl, Nat.le_of_ble_eq_true rfl⟩ 92 rfl rfl rfl hl rfl (Nat.le_of_ble_eq_true rfl) dL_law_598 ⟨by show 200 + 4 * j ≤ 603072; omega, by show 9000 + 24 * j ≤ 7202922; omega⟩ hw (fun r8x ur8x H locs hr8x hw => ?_)
  have hr8x : r8x = (F_X6_watermark C) := hr8x
  have hw : gw D (LA s) s.heap (CW cy ad C ++ (oL cy o f :: oD cy o2 g :: MW cy bd M)) H locs := hw
  refine lv_aload_n hx hb dL_law_601 rfl (lv_at hl 2 rfl) ?_
  have hw := gw_lr hw
  refine gcV_i (rest := [.int r8x]) X (c_X7_watermark l D cy bd (CW cy ad C ++ [oL cy o f, oD cy o2 g]) M) gy_X7_watermark gL_law_X7_watermark ⟨rfl, rfl, Nat.le_of_ble_eq_true rfl, Nat.le_of_ble_eq_true rfl⟩ 0 rfl rfl rfl hl rfl (Nat.le_of_ble_eq_true rfl) dL_law_602 ⟨by show 200 + 4 * j ≤ 603072; omega, by show 9000 + 24 * j ≤ 7202922; omega⟩ hw (fun r7 ur7 H locs hr7 hw => ?_)
  obtain ⟨hr7, hM⟩ := hr7
  have hM : ur7 = (F_X7_watermark M).2 := hM
  subst hM
  have hr7 : r7 = (F_X7_watermark M).1 := hr7
  have hw := gw_rl hw
  have hw : gw D (LA s) s.heap (CW cy ad C ++ (oL cy o f :: oD cy o2 g :: MW cy bd (F_X7_watermark M).2)) H locs := hw
  have hcmp : r8x = r7 := hr8x.trans (hI.trans hr7.symm)
  refine lv_icmp_eq (tgt := 1783) hx hb dL_law_605 (by decide) (fun _ => ?_) (fun c9 => absurd (hcmp) c9)
  refine lv_iinc (v := nI (4 * (j + 1))) (lv' := [(5, .int (nI (4 * (j + 1)))), (0, .ref b), (1, .ref (ad 92)), (2, .ref (bd 0)), (3, .ref o), (4, .ref o2)]) hx hb dL_law_1783 hl (k := 5) rfl (lw_up j) (by decide) rfl (fun ls hl => ?_)
  refine lv_goto (tgt := 28) hx hb dL_law_1786 (by decide) ?_
  refine W.widen (k := 200 + 4 * (j + 1)) (n := 9000 + 24 * (j + 1)) (by omega) (by omega) ?_
  exact ih _ _ _ _ _ _ _ hR2 hw (lv_sub hl [1, 2, 3, 4, 5, 0] rfl)
set_option maxHeartbeats 4000000 in
set_option maxRecDepth 100000 in
theorem law_lateCount {p : Program} {l : Launch} {e : Env} {s : State} {m : MethodId} {below : List Frame} {meth : Method} {c : Code} {D : va_G} {cy : Nat → ClassId} {ss : Nat → Nat} {ad bd : Nat → Nat} {o o2 b L : Nat} {xs : Nat → Int32} (CX : LX p l s m meth c D cy ss b L xs) {j : Nat} (hj : 4 * j + 4 ≤ L) (ih : LH p l e s m below meth c D cy ad bd o o2 b (j + 1)) {C M : CS} {f : Nat → Int64} {g : Nat → UInt64} {H : Heap} {locs : List Loc} {ls : Array Slot} (hR : Rel C M) (hw : gw D (LA s) s.heap (CW cy ad C ++ (oL cy o f :: oD cy o2 g :: MW cy bd M)) H locs) (hl : lv_has ls 9 [(0, .ref b), (1, .ref (ad 92)), (2, .ref (bd 0)), (3, .ref o), (4, .ref o2), (5, .int (nI (4 * j)))]) : W p l e room_1 s m #[Value.ref b] below meth c H locs (200 + 4 * j) (9000 + 24 * j) (lw_Z below #[Value.ref b] s) (F0 m 610 ls []) := by
  obtain ⟨X, hE, hX, hbl, hbA, hlt, hL⟩ := CX
  have hx := X.1
  have hb := X.2.1
  obtain ⟨hI, hR2⟩ := sim_lateCount hR
  refine lv_aload_n hx hb dL_law_610 rfl (lv_at hl 1 rfl) ?_
  refine gcV_i (rest := []) X (c_X6_lateCount l D cy ad (oL cy o f :: oD cy o2 g :: MW cy bd M) C) gy_X6_lateCount gL_law_X6_lateCount ⟨rfl, rfl, Nat.le_of_ble_eq_true rfl, Nat.le_of_ble_eq_true rfl⟩ 92 rfl rfl rfl hl rfl (Nat.le_of_ble_eq_true rfl) dL_law_611 ⟨by show 200 + 4 * j ≤ 603072; omega, by show 9000 + 24 * j ≤ 7202922; omega⟩ hw (fun r8x ur8x H locs hr8x hw => ?_)
  have hr8x : r8x = (F_X6_lateCount C) := hr8x
  have hw : gw D (LA s) s.heap (CW cy ad C ++ (oL cy o f :: oD cy o2 g :: MW cy bd M)) H locs := hw
  refine lv_aload_n hx hb dL_law_614 rfl (lv_at hl 2 rfl) ?_
  have hw := gw_lr hw
  refine gcV_i (rest := [.int r8x]) X (c_X7_lateCount l D cy bd (CW cy ad C ++ [oL cy o f, oD cy o2 g]) M) gy_X7_lateCount gL_law_X7_lateCount ⟨rfl, rfl, Nat.le_of_ble_eq_true rfl, Nat.le_of_ble_eq_true rfl⟩ 0 rfl rfl rfl hl rfl (Nat.le_of_ble_eq_true rfl) dL_law_615 ⟨by show 200 + 4 * j ≤ 603072; omega, by show 9000 + 24 * j ≤ 7202922; omega⟩ hw (fun r7 ur7 H locs hr7 hw => ?_)
  obtain ⟨hr7, hM⟩ := hr7
  have hM : ur7 = (F_X7_lateCount M).2 := hM
  subst hM
  have hr7 : r7 = (F_X7_lateCount M).1 := hr7
  have hw := gw_rl hw
  have hw : gw D (LA s) s.heap (CW cy ad C ++ (oL cy o f :: oD cy o2 g :: MW cy bd (F_X7_lateCount M).2)) H locs := hw
  have hcmp : r8x = r7 := hr8x.trans (hI.trans hr7.symm)
  refine lv_icmp_eq (tgt := 1783) hx hb dL_law_618 (by decide) (fun _ => ?_) (fun c9 => absurd (hcmp) c9)
  refine lv_iinc (v := nI (4 * (j + 1))) (lv' := [(5, .int (nI (4 * (j + 1)))), (0, .ref b), (1, .ref (ad 92)), (2, .ref (bd 0)), (3, .ref o), (4, .ref o2)]) hx hb dL_law_1783 hl (k := 5) rfl (lw_up j) (by decide) rfl (fun ls hl => ?_)
  refine lv_goto (tgt := 28) hx hb dL_law_1786 (by decide) ?_
  refine W.widen (k := 200 + 4 * (j + 1)) (n := 9000 + 24 * (j + 1)) (by omega) (by omega) ?_
  exact ih _ _ _ _ _ _ _ hR2 hw (lv_sub hl [1, 2, 3, 4, 5, 0] rfl)
set_option maxHeartbeats 4000000 in
set_option maxRecDepth 100000 in
theorem law_isLate {p : Program} {l : Launch} {e : Env} {s : State} {m : MethodId} {below : List Frame} {meth : Method} {c : Code} {D : va_G} {cy : Nat → ClassId} {ss : Nat → Nat} {ad bd : Nat → Nat} {o o2 b L : Nat} {xs : Nat → Int32} (CX : LX p l s m meth c D cy ss b L xs) {j : Nat} (hj : 4 * j + 4 ≤ L) (ih : LH p l e s m below meth c D cy ad bd o o2 b (j + 1)) {C M : CS} {f : Nat → Int64} {g : Nat → UInt64} {H : Heap} {locs : List Loc} {ls : Array Slot} (hR : Rel C M) (hw : gw D (LA s) s.heap (CW cy ad C ++ (oL cy o f :: oD cy o2 g :: MW cy bd M)) H locs) (hl : lv_has ls 9 [(0, .ref b), (1, .ref (ad 92)), (2, .ref (bd 0)), (3, .ref o), (4, .ref o2), (5, .int (nI (4 * j)))]) : W p l e room_1 s m #[Value.ref b] below meth c H locs (200 + 4 * j) (9000 + 24 * j) (lw_Z below #[Value.ref b] s) (F0 m 623 ls []) := by
  obtain ⟨X, hE, hX, hbl, hbA, hlt, hL⟩ := CX
  have hx := X.1
  have hb := X.2.1
  obtain ⟨hI, hR2⟩ := sim_isLate hR (xs (nI (4 * j) + 1).toNatClampNeg)
  refine lv_aload_n hx hb dL_law_623 rfl (lv_at hl 1 rfl) ?_
  refine lv_aload_n hx hb dL_law_624 rfl (lv_at hl 0 rfl) ?_
  refine lv_iload hx hb dL_law_625 (lv_at hl 5 rfl) ?_
  refine lv_iconst (v := 1) hx hb dL_law_627 (by decide) ?_
  refine lv_iadd hx hb dL_law_628 ?_
  refine va_sld hx hb hX hbl hbA hw.2.2 (lw_ix 1 hj hL (by decide)) dL_law_629 ?_
  refine gcV_i (rest := []) X (c_X6_isLate l D cy ad (oL cy o f :: oD cy o2 g :: MW cy bd M) C (xs (nI (4 * j) + 1).toNatClampNeg)) gy_X6_isLate gL_law_X6_isLate ⟨rfl, rfl, Nat.le_of_ble_eq_true rfl, Nat.le_of_ble_eq_true rfl⟩ 92 rfl rfl rfl hl rfl (Nat.le_of_ble_eq_true rfl) dL_law_630 ⟨by show 200 + 4 * j ≤ 603072; omega, by show 9000 + 24 * j ≤ 7202922; omega⟩ hw (fun r8x ur8x H locs hr8x hw => ?_)
  obtain ⟨hr8x, zr8x⟩ : r8x = (F_X6_isLate C (xs (nI (4 * j) + 1).toNatClampNeg)) ∧ (r8x = 0 ∨ r8x = 1) := hr8x
  have hw : gw D (LA s) s.heap (CW cy ad C ++ (oL cy o f :: oD cy o2 g :: MW cy bd M)) H locs := hw
  refine lv_aload_n hx hb dL_law_633 rfl (lv_at hl 2 rfl) ?_
  refine lv_aload_n hx hb dL_law_634 rfl (lv_at hl 0 rfl) ?_
  refine lv_iload hx hb dL_law_635 (lv_at hl 5 rfl) ?_
  refine lv_iconst (v := 1) hx hb dL_law_637 (by decide) ?_
  refine lv_iadd hx hb dL_law_638 ?_
  refine va_sld hx hb hX hbl hbA hw.2.2 (lw_ix 1 hj hL (by decide)) dL_law_639 ?_
  have hw := gw_lr hw
  refine gcV_i (rest := [.int r8x]) X (c_X7_isLate l D cy bd (CW cy ad C ++ [oL cy o f, oD cy o2 g]) M (xs (nI (4 * j) + 1).toNatClampNeg)) gy_X7_isLate gL_law_X7_isLate ⟨rfl, rfl, Nat.le_of_ble_eq_true rfl, Nat.le_of_ble_eq_true rfl⟩ 0 rfl rfl rfl hl rfl (Nat.le_of_ble_eq_true rfl) dL_law_640 ⟨by show 200 + 4 * j ≤ 603072; omega, by show 9000 + 24 * j ≤ 7202922; omega⟩ hw (fun r7 ur7 H locs hr7 hw => ?_)
  obtain ⟨⟨hr7, hM⟩, zr7⟩ := hr7
  have hM : ur7 = (F_X7_isLate M (xs (nI (4 * j) + 1).toNatClampNeg)).2 := hM
  subst hM
  have hr7 : r7 = (F_X7_isLate M (xs (nI (4 * j) + 1).toNatClampNeg)).1 := hr7
  have hw := gw_rl hw
  have hw : gw D (LA s) s.heap (CW cy ad C ++ (oL cy o f :: oD cy o2 g :: MW cy bd (F_X7_isLate M (xs (nI (4 * j) + 1).toNatClampNeg)).2)) H locs := hw
  have hcmp : r8x = r7 := hr8x.trans (hI.trans hr7.symm)
  refine lv_icmp_eq (tgt := 1783) hx hb dL_law_643 (by decide) (fun _ => ?_) (fun c9 => absurd (hcmp) c9)
  refine lv_iinc (v := nI (4 * (j + 1))) (lv' := [(5, .int (nI (4 * (j + 1)))), (0, .ref b), (1, .ref (ad 92)), (2, .ref (bd 0)), (3, .ref o), (4, .ref o2)]) hx hb dL_law_1783 hl (k := 5) rfl (lw_up j) (by decide) rfl (fun ls hl => ?_)
  refine lv_goto (tgt := 28) hx hb dL_law_1786 (by decide) ?_
  refine W.widen (k := 200 + 4 * (j + 1)) (n := 9000 + 24 * (j + 1)) (by omega) (by omega) ?_
  exact ih _ _ _ _ _ _ _ hR2 hw (lv_sub hl [1, 2, 3, 4, 5, 0] rfl)
set_option maxHeartbeats 4000000 in
set_option maxRecDepth 100000 in
theorem law_recordCount {p : Program} {l : Launch} {e : Env} {s : State} {m : MethodId} {below : List Frame} {meth : Method} {c : Code} {D : va_G} {cy : Nat → ClassId} {ss : Nat → Nat} {ad bd : Nat → Nat} {o o2 b L : Nat} {xs : Nat → Int32} (CX : LX p l s m meth c D cy ss b L xs) {j : Nat} (hj : 4 * j + 4 ≤ L) (ih : LH p l e s m below meth c D cy ad bd o o2 b (j + 1)) {C M : CS} {f : Nat → Int64} {g : Nat → UInt64} {H : Heap} {locs : List Loc} {ls : Array Slot} (hR : Rel C M) (hw : gw D (LA s) s.heap (CW cy ad C ++ (oL cy o f :: oD cy o2 g :: MW cy bd M)) H locs) (hl : lv_has ls 9 [(0, .ref b), (1, .ref (ad 92)), (2, .ref (bd 0)), (3, .ref o), (4, .ref o2), (5, .int (nI (4 * j)))]) : W p l e room_1 s m #[Value.ref b] below meth c H locs (200 + 4 * j) (9000 + 24 * j) (lw_Z below #[Value.ref b] s) (F0 m 648 ls []) := by
  obtain ⟨X, hE, hX, hbl, hbA, hlt, hL⟩ := CX
  have hx := X.1
  have hb := X.2.1
  obtain ⟨hI, hR2⟩ := sim_recordCount hR
  refine lv_aload_n hx hb dL_law_648 rfl (lv_at hl 1 rfl) ?_
  refine gcV_i (rest := []) X (c_X6_recordCount l D cy ad (oL cy o f :: oD cy o2 g :: MW cy bd M) C) gy_X6_recordCount gL_law_X6_recordCount ⟨rfl, rfl, Nat.le_of_ble_eq_true rfl, Nat.le_of_ble_eq_true rfl⟩ 92 rfl rfl rfl hl rfl (Nat.le_of_ble_eq_true rfl) dL_law_649 ⟨by show 200 + 4 * j ≤ 603072; omega, by show 9000 + 24 * j ≤ 7202922; omega⟩ hw (fun r8x ur8x H locs hr8x hw => ?_)
  have hr8x : r8x = (F_X6_recordCount C) := hr8x
  have hw : gw D (LA s) s.heap (CW cy ad C ++ (oL cy o f :: oD cy o2 g :: MW cy bd M)) H locs := hw
  refine lv_aload_n hx hb dL_law_652 rfl (lv_at hl 2 rfl) ?_
  have hw := gw_lr hw
  refine gcV_i (rest := [.int r8x]) X (c_X7_recordCount l D cy bd (CW cy ad C ++ [oL cy o f, oD cy o2 g]) M) gy_X7_recordCount gL_law_X7_recordCount ⟨rfl, rfl, Nat.le_of_ble_eq_true rfl, Nat.le_of_ble_eq_true rfl⟩ 0 rfl rfl rfl hl rfl (Nat.le_of_ble_eq_true rfl) dL_law_653 ⟨by show 200 + 4 * j ≤ 603072; omega, by show 9000 + 24 * j ≤ 7202922; omega⟩ hw (fun r7 ur7 H locs hr7 hw => ?_)
  obtain ⟨hr7, hM⟩ := hr7
  have hM : ur7 = (F_X7_recordCount M).2 := hM
  subst hM
  have hr7 : r7 = (F_X7_recordCount M).1 := hr7
  have hw := gw_rl hw
  have hw : gw D (LA s) s.heap (CW cy ad C ++ (oL cy o f :: oD cy o2 g :: MW cy bd (F_X7_recordCount M).2)) H locs := hw
  have hcmp : r8x = r7 := hr8x.trans (hI.trans hr7.symm)
  refine lv_icmp_eq (tgt := 1783) hx hb dL_law_656 (by decide) (fun _ => ?_) (fun c9 => absurd (hcmp) c9)
  refine lv_iinc (v := nI (4 * (j + 1))) (lv' := [(5, .int (nI (4 * (j + 1)))), (0, .ref b), (1, .ref (ad 92)), (2, .ref (bd 0)), (3, .ref o), (4, .ref o2)]) hx hb dL_law_1783 hl (k := 5) rfl (lw_up j) (by decide) rfl (fun ls hl => ?_)
  refine lv_goto (tgt := 28) hx hb dL_law_1786 (by decide) ?_
  refine W.widen (k := 200 + 4 * (j + 1)) (n := 9000 + 24 * (j + 1)) (by omega) (by omega) ?_
  exact ih _ _ _ _ _ _ _ hR2 hw (lv_sub hl [1, 2, 3, 4, 5, 0] rfl)
set_option maxHeartbeats 4000000 in
set_option maxRecDepth 100000 in
theorem law_burstCount {p : Program} {l : Launch} {e : Env} {s : State} {m : MethodId} {below : List Frame} {meth : Method} {c : Code} {D : va_G} {cy : Nat → ClassId} {ss : Nat → Nat} {ad bd : Nat → Nat} {o o2 b L : Nat} {xs : Nat → Int32} (CX : LX p l s m meth c D cy ss b L xs) {j : Nat} (hj : 4 * j + 4 ≤ L) (ih : LH p l e s m below meth c D cy ad bd o o2 b (j + 1)) {C M : CS} {f : Nat → Int64} {g : Nat → UInt64} {H : Heap} {locs : List Loc} {ls : Array Slot} (hR : Rel C M) (hw : gw D (LA s) s.heap (CW cy ad C ++ (oL cy o f :: oD cy o2 g :: MW cy bd M)) H locs) (hl : lv_has ls 9 [(0, .ref b), (1, .ref (ad 92)), (2, .ref (bd 0)), (3, .ref o), (4, .ref o2), (5, .int (nI (4 * j)))]) : W p l e room_1 s m #[Value.ref b] below meth c H locs (200 + 4 * j) (9000 + 24 * j) (lw_Z below #[Value.ref b] s) (F0 m 661 ls []) := by
  obtain ⟨X, hE, hX, hbl, hbA, hlt, hL⟩ := CX
  have hx := X.1
  have hb := X.2.1
  obtain ⟨hS, hI, hR2⟩ := sim_burstCount hR
  refine lv_aload_n hx hb dL_law_661 rfl (lv_at hl 1 rfl) ?_
  refine gcV_i (rest := []) X (c_X6_burstCount l D cy ad (oL cy o f :: oD cy o2 g :: MW cy bd M) C) gy_X6_burstCount gL_law_X6_burstCount ⟨rfl, rfl, Nat.le_of_ble_eq_true rfl, Nat.le_of_ble_eq_true rfl⟩ 92 rfl rfl rfl hl rfl (Nat.le_of_ble_eq_true rfl) dL_law_662 ⟨by show 200 + 4 * j ≤ 603072; omega, by show 9000 + 24 * j ≤ 7202922; omega⟩ hw (fun r8x ur8x H locs hr8x hw => ?_)
  have hr8x : r8x = (F_X6_burstCount C) := hr8x
  have hw : gw D (LA s) s.heap (CW cy ad C ++ (oL cy o f :: oD cy o2 g :: MW cy bd M)) H locs := hw
  refine lv_aload_n hx hb dL_law_665 rfl (lv_at hl 2 rfl) ?_
  have hw := gw_lr hw
  refine gcV_i (rest := [.int r8x]) X (c_X7_burstCount l D cy bd (CW cy ad C ++ [oL cy o f, oD cy o2 g]) M  hS) gy_X7_burstCount gL_law_X7_burstCount ⟨rfl, rfl, Nat.le_of_ble_eq_true rfl, Nat.le_of_ble_eq_true rfl⟩ 0 rfl rfl rfl hl rfl (Nat.le_of_ble_eq_true rfl) dL_law_666 ⟨by show 200 + 4 * j ≤ 603072; omega, by show 9000 + 24 * j ≤ 7202922; omega⟩ hw (fun r7 ur7 H locs hr7 hw => ?_)
  obtain ⟨hr7, hM⟩ := hr7
  have hM : ur7 = (F_X7_burstCount M).2 := hM
  subst hM
  have hr7 : r7 = (F_X7_burstCount M).1 := hr7
  have hw := gw_rl hw
  have hw : gw D (LA s) s.heap (CW cy ad C ++ (oL cy o f :: oD cy o2 g :: MW cy bd (F_X7_burstCount M).2)) H locs := hw
  have hcmp : r8x = r7 := hr8x.trans (hI.trans hr7.symm)
  refine lv_icmp_eq (tgt := 1783) hx hb dL_law_669 (by decide) (fun _ => ?_) (fun c9 => absurd (hcmp) c9)
  refine lv_iinc (v := nI (4 * (j + 1))) (lv' := [(5, .int (nI (4 * (j + 1)))), (0, .ref b), (1, .ref (ad 92)), (2, .ref (bd 0)), (3, .ref o), (4, .ref o2)]) hx hb dL_law_1783 hl (k := 5) rfl (lw_up j) (by decide) rfl (fun ls hl => ?_)
  refine lv_goto (tgt := 28) hx hb dL_law_1786 (by decide) ?_
  refine W.widen (k := 200 + 4 * (j + 1)) (n := 9000 + 24 * (j + 1)) (by omega) (by omega) ?_
  exact ih _ _ _ _ _ _ _ hR2 hw (lv_sub hl [1, 2, 3, 4, 5, 0] rfl)
set_option maxHeartbeats 4000000 in
set_option maxRecDepth 100000 in
theorem law_openCount {p : Program} {l : Launch} {e : Env} {s : State} {m : MethodId} {below : List Frame} {meth : Method} {c : Code} {D : va_G} {cy : Nat → ClassId} {ss : Nat → Nat} {ad bd : Nat → Nat} {o o2 b L : Nat} {xs : Nat → Int32} (CX : LX p l s m meth c D cy ss b L xs) {j : Nat} (hj : 4 * j + 4 ≤ L) (ih : LH p l e s m below meth c D cy ad bd o o2 b (j + 1)) {C M : CS} {f : Nat → Int64} {g : Nat → UInt64} {H : Heap} {locs : List Loc} {ls : Array Slot} (hR : Rel C M) (hw : gw D (LA s) s.heap (CW cy ad C ++ (oL cy o f :: oD cy o2 g :: MW cy bd M)) H locs) (hl : lv_has ls 9 [(0, .ref b), (1, .ref (ad 92)), (2, .ref (bd 0)), (3, .ref o), (4, .ref o2), (5, .int (nI (4 * j)))]) : W p l e room_1 s m #[Value.ref b] below meth c H locs (200 + 4 * j) (9000 + 24 * j) (lw_Z below #[Value.ref b] s) (F0 m 674 ls []) := by
  obtain ⟨X, hE, hX, hbl, hbA, hlt, hL⟩ := CX
  have hx := X.1
  have hb := X.2.1
  obtain ⟨hS, hI, hR2⟩ := sim_openCount hR
  refine lv_aload_n hx hb dL_law_674 rfl (lv_at hl 1 rfl) ?_
  refine gcV_i (rest := []) X (c_X6_openCount l D cy ad (oL cy o f :: oD cy o2 g :: MW cy bd M) C) gy_X6_openCount gL_law_X6_openCount ⟨rfl, rfl, Nat.le_of_ble_eq_true rfl, Nat.le_of_ble_eq_true rfl⟩ 92 rfl rfl rfl hl rfl (Nat.le_of_ble_eq_true rfl) dL_law_675 ⟨by show 200 + 4 * j ≤ 603072; omega, by show 9000 + 24 * j ≤ 7202922; omega⟩ hw (fun r8x ur8x H locs hr8x hw => ?_)
  have hr8x : r8x = (F_X6_openCount C) := hr8x
  have hw : gw D (LA s) s.heap (CW cy ad C ++ (oL cy o f :: oD cy o2 g :: MW cy bd M)) H locs := hw
  refine lv_aload_n hx hb dL_law_678 rfl (lv_at hl 2 rfl) ?_
  have hw := gw_lr hw
  refine gcV_i (rest := [.int r8x]) X (c_X7_openCount l D cy bd (CW cy ad C ++ [oL cy o f, oD cy o2 g]) M  hS) gy_X7_openCount gL_law_X7_openCount ⟨rfl, rfl, Nat.le_of_ble_eq_true rfl, Nat.le_of_ble_eq_true rfl⟩ 0 rfl rfl rfl hl rfl (Nat.le_of_ble_eq_true rfl) dL_law_679 ⟨by show 200 + 4 * j ≤ 603072; omega, by show 9000 + 24 * j ≤ 7202922; omega⟩ hw (fun r7 ur7 H locs hr7 hw => ?_)
  obtain ⟨hr7, hM⟩ := hr7
  have hM : ur7 = (F_X7_openCount M).2 := hM
  subst hM
  have hr7 : r7 = (F_X7_openCount M).1 := hr7
  have hw := gw_rl hw
  have hw : gw D (LA s) s.heap (CW cy ad C ++ (oL cy o f :: oD cy o2 g :: MW cy bd (F_X7_openCount M).2)) H locs := hw
  have hcmp : r8x = r7 := hr8x.trans (hI.trans hr7.symm)
  refine lv_icmp_eq (tgt := 1783) hx hb dL_law_682 (by decide) (fun _ => ?_) (fun c9 => absurd (hcmp) c9)
  refine lv_iinc (v := nI (4 * (j + 1))) (lv' := [(5, .int (nI (4 * (j + 1)))), (0, .ref b), (1, .ref (ad 92)), (2, .ref (bd 0)), (3, .ref o), (4, .ref o2)]) hx hb dL_law_1783 hl (k := 5) rfl (lw_up j) (by decide) rfl (fun ls hl => ?_)
  refine lv_goto (tgt := 28) hx hb dL_law_1786 (by decide) ?_
  refine W.widen (k := 200 + 4 * (j + 1)) (n := 9000 + 24 * (j + 1)) (by omega) (by omega) ?_
  exact ih _ _ _ _ _ _ _ hR2 hw (lv_sub hl [1, 2, 3, 4, 5, 0] rfl)
set_option maxHeartbeats 4000000 in
set_option maxRecDepth 100000 in
theorem law_burst {p : Program} {l : Launch} {e : Env} {s : State} {m : MethodId} {below : List Frame} {meth : Method} {c : Code} {D : va_G} {cy : Nat → ClassId} {ss : Nat → Nat} {ad bd : Nat → Nat} {o o2 b L : Nat} {xs : Nat → Int32} (CX : LX p l s m meth c D cy ss b L xs) {j : Nat} (hj : 4 * j + 4 ≤ L) (ih : LH p l e s m below meth c D cy ad bd o o2 b (j + 1)) {C M : CS} {f : Nat → Int64} {g : Nat → UInt64} {H : Heap} {locs : List Loc} {ls : Array Slot} (hR : Rel C M) (hw : gw D (LA s) s.heap (CW cy ad C ++ (oL cy o f :: oD cy o2 g :: MW cy bd M)) H locs) (hl : lv_has ls 9 [(0, .ref b), (1, .ref (ad 92)), (2, .ref (bd 0)), (3, .ref o), (4, .ref o2), (5, .int (nI (4 * j)))]) : W p l e room_1 s m #[Value.ref b] below meth c H locs (200 + 4 * j) (9000 + 24 * j) (lw_Z below #[Value.ref b] s) (F0 m 687 ls []) := by
  obtain ⟨X, hE, hX, hbl, hbA, hlt, hL⟩ := CX
  have hx := X.1
  have hb := X.2.1
  obtain ⟨hS, hI, hR2⟩ := sim_burst hR (xs (nI (4 * j) + 1).toNatClampNeg) (xs (nI (4 * j) + 2).toNatClampNeg)
  refine lv_aload_n hx hb dL_law_687 rfl (lv_at hl 1 rfl) ?_
  refine lv_aload_n hx hb dL_law_688 rfl (lv_at hl 0 rfl) ?_
  refine lv_iload hx hb dL_law_689 (lv_at hl 5 rfl) ?_
  refine lv_iconst (v := 1) hx hb dL_law_691 (by decide) ?_
  refine lv_iadd hx hb dL_law_692 ?_
  refine va_sld hx hb hX hbl hbA hw.2.2 (lw_ix 1 hj hL (by decide)) dL_law_693 ?_
  refine lv_aload_n hx hb dL_law_694 rfl (lv_at hl 0 rfl) ?_
  refine lv_iload hx hb dL_law_695 (lv_at hl 5 rfl) ?_
  refine lv_iconst (v := 2) hx hb dL_law_697 (by decide) ?_
  refine lv_iadd hx hb dL_law_698 ?_
  refine va_sld hx hb hX hbl hbA hw.2.2 (lw_ix 2 hj hL (by decide)) dL_law_699 ?_
  refine lv_aload_n hx hb dL_law_700 rfl (lv_at hl 3 rfl) ?_
  refine gwS_i (rest := []) X hE (c_L_burst l hlt D cy ss ad o (oD cy o2 g :: MW cy bd M) C f (xs (nI (4 * j) + 1).toNatClampNeg) (xs (nI (4 * j) + 2).toNatClampNeg)) gy_L_burst gL_law_L_burst ⟨rfl, rfl, Nat.le_of_ble_eq_true rfl, Nat.le_of_ble_eq_true rfl⟩ rfl hl rfl (Nat.le_of_ble_eq_true rfl) dL_law_701 ⟨by show 200 + 4 * j + 2 ≤ 603072; omega, by show 9000 + 24 * j + 12 ≤ 7202922; omega⟩ hw (fun r6 u6 H locs hk hw => ?_)
  obtain ⟨uO, hu0⟩ : ∃ z, z = u6 := ⟨_, rfl⟩
  obtain ⟨hk, hout⟩ := hk
  rw [← hu0] at hout hw
  have hw : gw D (LA s) s.heap (CW cy ad C ++ (oL cy o uO :: oD cy o2 g :: MW cy bd M)) H locs := hw
  refine lv_istore (lv' := [(6, .int r6), (0, .ref b), (1, .ref (ad 92)), (2, .ref (bd 0)), (3, .ref o), (4, .ref o2), (5, .int (nI (4 * j)))]) hx hb dL_law_704 hl (by decide) rfl (fun ls hl => ?_)
  refine lv_aload_n hx hb dL_law_706 rfl (lv_at hl 3 rfl) ?_
  refine lv_aload_n hx hb dL_law_707 rfl (lv_at hl 1 rfl) ?_
  refine lv_iload hx hb dL_law_708 (lv_at hl 6 rfl) ?_
  refine lv_iconst (v := 1) hx hb dL_law_710 (by decide) ?_
  refine lv_iadd hx hb dL_law_711 ?_
  refine va_sld hx hb hX hbl hbA hw.2.2 (lw_ix 1 hj hL (by decide)) dL_law_712 ?_
  refine lv_aload_n hx hb dL_law_713 rfl (lv_at hl 1 rfl) ?_
  refine lv_iload hx hb dL_law_714 (lv_at hl 6 rfl) ?_
  refine lv_iconst (v := 2) hx hb dL_law_716 (by decide) ?_
  refine lv_iadd hx hb dL_law_717 ?_
  refine va_sld hx hb hX hbl hbA hw.2.2 (lw_ix 2 hj hL (by decide)) dL_law_718 ?_
  have hw := gw_lr hw
  refine gcV_i (rest := []) X (c_X7_burst l D cy bd (CW cy ad C ++ [oL cy o uO, oD cy o2 g]) M (xs (nI (4 * j) + 1).toNatClampNeg) (xs (nI (4 * j) + 2).toNatClampNeg) hS) gy_X7_burst gL_law_X7_burst ⟨rfl, rfl, Nat.le_of_ble_eq_true rfl, Nat.le_of_ble_eq_true rfl⟩ 0 rfl rfl rfl hl rfl (Nat.le_of_ble_eq_true rfl) dL_law_719 ⟨by show 200 + 4 * j + 2 ≤ 603072; omega, by show 9000 + 24 * j + 12 ≤ 7202922; omega⟩ hw (fun r7 ur7 H locs hr7 hw => ?_)
  obtain ⟨hr7, hM⟩ := hr7
  have hM : ur7 = (F_X7_burst M (xs (nI (4 * j) + 1).toNatClampNeg) (xs (nI (4 * j) + 2).toNatClampNeg)).2 := hM
  subst hM
  have hr7 : r7 = (F_X7_burst M (xs (nI (4 * j) + 1).toNatClampNeg) (xs (nI (4 * j) + 2).toNatClampNeg)).1 := hr7
  have hw := gw_rl hw
  have hw : gw D (LA s) s.heap (CW cy ad C ++ (oL cy o uO :: oD cy o2 g :: MW cy bd (F_X7_burst M (xs (nI (4 * j) + 1).toNatClampNeg) (xs (nI (4 * j) + 2).toNatClampNeg)).2)) H locs := hw
  have hb7 := hr7
  refine lv_istore (lv' := [(7, .int r7), (6, .int r6), (0, .ref b), (1, .ref (ad 92)), (2, .ref (bd 0)), (3, .ref o), (4, .ref o2), (5, .int (nI (4 * j)))]) hx hb dL_law_722 hl (by decide) rfl (fun ls hl => ?_)
  refine lv_aload_n hx hb dL_law_724 rfl (lv_at hl 4 rfl) ?_
  have hw := gw_lr hw
  refine gcV_i (rest := []) X (c_X7_thrown l D cy bd (CW cy ad C ++ [oL cy o uO, oD cy o2 g]) (F_X7_burst M (xs (nI (4 * j) + 1).toNatClampNeg) (xs (nI (4 * j) + 2).toNatClampNeg)).2) gy_X7_thrown gL_law_X7_thrown ⟨rfl, rfl, Nat.le_of_ble_eq_true rfl, Nat.le_of_ble_eq_true rfl⟩ 0 rfl rfl rfl hl rfl (Nat.le_of_ble_eq_true rfl) dL_law_725 ⟨by show 200 + 4 * j + 2 ≤ 603072; omega, by show 9000 + 24 * j + 12 ≤ 7202922; omega⟩ hw (fun r9x ur9x H locs hr9x hw => ?_)
  have hr9x : r9x = (F_X7_thrown (F_X7_burst M (xs (nI (4 * j) + 1).toNatClampNeg) (xs (nI (4 * j) + 2).toNatClampNeg)).2) := hr9x
  have hw := gw_rl hw
  have hw : gw D (LA s) s.heap (CW cy ad C ++ (oL cy o uO :: oD cy o2 g :: MW cy bd (F_X7_burst M (xs (nI (4 * j) + 1).toNatClampNeg) (xs (nI (4 * j) + 2).toNatClampNeg)).2)) H locs := hw
  have hthr : r9x = r6 := by rw [hr9x, hk]; exact (F_X7_thrown.eq_1 _).trans (simI_k hI)
  refine lv_iload hx hb dL_law_728 (lv_at hl 1 rfl) ?_
  refine lv_icmp_eq (tgt := 735) hx hb dL_law_730 (by decide) (fun _ => ?_) (fun c9 => absurd (hthr) c9)
  refine lv_iload hx hb dL_law_735 (lv_at hl 1 rfl) ?_
  refine lv_if_ne (tgt := 752) hx hb dL_law_737 (by decide) (fun c6 => ?_) (fun c6 => ?_)
  · skip
    refine lv_goto (tgt := 1783) hx hb dL_law_752 (by decide) ?_
    refine lv_iinc (v := nI (4 * (j + 1))) (lv' := [(5, .int (nI (4 * (j + 1)))), (7, .int r7), (6, .int r6), (0, .ref b), (1, .ref (ad 92)), (2, .ref (bd 0)), (3, .ref o), (4, .ref o2)]) hx hb dL_law_1783 hl (k := 7) rfl (lw_up j) (by decide) rfl (fun ls hl => ?_)
    refine lv_goto (tgt := 28) hx hb dL_law_1786 (by decide) ?_
    refine W.widen (k := 200 + 4 * (j + 1)) (n := 9000 + 24 * (j + 1)) (by omega) (by omega) ?_
    exact ih _ _ _ _ _ _ _ hR2 hw (lv_sub hl [3, 4, 5, 6, 7, 0] rfl)
  · skip
    have hoo := hout.trans (simI_o hI (hk.symm.trans c6) vp_updL f (fun v : Int32 => v.toInt64))
    refine lv_aload_n hx hb dL_law_740 rfl (lv_at hl 5 rfl) ?_
    refine lv_iconst (v := 0) hx hb dL_law_741 (by decide) ?_
    refine g_laldk (k := 0) rfl X hw 102 rfl (vk rfl) dL_law_742 ?_
    refine lv_iload hx hb dL_law_743 (lv_at hl 0 rfl) ?_
    refine lv_i2l (v := r7.toInt64) hx hb dL_law_745 rfl ?_
    refine W.lcmp hx hb dL_law_746 ?_
    refine lv_if_eq (tgt := 752) hx hb dL_law_747 (by decide) (fun _ => ?_) (fun c9 => absurd (by rw [hoo, hb7]; exact lg_same _) c9)
    refine lv_goto (tgt := 1783) hx hb dL_law_752 (by decide) ?_
    refine lv_iinc (v := nI (4 * (j + 1))) (lv' := [(5, .int (nI (4 * (j + 1)))), (7, .int r7), (6, .int r6), (0, .ref b), (1, .ref (ad 92)), (2, .ref (bd 0)), (3, .ref o), (4, .ref o2)]) hx hb dL_law_1783 hl (k := 7) rfl (lw_up j) (by decide) rfl (fun ls hl => ?_)
    refine lv_goto (tgt := 28) hx hb dL_law_1786 (by decide) ?_
    refine W.widen (k := 200 + 4 * (j + 1)) (n := 9000 + 24 * (j + 1)) (by omega) (by omega) ?_
    exact ih _ _ _ _ _ _ _ hR2 hw (lv_sub hl [3, 4, 5, 6, 7, 0] rfl)
set_option maxHeartbeats 4000000 in
set_option maxRecDepth 100000 in
theorem law_isClosed {p : Program} {l : Launch} {e : Env} {s : State} {m : MethodId} {below : List Frame} {meth : Method} {c : Code} {D : va_G} {cy : Nat → ClassId} {ss : Nat → Nat} {ad bd : Nat → Nat} {o o2 b L : Nat} {xs : Nat → Int32} (CX : LX p l s m meth c D cy ss b L xs) {j : Nat} (hj : 4 * j + 4 ≤ L) (ih : LH p l e s m below meth c D cy ad bd o o2 b (j + 1)) {C M : CS} {f : Nat → Int64} {g : Nat → UInt64} {H : Heap} {locs : List Loc} {ls : Array Slot} (hR : Rel C M) (hw : gw D (LA s) s.heap (CW cy ad C ++ (oL cy o f :: oD cy o2 g :: MW cy bd M)) H locs) (hl : lv_has ls 9 [(0, .ref b), (1, .ref (ad 92)), (2, .ref (bd 0)), (3, .ref o), (4, .ref o2), (5, .int (nI (4 * j)))]) : W p l e room_1 s m #[Value.ref b] below meth c H locs (200 + 4 * j) (9000 + 24 * j) (lw_Z below #[Value.ref b] s) (F0 m 755 ls []) := by
  obtain ⟨X, hE, hX, hbl, hbA, hlt, hL⟩ := CX
  have hx := X.1
  have hb := X.2.1
  obtain ⟨hS, hI, hR2⟩ := sim_isClosed hR (xs (nI (4 * j) + 1).toNatClampNeg)
  refine lv_aload_n hx hb dL_law_755 rfl (lv_at hl 1 rfl) ?_
  refine lv_aload_n hx hb dL_law_756 rfl (lv_at hl 0 rfl) ?_
  refine lv_iload hx hb dL_law_757 (lv_at hl 5 rfl) ?_
  refine lv_iconst (v := 1) hx hb dL_law_759 (by decide) ?_
  refine lv_iadd hx hb dL_law_760 ?_
  refine va_sld hx hb hX hbl hbA hw.2.2 (lw_ix 1 hj hL (by decide)) dL_law_761 ?_
  refine lv_aload_n hx hb dL_law_762 rfl (lv_at hl 3 rfl) ?_
  refine gwS_i (rest := []) X hE (c_L_isClosed l hlt D cy ss ad o (oD cy o2 g :: MW cy bd M) C f (xs (nI (4 * j) + 1).toNatClampNeg)) gy_L_isClosed gL_law_L_isClosed ⟨rfl, rfl, Nat.le_of_ble_eq_true rfl, Nat.le_of_ble_eq_true rfl⟩ rfl hl rfl (Nat.le_of_ble_eq_true rfl) dL_law_763 ⟨by show 200 + 4 * j + 1 ≤ 603072; omega, by show 9000 + 24 * j + 6 ≤ 7202922; omega⟩ hw (fun r6 u6 H locs hk hw => ?_)
  obtain ⟨uO, hu0⟩ : ∃ z, z = u6 := ⟨_, rfl⟩
  obtain ⟨hk, hout⟩ := hk
  rw [← hu0] at hout hw
  have hw : gw D (LA s) s.heap (CW cy ad C ++ (oL cy o uO :: oD cy o2 g :: MW cy bd M)) H locs := hw
  refine lv_istore (lv' := [(6, .int r6), (0, .ref b), (1, .ref (ad 92)), (2, .ref (bd 0)), (3, .ref o), (4, .ref o2), (5, .int (nI (4 * j)))]) hx hb dL_law_766 hl (by decide) rfl (fun ls hl => ?_)
  refine lv_aload_n hx hb dL_law_768 rfl (lv_at hl 3 rfl) ?_
  refine lv_aload_n hx hb dL_law_769 rfl (lv_at hl 1 rfl) ?_
  refine lv_iload hx hb dL_law_770 (lv_at hl 6 rfl) ?_
  refine lv_iconst (v := 1) hx hb dL_law_772 (by decide) ?_
  refine lv_iadd hx hb dL_law_773 ?_
  refine va_sld hx hb hX hbl hbA hw.2.2 (lw_ix 1 hj hL (by decide)) dL_law_774 ?_
  have hw := gw_lr hw
  refine gcV_i (rest := []) X (c_X7_isClosed l D cy bd (CW cy ad C ++ [oL cy o uO, oD cy o2 g]) M (xs (nI (4 * j) + 1).toNatClampNeg) hS) gy_X7_isClosed gL_law_X7_isClosed ⟨rfl, rfl, Nat.le_of_ble_eq_true rfl, Nat.le_of_ble_eq_true rfl⟩ 0 rfl rfl rfl hl rfl (Nat.le_of_ble_eq_true rfl) dL_law_775 ⟨by show 200 + 4 * j + 1 ≤ 603072; omega, by show 9000 + 24 * j + 6 ≤ 7202922; omega⟩ hw (fun r7 ur7 H locs hr7 hw => ?_)
  obtain ⟨⟨hr7, hM⟩, zr7⟩ := hr7
  have hM : ur7 = (F_X7_isClosed M (xs (nI (4 * j) + 1).toNatClampNeg)).2 := hM
  subst hM
  have hr7 : r7 = (F_X7_isClosed M (xs (nI (4 * j) + 1).toNatClampNeg)).1 := hr7
  have hw := gw_rl hw
  have hw : gw D (LA s) s.heap (CW cy ad C ++ (oL cy o uO :: oD cy o2 g :: MW cy bd (F_X7_isClosed M (xs (nI (4 * j) + 1).toNatClampNeg)).2)) H locs := hw
  have hb7 := hr7
  refine lv_istore (lv' := [(7, .int r7), (6, .int r6), (0, .ref b), (1, .ref (ad 92)), (2, .ref (bd 0)), (3, .ref o), (4, .ref o2), (5, .int (nI (4 * j)))]) hx hb dL_law_778 hl (by decide) rfl (fun ls hl => ?_)
  refine lv_aload_n hx hb dL_law_780 rfl (lv_at hl 4 rfl) ?_
  have hw := gw_lr hw
  refine gcV_i (rest := []) X (c_X7_thrown l D cy bd (CW cy ad C ++ [oL cy o uO, oD cy o2 g]) (F_X7_isClosed M (xs (nI (4 * j) + 1).toNatClampNeg)).2) gy_X7_thrown gL_law_X7_thrown ⟨rfl, rfl, Nat.le_of_ble_eq_true rfl, Nat.le_of_ble_eq_true rfl⟩ 0 rfl rfl rfl hl rfl (Nat.le_of_ble_eq_true rfl) dL_law_781 ⟨by show 200 + 4 * j + 1 ≤ 603072; omega, by show 9000 + 24 * j + 6 ≤ 7202922; omega⟩ hw (fun r9x ur9x H locs hr9x hw => ?_)
  have hr9x : r9x = (F_X7_thrown (F_X7_isClosed M (xs (nI (4 * j) + 1).toNatClampNeg)).2) := hr9x
  have hw := gw_rl hw
  have hw : gw D (LA s) s.heap (CW cy ad C ++ (oL cy o uO :: oD cy o2 g :: MW cy bd (F_X7_isClosed M (xs (nI (4 * j) + 1).toNatClampNeg)).2)) H locs := hw
  have hthr : r9x = r6 := by rw [hr9x, hk]; exact (F_X7_thrown.eq_1 _).trans (simI_k hI)
  refine lv_iload hx hb dL_law_784 (lv_at hl 1 rfl) ?_
  refine lv_icmp_eq (tgt := 791) hx hb dL_law_786 (by decide) (fun _ => ?_) (fun c9 => absurd (hthr) c9)
  refine lv_iload hx hb dL_law_791 (lv_at hl 1 rfl) ?_
  refine lv_if_ne (tgt := 815) hx hb dL_law_793 (by decide) (fun c6 => ?_) (fun c6 => ?_)
  · skip
    refine lv_goto (tgt := 1783) hx hb dL_law_815 (by decide) ?_
    refine lv_iinc (v := nI (4 * (j + 1))) (lv' := [(5, .int (nI (4 * (j + 1)))), (7, .int r7), (6, .int r6), (0, .ref b), (1, .ref (ad 92)), (2, .ref (bd 0)), (3, .ref o), (4, .ref o2)]) hx hb dL_law_1783 hl (k := 7) rfl (lw_up j) (by decide) rfl (fun ls hl => ?_)
    refine lv_goto (tgt := 28) hx hb dL_law_1786 (by decide) ?_
    refine W.widen (k := 200 + 4 * (j + 1)) (n := 9000 + 24 * (j + 1)) (by omega) (by omega) ?_
    exact ih _ _ _ _ _ _ _ hR2 hw (lv_sub hl [3, 4, 5, 6, 7, 0] rfl)
  · skip
    have hoo := hout.trans (simI_o hI (hk.symm.trans c6) vp_updL f (fun v : Int32 => if v = 0 then (0 : Int64) else 1))
    refine lv_aload_n hx hb dL_law_796 rfl (lv_at hl 5 rfl) ?_
    refine lv_iconst (v := 0) hx hb dL_law_797 (by decide) ?_
    refine g_laldk (k := 0) rfl X hw 102 rfl (vk rfl) dL_law_798 ?_
    refine lv_iload hx hb dL_law_799 (lv_at hl 0 rfl) ?_
    refine lv_if_eq (tgt := 808) hx hb dL_law_801 (by decide) (fun c7 => ?_) (fun c7 => ?_)
    · skip
      refine lv_lconst (v := 0) hx hb dL_law_808 (by decide) ?_
      refine W.lcmp hx hb dL_law_809 ?_
      refine lv_if_eq (tgt := 815) hx hb dL_law_810 (by decide) (fun _ => ?_) (fun c9 => absurd (by rw [hoo]; show lg_cmp (if (F_X7_isClosed M (xs (nI (4 * j) + 1).toNatClampNeg)).1 = 0 then (0 : Int64) else 1) _ = 0; rw [if_pos (hb7.symm.trans c7)]; exact lg_same _) c9)
      refine lv_goto (tgt := 1783) hx hb dL_law_815 (by decide) ?_
      refine lv_iinc (v := nI (4 * (j + 1))) (lv' := [(5, .int (nI (4 * (j + 1)))), (7, .int r7), (6, .int r6), (0, .ref b), (1, .ref (ad 92)), (2, .ref (bd 0)), (3, .ref o), (4, .ref o2)]) hx hb dL_law_1783 hl (k := 7) rfl (lw_up j) (by decide) rfl (fun ls hl => ?_)
      refine lv_goto (tgt := 28) hx hb dL_law_1786 (by decide) ?_
      refine W.widen (k := 200 + 4 * (j + 1)) (n := 9000 + 24 * (j + 1)) (by omega) (by omega) ?_
      exact ih _ _ _ _ _ _ _ hR2 hw (lv_sub hl [3, 4, 5, 6, 7, 0] rfl)
    · skip
      refine lv_lconst (v := 1) hx hb dL_law_804 (by decide) ?_
      refine lv_goto (tgt := 809) hx hb dL_law_805 (by decide) ?_
      refine W.lcmp hx hb dL_law_809 ?_
      refine lv_if_eq (tgt := 815) hx hb dL_law_810 (by decide) (fun _ => ?_) (fun c9 => absurd (by rw [hoo]; show lg_cmp (if (F_X7_isClosed M (xs (nI (4 * j) + 1).toNatClampNeg)).1 = 0 then (0 : Int64) else 1) _ = 0; rw [if_neg (fun q => c7 (hb7.trans q))]; exact lg_same _) c9)
      refine lv_goto (tgt := 1783) hx hb dL_law_815 (by decide) ?_
      refine lv_iinc (v := nI (4 * (j + 1))) (lv' := [(5, .int (nI (4 * (j + 1)))), (7, .int r7), (6, .int r6), (0, .ref b), (1, .ref (ad 92)), (2, .ref (bd 0)), (3, .ref o), (4, .ref o2)]) hx hb dL_law_1783 hl (k := 7) rfl (lw_up j) (by decide) rfl (fun ls hl => ?_)
      refine lv_goto (tgt := 28) hx hb dL_law_1786 (by decide) ?_
      refine W.widen (k := 200 + 4 * (j + 1)) (n := 9000 + 24 * (j + 1)) (by omega) (by omega) ?_
      exact ih _ _ _ _ _ _ _ hR2 hw (lv_sub hl [3, 4, 5, 6, 7, 0] rfl)
set_option maxHeartbeats 4000000 in
set_option maxRecDepth 100000 in
theorem law_isDirty {p : Program} {l : Launch} {e : Env} {s : State} {m : MethodId} {below : List Frame} {meth : Method} {c : Code} {D : va_G} {cy : Nat → ClassId} {ss : Nat → Nat} {ad bd : Nat → Nat} {o o2 b L : Nat} {xs : Nat → Int32} (CX : LX p l s m meth c D cy ss b L xs) {j : Nat} (hj : 4 * j + 4 ≤ L) (ih : LH p l e s m below meth c D cy ad bd o o2 b (j + 1)) {C M : CS} {f : Nat → Int64} {g : Nat → UInt64} {H : Heap} {locs : List Loc} {ls : Array Slot} (hR : Rel C M) (hw : gw D (LA s) s.heap (CW cy ad C ++ (oL cy o f :: oD cy o2 g :: MW cy bd M)) H locs) (hl : lv_has ls 9 [(0, .ref b), (1, .ref (ad 92)), (2, .ref (bd 0)), (3, .ref o), (4, .ref o2), (5, .int (nI (4 * j)))]) : W p l e room_1 s m #[Value.ref b] below meth c H locs (200 + 4 * j) (9000 + 24 * j) (lw_Z below #[Value.ref b] s) (F0 m 818 ls []) := by
  obtain ⟨X, hE, hX, hbl, hbA, hlt, hL⟩ := CX
  have hx := X.1
  have hb := X.2.1
  obtain ⟨hS, hI, hR2⟩ := sim_isDirty hR (xs (nI (4 * j) + 1).toNatClampNeg)
  refine lv_aload_n hx hb dL_law_818 rfl (lv_at hl 1 rfl) ?_
  refine lv_aload_n hx hb dL_law_819 rfl (lv_at hl 0 rfl) ?_
  refine lv_iload hx hb dL_law_820 (lv_at hl 5 rfl) ?_
  refine lv_iconst (v := 1) hx hb dL_law_822 (by decide) ?_
  refine lv_iadd hx hb dL_law_823 ?_
  refine va_sld hx hb hX hbl hbA hw.2.2 (lw_ix 1 hj hL (by decide)) dL_law_824 ?_
  refine lv_aload_n hx hb dL_law_825 rfl (lv_at hl 3 rfl) ?_
  refine gwS_i (rest := []) X hE (c_L_isDirty l hlt D cy ss ad o (oD cy o2 g :: MW cy bd M) C f (xs (nI (4 * j) + 1).toNatClampNeg)) gy_L_isDirty gL_law_L_isDirty ⟨rfl, rfl, Nat.le_of_ble_eq_true rfl, Nat.le_of_ble_eq_true rfl⟩ rfl hl rfl (Nat.le_of_ble_eq_true rfl) dL_law_826 ⟨by show 200 + 4 * j + 1 ≤ 603072; omega, by show 9000 + 24 * j + 6 ≤ 7202922; omega⟩ hw (fun r6 u6 H locs hk hw => ?_)
  obtain ⟨uO, hu0⟩ : ∃ z, z = u6 := ⟨_, rfl⟩
  obtain ⟨hk, hout⟩ := hk
  rw [← hu0] at hout hw
  have hw : gw D (LA s) s.heap (CW cy ad C ++ (oL cy o uO :: oD cy o2 g :: MW cy bd M)) H locs := hw
  refine lv_istore (lv' := [(6, .int r6), (0, .ref b), (1, .ref (ad 92)), (2, .ref (bd 0)), (3, .ref o), (4, .ref o2), (5, .int (nI (4 * j)))]) hx hb dL_law_829 hl (by decide) rfl (fun ls hl => ?_)
  refine lv_aload_n hx hb dL_law_831 rfl (lv_at hl 3 rfl) ?_
  refine lv_aload_n hx hb dL_law_832 rfl (lv_at hl 1 rfl) ?_
  refine lv_iload hx hb dL_law_833 (lv_at hl 6 rfl) ?_
  refine lv_iconst (v := 1) hx hb dL_law_835 (by decide) ?_
  refine lv_iadd hx hb dL_law_836 ?_
  refine va_sld hx hb hX hbl hbA hw.2.2 (lw_ix 1 hj hL (by decide)) dL_law_837 ?_
  have hw := gw_lr hw
  refine gcV_i (rest := []) X (c_X7_isDirty l D cy bd (CW cy ad C ++ [oL cy o uO, oD cy o2 g]) M (xs (nI (4 * j) + 1).toNatClampNeg) hS) gy_X7_isDirty gL_law_X7_isDirty ⟨rfl, rfl, Nat.le_of_ble_eq_true rfl, Nat.le_of_ble_eq_true rfl⟩ 0 rfl rfl rfl hl rfl (Nat.le_of_ble_eq_true rfl) dL_law_838 ⟨by show 200 + 4 * j + 1 ≤ 603072; omega, by show 9000 + 24 * j + 6 ≤ 7202922; omega⟩ hw (fun r7 ur7 H locs hr7 hw => ?_)
  obtain ⟨⟨hr7, hM⟩, zr7⟩ := hr7
  have hM : ur7 = (F_X7_isDirty M (xs (nI (4 * j) + 1).toNatClampNeg)).2 := hM
  subst hM
  have hr7 : r7 = (F_X7_isDirty M (xs (nI (4 * j) + 1).toNatClampNeg)).1 := hr7
  have hw := gw_rl hw
  have hw : gw D (LA s) s.heap (CW cy ad C ++ (oL cy o uO :: oD cy o2 g :: MW cy bd (F_X7_isDirty M (xs (nI (4 * j) + 1).toNatClampNeg)).2)) H locs := hw
  have hb7 := hr7
  refine lv_istore (lv' := [(7, .int r7), (6, .int r6), (0, .ref b), (1, .ref (ad 92)), (2, .ref (bd 0)), (3, .ref o), (4, .ref o2), (5, .int (nI (4 * j)))]) hx hb dL_law_841 hl (by decide) rfl (fun ls hl => ?_)
  refine lv_aload_n hx hb dL_law_843 rfl (lv_at hl 4 rfl) ?_
  have hw := gw_lr hw
  refine gcV_i (rest := []) X (c_X7_thrown l D cy bd (CW cy ad C ++ [oL cy o uO, oD cy o2 g]) (F_X7_isDirty M (xs (nI (4 * j) + 1).toNatClampNeg)).2) gy_X7_thrown gL_law_X7_thrown ⟨rfl, rfl, Nat.le_of_ble_eq_true rfl, Nat.le_of_ble_eq_true rfl⟩ 0 rfl rfl rfl hl rfl (Nat.le_of_ble_eq_true rfl) dL_law_844 ⟨by show 200 + 4 * j + 1 ≤ 603072; omega, by show 9000 + 24 * j + 6 ≤ 7202922; omega⟩ hw (fun r9x ur9x H locs hr9x hw => ?_)
  have hr9x : r9x = (F_X7_thrown (F_X7_isDirty M (xs (nI (4 * j) + 1).toNatClampNeg)).2) := hr9x
  have hw := gw_rl hw
  have hw : gw D (LA s) s.heap (CW cy ad C ++ (oL cy o uO :: oD cy o2 g :: MW cy bd (F_X7_isDirty M (xs (nI (4 * j) + 1).toNatClampNeg)).2)) H locs := hw
  have hthr : r9x = r6 := by rw [hr9x, hk]; exact (F_X7_thrown.eq_1 _).trans (simI_k hI)
  refine lv_iload hx hb dL_law_847 (lv_at hl 1 rfl) ?_
  refine lv_icmp_eq (tgt := 854) hx hb dL_law_849 (by decide) (fun _ => ?_) (fun c9 => absurd (hthr) c9)
  refine lv_iload hx hb dL_law_854 (lv_at hl 1 rfl) ?_
  refine lv_if_ne (tgt := 878) hx hb dL_law_856 (by decide) (fun c6 => ?_) (fun c6 => ?_)
  · skip
    refine lv_goto (tgt := 1783) hx hb dL_law_878 (by decide) ?_
    refine lv_iinc (v := nI (4 * (j + 1))) (lv' := [(5, .int (nI (4 * (j + 1)))), (7, .int r7), (6, .int r6), (0, .ref b), (1, .ref (ad 92)), (2, .ref (bd 0)), (3, .ref o), (4, .ref o2)]) hx hb dL_law_1783 hl (k := 7) rfl (lw_up j) (by decide) rfl (fun ls hl => ?_)
    refine lv_goto (tgt := 28) hx hb dL_law_1786 (by decide) ?_
    refine W.widen (k := 200 + 4 * (j + 1)) (n := 9000 + 24 * (j + 1)) (by omega) (by omega) ?_
    exact ih _ _ _ _ _ _ _ hR2 hw (lv_sub hl [3, 4, 5, 6, 7, 0] rfl)
  · skip
    have hoo := hout.trans (simI_o hI (hk.symm.trans c6) vp_updL f (fun v : Int32 => if v = 0 then (0 : Int64) else 1))
    refine lv_aload_n hx hb dL_law_859 rfl (lv_at hl 5 rfl) ?_
    refine lv_iconst (v := 0) hx hb dL_law_860 (by decide) ?_
    refine g_laldk (k := 0) rfl X hw 102 rfl (vk rfl) dL_law_861 ?_
    refine lv_iload hx hb dL_law_862 (lv_at hl 0 rfl) ?_
    refine lv_if_eq (tgt := 871) hx hb dL_law_864 (by decide) (fun c7 => ?_) (fun c7 => ?_)
    · skip
      refine lv_lconst (v := 0) hx hb dL_law_871 (by decide) ?_
      refine W.lcmp hx hb dL_law_872 ?_
      refine lv_if_eq (tgt := 878) hx hb dL_law_873 (by decide) (fun _ => ?_) (fun c9 => absurd (by rw [hoo]; show lg_cmp (if (F_X7_isDirty M (xs (nI (4 * j) + 1).toNatClampNeg)).1 = 0 then (0 : Int64) else 1) _ = 0; rw [if_pos (hb7.symm.trans c7)]; exact lg_same _) c9)
      refine lv_goto (tgt := 1783) hx hb dL_law_878 (by decide) ?_
      refine lv_iinc (v := nI (4 * (j + 1))) (lv' := [(5, .int (nI (4 * (j + 1)))), (7, .int r7), (6, .int r6), (0, .ref b), (1, .ref (ad 92)), (2, .ref (bd 0)), (3, .ref o), (4, .ref o2)]) hx hb dL_law_1783 hl (k := 7) rfl (lw_up j) (by decide) rfl (fun ls hl => ?_)
      refine lv_goto (tgt := 28) hx hb dL_law_1786 (by decide) ?_
      refine W.widen (k := 200 + 4 * (j + 1)) (n := 9000 + 24 * (j + 1)) (by omega) (by omega) ?_
      exact ih _ _ _ _ _ _ _ hR2 hw (lv_sub hl [3, 4, 5, 6, 7, 0] rfl)
    · skip
      refine lv_lconst (v := 1) hx hb dL_law_867 (by decide) ?_
      refine lv_goto (tgt := 872) hx hb dL_law_868 (by decide) ?_
      refine W.lcmp hx hb dL_law_872 ?_
      refine lv_if_eq (tgt := 878) hx hb dL_law_873 (by decide) (fun _ => ?_) (fun c9 => absurd (by rw [hoo]; show lg_cmp (if (F_X7_isDirty M (xs (nI (4 * j) + 1).toNatClampNeg)).1 = 0 then (0 : Int64) else 1) _ = 0; rw [if_neg (fun q => c7 (hb7.trans q))]; exact lg_same _) c9)
      refine lv_goto (tgt := 1783) hx hb dL_law_878 (by decide) ?_
      refine lv_iinc (v := nI (4 * (j + 1))) (lv' := [(5, .int (nI (4 * (j + 1)))), (7, .int r7), (6, .int r6), (0, .ref b), (1, .ref (ad 92)), (2, .ref (bd 0)), (3, .ref o), (4, .ref o2)]) hx hb dL_law_1783 hl (k := 7) rfl (lw_up j) (by decide) rfl (fun ls hl => ?_)
      refine lv_goto (tgt := 28) hx hb dL_law_1786 (by decide) ?_
      refine W.widen (k := 200 + 4 * (j + 1)) (n := 9000 + 24 * (j + 1)) (by omega) (by omega) ?_
      exact ih _ _ _ _ _ _ _ hR2 hw (lv_sub hl [3, 4, 5, 6, 7, 0] rfl)
set_option maxHeartbeats 4000000 in
set_option maxRecDepth 100000 in
theorem law_burstAt {p : Program} {l : Launch} {e : Env} {s : State} {m : MethodId} {below : List Frame} {meth : Method} {c : Code} {D : va_G} {cy : Nat → ClassId} {ss : Nat → Nat} {ad bd : Nat → Nat} {o o2 b L : Nat} {xs : Nat → Int32} (CX : LX p l s m meth c D cy ss b L xs) {j : Nat} (hj : 4 * j + 4 ≤ L) (ih : LH p l e s m below meth c D cy ad bd o o2 b (j + 1)) {C M : CS} {f : Nat → Int64} {g : Nat → UInt64} {H : Heap} {locs : List Loc} {ls : Array Slot} (hR : Rel C M) (hw : gw D (LA s) s.heap (CW cy ad C ++ (oL cy o f :: oD cy o2 g :: MW cy bd M)) H locs) (hl : lv_has ls 9 [(0, .ref b), (1, .ref (ad 92)), (2, .ref (bd 0)), (3, .ref o), (4, .ref o2), (5, .int (nI (4 * j)))]) : W p l e room_1 s m #[Value.ref b] below meth c H locs (200 + 4 * j) (9000 + 24 * j) (lw_Z below #[Value.ref b] s) (F0 m 881 ls []) := by
  obtain ⟨X, hE, hX, hbl, hbA, hlt, hL⟩ := CX
  have hx := X.1
  have hb := X.2.1
  obtain ⟨hS, hI, hR2⟩ := sim_burstAt hR (xs (nI (4 * j) + 1).toNatClampNeg) (xs (nI (4 * j) + 2).toNatClampNeg)
  refine lv_aload_n hx hb dL_law_881 rfl (lv_at hl 1 rfl) ?_
  refine lv_aload_n hx hb dL_law_882 rfl (lv_at hl 0 rfl) ?_
  refine lv_iload hx hb dL_law_883 (lv_at hl 5 rfl) ?_
  refine lv_iconst (v := 1) hx hb dL_law_885 (by decide) ?_
  refine lv_iadd hx hb dL_law_886 ?_
  refine va_sld hx hb hX hbl hbA hw.2.2 (lw_ix 1 hj hL (by decide)) dL_law_887 ?_
  refine lv_aload_n hx hb dL_law_888 rfl (lv_at hl 0 rfl) ?_
  refine lv_iload hx hb dL_law_889 (lv_at hl 5 rfl) ?_
  refine lv_iconst (v := 2) hx hb dL_law_891 (by decide) ?_
  refine lv_iadd hx hb dL_law_892 ?_
  refine va_sld hx hb hX hbl hbA hw.2.2 (lw_ix 2 hj hL (by decide)) dL_law_893 ?_
  refine lv_aload_n hx hb dL_law_894 rfl (lv_at hl 3 rfl) ?_
  refine gwS_i (rest := []) X hE (c_L_burstAt l hlt D cy ss ad o (oD cy o2 g :: MW cy bd M) C f (xs (nI (4 * j) + 1).toNatClampNeg) (xs (nI (4 * j) + 2).toNatClampNeg)) gy_L_burstAt gL_law_L_burstAt ⟨rfl, rfl, Nat.le_of_ble_eq_true rfl, Nat.le_of_ble_eq_true rfl⟩ rfl hl rfl (Nat.le_of_ble_eq_true rfl) dL_law_895 ⟨by show 200 + 4 * j + 2 ≤ 603072; omega, by show 9000 + 24 * j + 12 ≤ 7202922; omega⟩ hw (fun r6 u6 H locs hk hw => ?_)
  obtain ⟨uO, hu0⟩ : ∃ z, z = u6 := ⟨_, rfl⟩
  obtain ⟨hk, hout⟩ := hk
  rw [← hu0] at hout hw
  have hw : gw D (LA s) s.heap (CW cy ad C ++ (oL cy o uO :: oD cy o2 g :: MW cy bd M)) H locs := hw
  refine lv_istore (lv' := [(6, .int r6), (0, .ref b), (1, .ref (ad 92)), (2, .ref (bd 0)), (3, .ref o), (4, .ref o2), (5, .int (nI (4 * j)))]) hx hb dL_law_898 hl (by decide) rfl (fun ls hl => ?_)
  refine lv_aload_n hx hb dL_law_900 rfl (lv_at hl 3 rfl) ?_
  refine lv_aload_n hx hb dL_law_901 rfl (lv_at hl 1 rfl) ?_
  refine lv_iload hx hb dL_law_902 (lv_at hl 6 rfl) ?_
  refine lv_iconst (v := 1) hx hb dL_law_904 (by decide) ?_
  refine lv_iadd hx hb dL_law_905 ?_
  refine va_sld hx hb hX hbl hbA hw.2.2 (lw_ix 1 hj hL (by decide)) dL_law_906 ?_
  refine lv_aload_n hx hb dL_law_907 rfl (lv_at hl 1 rfl) ?_
  refine lv_iload hx hb dL_law_908 (lv_at hl 6 rfl) ?_
  refine lv_iconst (v := 2) hx hb dL_law_910 (by decide) ?_
  refine lv_iadd hx hb dL_law_911 ?_
  refine va_sld hx hb hX hbl hbA hw.2.2 (lw_ix 2 hj hL (by decide)) dL_law_912 ?_
  have hw := gw_lr hw
  refine gcV_i (rest := []) X (c_X7_burstAt l D cy bd (CW cy ad C ++ [oL cy o uO, oD cy o2 g]) M (xs (nI (4 * j) + 1).toNatClampNeg) (xs (nI (4 * j) + 2).toNatClampNeg) hS) gy_X7_burstAt gL_law_X7_burstAt ⟨rfl, rfl, Nat.le_of_ble_eq_true rfl, Nat.le_of_ble_eq_true rfl⟩ 0 rfl rfl rfl hl rfl (Nat.le_of_ble_eq_true rfl) dL_law_913 ⟨by show 200 + 4 * j + 2 ≤ 603072; omega, by show 9000 + 24 * j + 12 ≤ 7202922; omega⟩ hw (fun r7 ur7 H locs hr7 hw => ?_)
  obtain ⟨hr7, hM⟩ := hr7
  have hM : ur7 = (F_X7_burstAt M (xs (nI (4 * j) + 1).toNatClampNeg) (xs (nI (4 * j) + 2).toNatClampNeg)).2 := hM
  subst hM
  have hr7 : r7 = (F_X7_burstAt M (xs (nI (4 * j) + 1).toNatClampNeg) (xs (nI (4 * j) + 2).toNatClampNeg)).1 := hr7
  have hw := gw_rl hw
  have hw : gw D (LA s) s.heap (CW cy ad C ++ (oL cy o uO :: oD cy o2 g :: MW cy bd (F_X7_burstAt M (xs (nI (4 * j) + 1).toNatClampNeg) (xs (nI (4 * j) + 2).toNatClampNeg)).2)) H locs := hw
  have hb7 := hr7
  refine lv_istore (lv' := [(7, .int r7), (6, .int r6), (0, .ref b), (1, .ref (ad 92)), (2, .ref (bd 0)), (3, .ref o), (4, .ref o2), (5, .int (nI (4 * j)))]) hx hb dL_law_916 hl (by decide) rfl (fun ls hl => ?_)
  refine lv_aload_n hx hb dL_law_918 rfl (lv_at hl 4 rfl) ?_
  have hw := gw_lr hw
  refine gcV_i (rest := []) X (c_X7_thrown l D cy bd (CW cy ad C ++ [oL cy o uO, oD cy o2 g]) (F_X7_burstAt M (xs (nI (4 * j) + 1).toNatClampNeg) (xs (nI (4 * j) + 2).toNatClampNeg)).2) gy_X7_thrown gL_law_X7_thrown ⟨rfl, rfl, Nat.le_of_ble_eq_true rfl, Nat.le_of_ble_eq_true rfl⟩ 0 rfl rfl rfl hl rfl (Nat.le_of_ble_eq_true rfl) dL_law_919 ⟨by show 200 + 4 * j + 2 ≤ 603072; omega, by show 9000 + 24 * j + 12 ≤ 7202922; omega⟩ hw (fun r9x ur9x H locs hr9x hw => ?_)
  have hr9x : r9x = (F_X7_thrown (F_X7_burstAt M (xs (nI (4 * j) + 1).toNatClampNeg) (xs (nI (4 * j) + 2).toNatClampNeg)).2) := hr9x
  have hw := gw_rl hw
  have hw : gw D (LA s) s.heap (CW cy ad C ++ (oL cy o uO :: oD cy o2 g :: MW cy bd (F_X7_burstAt M (xs (nI (4 * j) + 1).toNatClampNeg) (xs (nI (4 * j) + 2).toNatClampNeg)).2)) H locs := hw
  have hthr : r9x = r6 := by rw [hr9x, hk]; exact (F_X7_thrown.eq_1 _).trans (simI_k hI)
  refine lv_iload hx hb dL_law_922 (lv_at hl 1 rfl) ?_
  refine lv_icmp_eq (tgt := 929) hx hb dL_law_924 (by decide) (fun _ => ?_) (fun c9 => absurd (hthr) c9)
  refine lv_iload hx hb dL_law_929 (lv_at hl 1 rfl) ?_
  refine lv_if_ne (tgt := 946) hx hb dL_law_931 (by decide) (fun c6 => ?_) (fun c6 => ?_)
  · skip
    refine lv_goto (tgt := 1783) hx hb dL_law_946 (by decide) ?_
    refine lv_iinc (v := nI (4 * (j + 1))) (lv' := [(5, .int (nI (4 * (j + 1)))), (7, .int r7), (6, .int r6), (0, .ref b), (1, .ref (ad 92)), (2, .ref (bd 0)), (3, .ref o), (4, .ref o2)]) hx hb dL_law_1783 hl (k := 7) rfl (lw_up j) (by decide) rfl (fun ls hl => ?_)
    refine lv_goto (tgt := 28) hx hb dL_law_1786 (by decide) ?_
    refine W.widen (k := 200 + 4 * (j + 1)) (n := 9000 + 24 * (j + 1)) (by omega) (by omega) ?_
    exact ih _ _ _ _ _ _ _ hR2 hw (lv_sub hl [3, 4, 5, 6, 7, 0] rfl)
  · skip
    have hoo := hout.trans (simI_o hI (hk.symm.trans c6) vp_updL f (fun v : Int32 => v.toInt64))
    refine lv_aload_n hx hb dL_law_934 rfl (lv_at hl 5 rfl) ?_
    refine lv_iconst (v := 0) hx hb dL_law_935 (by decide) ?_
    refine g_laldk (k := 0) rfl X hw 102 rfl (vk rfl) dL_law_936 ?_
    refine lv_iload hx hb dL_law_937 (lv_at hl 0 rfl) ?_
    refine lv_i2l (v := r7.toInt64) hx hb dL_law_939 rfl ?_
    refine W.lcmp hx hb dL_law_940 ?_
    refine lv_if_eq (tgt := 946) hx hb dL_law_941 (by decide) (fun _ => ?_) (fun c9 => absurd (by rw [hoo, hb7]; exact lg_same _) c9)
    refine lv_goto (tgt := 1783) hx hb dL_law_946 (by decide) ?_
    refine lv_iinc (v := nI (4 * (j + 1))) (lv' := [(5, .int (nI (4 * (j + 1)))), (7, .int r7), (6, .int r6), (0, .ref b), (1, .ref (ad 92)), (2, .ref (bd 0)), (3, .ref o), (4, .ref o2)]) hx hb dL_law_1783 hl (k := 7) rfl (lw_up j) (by decide) rfl (fun ls hl => ?_)
    refine lv_goto (tgt := 28) hx hb dL_law_1786 (by decide) ?_
    refine W.widen (k := 200 + 4 * (j + 1)) (n := 9000 + 24 * (j + 1)) (by omega) (by omega) ?_
    exact ih _ _ _ _ _ _ _ hR2 hw (lv_sub hl [3, 4, 5, 6, 7, 0] rfl)
set_option maxHeartbeats 4000000 in
set_option maxRecDepth 100000 in
theorem law_joined {p : Program} {l : Launch} {e : Env} {s : State} {m : MethodId} {below : List Frame} {meth : Method} {c : Code} {D : va_G} {cy : Nat → ClassId} {ss : Nat → Nat} {ad bd : Nat → Nat} {o o2 b L : Nat} {xs : Nat → Int32} (CX : LX p l s m meth c D cy ss b L xs) {j : Nat} (hj : 4 * j + 4 ≤ L) (ih : LH p l e s m below meth c D cy ad bd o o2 b (j + 1)) {C M : CS} {f : Nat → Int64} {g : Nat → UInt64} {H : Heap} {locs : List Loc} {ls : Array Slot} (hR : Rel C M) (hw : gw D (LA s) s.heap (CW cy ad C ++ (oL cy o f :: oD cy o2 g :: MW cy bd M)) H locs) (hl : lv_has ls 9 [(0, .ref b), (1, .ref (ad 92)), (2, .ref (bd 0)), (3, .ref o), (4, .ref o2), (5, .int (nI (4 * j)))]) : W p l e room_1 s m #[Value.ref b] below meth c H locs (200 + 4 * j) (9000 + 24 * j) (lw_Z below #[Value.ref b] s) (F0 m 949 ls []) := by
  obtain ⟨X, hE, hX, hbl, hbA, hlt, hL⟩ := CX
  have hx := X.1
  have hb := X.2.1
  obtain ⟨hS, hI, hR2⟩ := sim_joined hR (xs (nI (4 * j) + 1).toNatClampNeg) (xs (nI (4 * j) + 2).toNatClampNeg)
  refine lv_aload_n hx hb dL_law_949 rfl (lv_at hl 1 rfl) ?_
  refine lv_aload_n hx hb dL_law_950 rfl (lv_at hl 0 rfl) ?_
  refine lv_iload hx hb dL_law_951 (lv_at hl 5 rfl) ?_
  refine lv_iconst (v := 1) hx hb dL_law_953 (by decide) ?_
  refine lv_iadd hx hb dL_law_954 ?_
  refine va_sld hx hb hX hbl hbA hw.2.2 (lw_ix 1 hj hL (by decide)) dL_law_955 ?_
  refine lv_aload_n hx hb dL_law_956 rfl (lv_at hl 0 rfl) ?_
  refine lv_iload hx hb dL_law_957 (lv_at hl 5 rfl) ?_
  refine lv_iconst (v := 2) hx hb dL_law_959 (by decide) ?_
  refine lv_iadd hx hb dL_law_960 ?_
  refine va_sld hx hb hX hbl hbA hw.2.2 (lw_ix 2 hj hL (by decide)) dL_law_961 ?_
  refine lv_aload_n hx hb dL_law_962 rfl (lv_at hl 3 rfl) ?_
  refine gwS_i (rest := []) X hE (c_L_joined l hlt D cy ss ad o (oD cy o2 g :: MW cy bd M) C f (xs (nI (4 * j) + 1).toNatClampNeg) (xs (nI (4 * j) + 2).toNatClampNeg)) gy_L_joined gL_law_L_joined ⟨rfl, rfl, Nat.le_of_ble_eq_true rfl, Nat.le_of_ble_eq_true rfl⟩ rfl hl rfl (Nat.le_of_ble_eq_true rfl) dL_law_963 ⟨by show 200 + 4 * j + 3 ≤ 603072; omega, by show 9000 + 24 * j + 18 ≤ 7202922; omega⟩ hw (fun r6 u6 H locs hk hw => ?_)
  obtain ⟨uO, hu0⟩ : ∃ z, z = u6 := ⟨_, rfl⟩
  obtain ⟨hk, hout⟩ := hk
  rw [← hu0] at hout hw
  have hw : gw D (LA s) s.heap (CW cy ad C ++ (oL cy o uO :: oD cy o2 g :: MW cy bd M)) H locs := hw
  refine lv_istore (lv' := [(6, .int r6), (0, .ref b), (1, .ref (ad 92)), (2, .ref (bd 0)), (3, .ref o), (4, .ref o2), (5, .int (nI (4 * j)))]) hx hb dL_law_966 hl (by decide) rfl (fun ls hl => ?_)
  refine lv_aload_n hx hb dL_law_968 rfl (lv_at hl 3 rfl) ?_
  refine lv_aload_n hx hb dL_law_969 rfl (lv_at hl 1 rfl) ?_
  refine lv_iload hx hb dL_law_970 (lv_at hl 6 rfl) ?_
  refine lv_iconst (v := 1) hx hb dL_law_972 (by decide) ?_
  refine lv_iadd hx hb dL_law_973 ?_
  refine va_sld hx hb hX hbl hbA hw.2.2 (lw_ix 1 hj hL (by decide)) dL_law_974 ?_
  refine lv_aload_n hx hb dL_law_975 rfl (lv_at hl 1 rfl) ?_
  refine lv_iload hx hb dL_law_976 (lv_at hl 6 rfl) ?_
  refine lv_iconst (v := 2) hx hb dL_law_978 (by decide) ?_
  refine lv_iadd hx hb dL_law_979 ?_
  refine va_sld hx hb hX hbl hbA hw.2.2 (lw_ix 2 hj hL (by decide)) dL_law_980 ?_
  have hw := gw_lr hw
  refine gcV_i (rest := []) X (c_X7_joined l D cy bd (CW cy ad C ++ [oL cy o uO, oD cy o2 g]) M (xs (nI (4 * j) + 1).toNatClampNeg) (xs (nI (4 * j) + 2).toNatClampNeg) hS) gy_X7_joined gL_law_X7_joined ⟨rfl, rfl, Nat.le_of_ble_eq_true rfl, Nat.le_of_ble_eq_true rfl⟩ 0 rfl rfl rfl hl rfl (Nat.le_of_ble_eq_true rfl) dL_law_981 ⟨by show 200 + 4 * j + 3 ≤ 603072; omega, by show 9000 + 24 * j + 18 ≤ 7202922; omega⟩ hw (fun r7 ur7 H locs hr7 hw => ?_)
  obtain ⟨hr7, hM⟩ := hr7
  have hM : ur7 = (F_X7_joined M (xs (nI (4 * j) + 1).toNatClampNeg) (xs (nI (4 * j) + 2).toNatClampNeg)).2 := hM
  subst hM
  have hr7 : r7 = (F_X7_joined M (xs (nI (4 * j) + 1).toNatClampNeg) (xs (nI (4 * j) + 2).toNatClampNeg)).1 := hr7
  have hw := gw_rl hw
  have hw : gw D (LA s) s.heap (CW cy ad C ++ (oL cy o uO :: oD cy o2 g :: MW cy bd (F_X7_joined M (xs (nI (4 * j) + 1).toNatClampNeg) (xs (nI (4 * j) + 2).toNatClampNeg)).2)) H locs := hw
  have hb7 := hr7
  refine lv_istore (lv' := [(7, .int r7), (6, .int r6), (0, .ref b), (1, .ref (ad 92)), (2, .ref (bd 0)), (3, .ref o), (4, .ref o2), (5, .int (nI (4 * j)))]) hx hb dL_law_984 hl (by decide) rfl (fun ls hl => ?_)
  refine lv_aload_n hx hb dL_law_986 rfl (lv_at hl 4 rfl) ?_
  have hw := gw_lr hw
  refine gcV_i (rest := []) X (c_X7_thrown l D cy bd (CW cy ad C ++ [oL cy o uO, oD cy o2 g]) (F_X7_joined M (xs (nI (4 * j) + 1).toNatClampNeg) (xs (nI (4 * j) + 2).toNatClampNeg)).2) gy_X7_thrown gL_law_X7_thrown ⟨rfl, rfl, Nat.le_of_ble_eq_true rfl, Nat.le_of_ble_eq_true rfl⟩ 0 rfl rfl rfl hl rfl (Nat.le_of_ble_eq_true rfl) dL_law_987 ⟨by show 200 + 4 * j + 3 ≤ 603072; omega, by show 9000 + 24 * j + 18 ≤ 7202922; omega⟩ hw (fun r9x ur9x H locs hr9x hw => ?_)
  have hr9x : r9x = (F_X7_thrown (F_X7_joined M (xs (nI (4 * j) + 1).toNatClampNeg) (xs (nI (4 * j) + 2).toNatClampNeg)).2) := hr9x
  have hw := gw_rl hw
  have hw : gw D (LA s) s.heap (CW cy ad C ++ (oL cy o uO :: oD cy o2 g :: MW cy bd (F_X7_joined M (xs (nI (4 * j) + 1).toNatClampNeg) (xs (nI (4 * j) + 2).toNatClampNeg)).2)) H locs := hw
  have hthr : r9x = r6 := by rw [hr9x, hk]; exact (F_X7_thrown.eq_1 _).trans (simI_k hI)
  refine lv_iload hx hb dL_law_990 (lv_at hl 1 rfl) ?_
  refine lv_icmp_eq (tgt := 997) hx hb dL_law_992 (by decide) (fun _ => ?_) (fun c9 => absurd (hthr) c9)
  refine lv_iload hx hb dL_law_997 (lv_at hl 1 rfl) ?_
  refine lv_if_ne (tgt := 1014) hx hb dL_law_999 (by decide) (fun c6 => ?_) (fun c6 => ?_)
  · skip
    refine lv_goto (tgt := 1783) hx hb dL_law_1014 (by decide) ?_
    refine lv_iinc (v := nI (4 * (j + 1))) (lv' := [(5, .int (nI (4 * (j + 1)))), (7, .int r7), (6, .int r6), (0, .ref b), (1, .ref (ad 92)), (2, .ref (bd 0)), (3, .ref o), (4, .ref o2)]) hx hb dL_law_1783 hl (k := 7) rfl (lw_up j) (by decide) rfl (fun ls hl => ?_)
    refine lv_goto (tgt := 28) hx hb dL_law_1786 (by decide) ?_
    refine W.widen (k := 200 + 4 * (j + 1)) (n := 9000 + 24 * (j + 1)) (by omega) (by omega) ?_
    exact ih _ _ _ _ _ _ _ hR2 hw (lv_sub hl [3, 4, 5, 6, 7, 0] rfl)
  · skip
    have hoo := hout.trans (simI_o hI (hk.symm.trans c6) vp_updL f (fun v : Int32 => v.toInt64))
    refine lv_aload_n hx hb dL_law_1002 rfl (lv_at hl 5 rfl) ?_
    refine lv_iconst (v := 0) hx hb dL_law_1003 (by decide) ?_
    refine g_laldk (k := 0) rfl X hw 102 rfl (vk rfl) dL_law_1004 ?_
    refine lv_iload hx hb dL_law_1005 (lv_at hl 0 rfl) ?_
    refine lv_i2l (v := r7.toInt64) hx hb dL_law_1007 rfl ?_
    refine W.lcmp hx hb dL_law_1008 ?_
    refine lv_if_eq (tgt := 1014) hx hb dL_law_1009 (by decide) (fun _ => ?_) (fun c9 => absurd (by rw [hoo, hb7]; exact lg_same _) c9)
    refine lv_goto (tgt := 1783) hx hb dL_law_1014 (by decide) ?_
    refine lv_iinc (v := nI (4 * (j + 1))) (lv' := [(5, .int (nI (4 * (j + 1)))), (7, .int r7), (6, .int r6), (0, .ref b), (1, .ref (ad 92)), (2, .ref (bd 0)), (3, .ref o), (4, .ref o2)]) hx hb dL_law_1783 hl (k := 7) rfl (lw_up j) (by decide) rfl (fun ls hl => ?_)
    refine lv_goto (tgt := 28) hx hb dL_law_1786 (by decide) ?_
    refine W.widen (k := 200 + 4 * (j + 1)) (n := 9000 + 24 * (j + 1)) (by omega) (by omega) ?_
    exact ih _ _ _ _ _ _ _ hR2 hw (lv_sub hl [3, 4, 5, 6, 7, 0] rfl)
set_option maxHeartbeats 4000000 in
set_option maxRecDepth 100000 in
theorem law_record {p : Program} {l : Launch} {e : Env} {s : State} {m : MethodId} {below : List Frame} {meth : Method} {c : Code} {D : va_G} {cy : Nat → ClassId} {ss : Nat → Nat} {ad bd : Nat → Nat} {o o2 b L : Nat} {xs : Nat → Int32} (CX : LX p l s m meth c D cy ss b L xs) {j : Nat} (hj : 4 * j + 4 ≤ L) (ih : LH p l e s m below meth c D cy ad bd o o2 b (j + 1)) {C M : CS} {f : Nat → Int64} {g : Nat → UInt64} {H : Heap} {locs : List Loc} {ls : Array Slot} (hR : Rel C M) (hw : gw D (LA s) s.heap (CW cy ad C ++ (oL cy o f :: oD cy o2 g :: MW cy bd M)) H locs) (hl : lv_has ls 9 [(0, .ref b), (1, .ref (ad 92)), (2, .ref (bd 0)), (3, .ref o), (4, .ref o2), (5, .int (nI (4 * j)))]) : W p l e room_1 s m #[Value.ref b] below meth c H locs (200 + 4 * j) (9000 + 24 * j) (lw_Z below #[Value.ref b] s) (F0 m 1017 ls []) := by
  obtain ⟨X, hE, hX, hbl, hbA, hlt, hL⟩ := CX
  have hx := X.1
  have hb := X.2.1
  refine lv_aload_n hx hb dL_law_1017 rfl (lv_at hl 1 rfl) ?_
  refine lv_aload_n hx hb dL_law_1018 rfl (lv_at hl 0 rfl) ?_
  refine lv_iload hx hb dL_law_1019 (lv_at hl 5 rfl) ?_
  refine lv_iconst (v := 1) hx hb dL_law_1021 (by decide) ?_
  refine lv_iadd hx hb dL_law_1022 ?_
  refine va_sld hx hb hX hbl hbA hw.2.2 (lw_ix 1 hj hL (by decide)) dL_law_1023 ?_
  refine lv_aload_n hx hb dL_law_1024 rfl (lv_at hl 0 rfl) ?_
  refine lv_iload hx hb dL_law_1025 (lv_at hl 5 rfl) ?_
  refine lv_iconst (v := 2) hx hb dL_law_1027 (by decide) ?_
  refine lv_iadd hx hb dL_law_1028 ?_
  refine va_sld hx hb hX hbl hbA hw.2.2 (lw_ix 2 hj hL (by decide)) dL_law_1029 ?_
  refine lv_aload_n hx hb dL_law_1030 rfl (lv_at hl 0 rfl) ?_
  refine lv_iload hx hb dL_law_1031 (lv_at hl 5 rfl) ?_
  refine lv_iconst (v := 3) hx hb dL_law_1033 (by decide) ?_
  refine lv_iadd hx hb dL_law_1034 ?_
  refine va_sld hx hb hX hbl hbA hw.2.2 (lw_ix 3 hj hL (by decide)) dL_law_1035 ?_
  refine lv_if_eq (tgt := 1043) hx hb dL_law_1036 (by decide) (fun cq => ?_) (fun cq => ?_)
  · skip
    obtain ⟨hS, hI, hR2⟩ := sim_record hR (xs (nI (4 * j) + 1).toNatClampNeg) (xs (nI (4 * j) + 2).toNatClampNeg) 0
    refine lv_iconst (v := 0) hx hb dL_law_1043 (by decide) ?_
    refine lv_aload_n hx hb dL_law_1044 rfl (lv_at hl 3 rfl) ?_
    refine gwS_i (rest := []) X hE (c_L_record l hlt D cy ss ad o (oD cy o2 g :: MW cy bd M) C f (xs (nI (4 * j) + 1).toNatClampNeg) (xs (nI (4 * j) + 2).toNatClampNeg) 0) gy_L_record gL_law_L_record ⟨rfl, rfl, Nat.le_of_ble_eq_true rfl, Nat.le_of_ble_eq_true rfl⟩ rfl hl rfl (Nat.le_of_ble_eq_true rfl) dL_law_1045 ⟨by show 200 + 4 * j + 2 ≤ 603072; omega, by show 9000 + 24 * j + 12 ≤ 7202922; omega⟩ hw (fun r6 u6 H locs hk hw => ?_)
    obtain ⟨uO, hu0⟩ : ∃ z, z = u6 := ⟨_, rfl⟩
    obtain ⟨hk, hout⟩ := hk
    rw [← hu0] at hout hw
    have hw : gw D (LA s) s.heap (CW cy ad C ++ (oL cy o uO :: oD cy o2 g :: MW cy bd M)) H locs := hw
    refine lv_istore (lv' := [(6, .int r6), (0, .ref b), (1, .ref (ad 92)), (2, .ref (bd 0)), (3, .ref o), (4, .ref o2), (5, .int (nI (4 * j)))]) hx hb dL_law_1048 hl (by decide) rfl (fun ls hl => ?_)
    refine lv_aload_n hx hb dL_law_1050 rfl (lv_at hl 3 rfl) ?_
    refine lv_aload_n hx hb dL_law_1051 rfl (lv_at hl 1 rfl) ?_
    refine lv_iload hx hb dL_law_1052 (lv_at hl 6 rfl) ?_
    refine lv_iconst (v := 1) hx hb dL_law_1054 (by decide) ?_
    refine lv_iadd hx hb dL_law_1055 ?_
    refine va_sld hx hb hX hbl hbA hw.2.2 (lw_ix 1 hj hL (by decide)) dL_law_1056 ?_
    refine lv_aload_n hx hb dL_law_1057 rfl (lv_at hl 1 rfl) ?_
    refine lv_iload hx hb dL_law_1058 (lv_at hl 6 rfl) ?_
    refine lv_iconst (v := 2) hx hb dL_law_1060 (by decide) ?_
    refine lv_iadd hx hb dL_law_1061 ?_
    refine va_sld hx hb hX hbl hbA hw.2.2 (lw_ix 2 hj hL (by decide)) dL_law_1062 ?_
    refine lv_aload_n hx hb dL_law_1063 rfl (lv_at hl 1 rfl) ?_
    refine lv_iload hx hb dL_law_1064 (lv_at hl 6 rfl) ?_
    refine lv_iconst (v := 3) hx hb dL_law_1066 (by decide) ?_
    refine lv_iadd hx hb dL_law_1067 ?_
    refine va_sld hx hb hX hbl hbA hw.2.2 (lw_ix 3 hj hL (by decide)) dL_law_1068 ?_
    refine lv_if_eq (tgt := 1076) hx hb dL_law_1069 (by decide) (fun _ => ?_) (fun c9 => absurd cq c9)
    refine lv_iconst (v := 0) hx hb dL_law_1076 (by decide) ?_
    have hw := gw_lr hw
    refine gcV_i (rest := []) X (c_X7_record l D cy bd (CW cy ad C ++ [oL cy o uO, oD cy o2 g]) M (xs (nI (4 * j) + 1).toNatClampNeg) (xs (nI (4 * j) + 2).toNatClampNeg) 0 hS) gy_X7_record gL_law_X7_record ⟨rfl, rfl, Nat.le_of_ble_eq_true rfl, Nat.le_of_ble_eq_true rfl⟩ 0 rfl rfl rfl hl rfl (Nat.le_of_ble_eq_true rfl) dL_law_1077 ⟨by show 200 + 4 * j + 2 ≤ 603072; omega, by show 9000 + 24 * j + 12 ≤ 7202922; omega⟩ hw (fun r7 ur7 H locs hr7 hw => ?_)
    obtain ⟨hr7, hM⟩ := hr7
    have hM : ur7 = (F_X7_record M (xs (nI (4 * j) + 1).toNatClampNeg) (xs (nI (4 * j) + 2).toNatClampNeg) 0).2 := hM
    subst hM
    have hr7 : r7 = (F_X7_record M (xs (nI (4 * j) + 1).toNatClampNeg) (xs (nI (4 * j) + 2).toNatClampNeg) 0).1 := hr7
    have hw := gw_rl hw
    have hw : gw D (LA s) s.heap (CW cy ad C ++ (oL cy o uO :: oD cy o2 g :: MW cy bd (F_X7_record M (xs (nI (4 * j) + 1).toNatClampNeg) (xs (nI (4 * j) + 2).toNatClampNeg) 0).2)) H locs := hw
    have hb7 := hr7
    refine lv_istore (lv' := [(7, .int r7), (6, .int r6), (0, .ref b), (1, .ref (ad 92)), (2, .ref (bd 0)), (3, .ref o), (4, .ref o2), (5, .int (nI (4 * j)))]) hx hb dL_law_1080 hl (by decide) rfl (fun ls hl => ?_)
    refine lv_aload_n hx hb dL_law_1082 rfl (lv_at hl 4 rfl) ?_
    have hw := gw_lr hw
    refine gcV_i (rest := []) X (c_X7_thrown l D cy bd (CW cy ad C ++ [oL cy o uO, oD cy o2 g]) (F_X7_record M (xs (nI (4 * j) + 1).toNatClampNeg) (xs (nI (4 * j) + 2).toNatClampNeg) 0).2) gy_X7_thrown gL_law_X7_thrown ⟨rfl, rfl, Nat.le_of_ble_eq_true rfl, Nat.le_of_ble_eq_true rfl⟩ 0 rfl rfl rfl hl rfl (Nat.le_of_ble_eq_true rfl) dL_law_1083 ⟨by show 200 + 4 * j + 2 ≤ 603072; omega, by show 9000 + 24 * j + 12 ≤ 7202922; omega⟩ hw (fun r9x ur9x H locs hr9x hw => ?_)
    have hr9x : r9x = (F_X7_thrown (F_X7_record M (xs (nI (4 * j) + 1).toNatClampNeg) (xs (nI (4 * j) + 2).toNatClampNeg) 0).2) := hr9x
    have hw := gw_rl hw
    have hw : gw D (LA s) s.heap (CW cy ad C ++ (oL cy o uO :: oD cy o2 g :: MW cy bd (F_X7_record M (xs (nI (4 * j) + 1).toNatClampNeg) (xs (nI (4 * j) + 2).toNatClampNeg) 0).2)) H locs := hw
    have hthr : r9x = r6 := by rw [hr9x, hk]; exact (F_X7_thrown.eq_1 _).trans (simI_k hI)
    refine lv_iload hx hb dL_law_1086 (lv_at hl 1 rfl) ?_
    refine lv_icmp_eq (tgt := 1093) hx hb dL_law_1088 (by decide) (fun _ => ?_) (fun c9 => absurd (hthr) c9)
    refine lv_iload hx hb dL_law_1093 (lv_at hl 1 rfl) ?_
    refine lv_if_ne (tgt := 1110) hx hb dL_law_1095 (by decide) (fun c6 => ?_) (fun c6 => ?_)
    · skip
      refine lv_goto (tgt := 1783) hx hb dL_law_1110 (by decide) ?_
      refine lv_iinc (v := nI (4 * (j + 1))) (lv' := [(5, .int (nI (4 * (j + 1)))), (7, .int r7), (6, .int r6), (0, .ref b), (1, .ref (ad 92)), (2, .ref (bd 0)), (3, .ref o), (4, .ref o2)]) hx hb dL_law_1783 hl (k := 7) rfl (lw_up j) (by decide) rfl (fun ls hl => ?_)
      refine lv_goto (tgt := 28) hx hb dL_law_1786 (by decide) ?_
      refine W.widen (k := 200 + 4 * (j + 1)) (n := 9000 + 24 * (j + 1)) (by omega) (by omega) ?_
      exact ih _ _ _ _ _ _ _ hR2 hw (lv_sub hl [3, 4, 5, 6, 7, 0] rfl)
    · skip
      have hoo := hout.trans (simI_o hI (hk.symm.trans c6) vp_updL f (fun v : Int32 => v.toInt64))
      refine lv_aload_n hx hb dL_law_1098 rfl (lv_at hl 5 rfl) ?_
      refine lv_iconst (v := 0) hx hb dL_law_1099 (by decide) ?_
      refine g_laldk (k := 0) rfl X hw 102 rfl (vk rfl) dL_law_1100 ?_
      refine lv_iload hx hb dL_law_1101 (lv_at hl 0 rfl) ?_
      refine lv_i2l (v := r7.toInt64) hx hb dL_law_1103 rfl ?_
      refine W.lcmp hx hb dL_law_1104 ?_
      refine lv_if_eq (tgt := 1110) hx hb dL_law_1105 (by decide) (fun _ => ?_) (fun c9 => absurd (by rw [hoo, hb7]; exact lg_same _) c9)
      refine lv_goto (tgt := 1783) hx hb dL_law_1110 (by decide) ?_
      refine lv_iinc (v := nI (4 * (j + 1))) (lv' := [(5, .int (nI (4 * (j + 1)))), (7, .int r7), (6, .int r6), (0, .ref b), (1, .ref (ad 92)), (2, .ref (bd 0)), (3, .ref o), (4, .ref o2)]) hx hb dL_law_1783 hl (k := 7) rfl (lw_up j) (by decide) rfl (fun ls hl => ?_)
      refine lv_goto (tgt := 28) hx hb dL_law_1786 (by decide) ?_
      refine W.widen (k := 200 + 4 * (j + 1)) (n := 9000 + 24 * (j + 1)) (by omega) (by omega) ?_
      exact ih _ _ _ _ _ _ _ hR2 hw (lv_sub hl [3, 4, 5, 6, 7, 0] rfl)
  · skip
    obtain ⟨hS, hI, hR2⟩ := sim_record hR (xs (nI (4 * j) + 1).toNatClampNeg) (xs (nI (4 * j) + 2).toNatClampNeg) 1
    refine lv_iconst (v := 1) hx hb dL_law_1039 (by decide) ?_
    refine lv_goto (tgt := 1044) hx hb dL_law_1040 (by decide) ?_
    refine lv_aload_n hx hb dL_law_1044 rfl (lv_at hl 3 rfl) ?_
    refine gwS_i (rest := []) X hE (c_L_record l hlt D cy ss ad o (oD cy o2 g :: MW cy bd M) C f (xs (nI (4 * j) + 1).toNatClampNeg) (xs (nI (4 * j) + 2).toNatClampNeg) 1) gy_L_record gL_law_L_record ⟨rfl, rfl, Nat.le_of_ble_eq_true rfl, Nat.le_of_ble_eq_true rfl⟩ rfl hl rfl (Nat.le_of_ble_eq_true rfl) dL_law_1045 ⟨by show 200 + 4 * j + 2 ≤ 603072; omega, by show 9000 + 24 * j + 12 ≤ 7202922; omega⟩ hw (fun r6 u6 H locs hk hw => ?_)
    obtain ⟨uO, hu0⟩ : ∃ z, z = u6 := ⟨_, rfl⟩
    obtain ⟨hk, hout⟩ := hk
    rw [← hu0] at hout hw
    have hw : gw D (LA s) s.heap (CW cy ad C ++ (oL cy o uO :: oD cy o2 g :: MW cy bd M)) H locs := hw
    refine lv_istore (lv' := [(6, .int r6), (0, .ref b), (1, .ref (ad 92)), (2, .ref (bd 0)), (3, .ref o), (4, .ref o2), (5, .int (nI (4 * j)))]) hx hb dL_law_1048 hl (by decide) rfl (fun ls hl => ?_)
    refine lv_aload_n hx hb dL_law_1050 rfl (lv_at hl 3 rfl) ?_
    refine lv_aload_n hx hb dL_law_1051 rfl (lv_at hl 1 rfl) ?_
    refine lv_iload hx hb dL_law_1052 (lv_at hl 6 rfl) ?_
    refine lv_iconst (v := 1) hx hb dL_law_1054 (by decide) ?_
    refine lv_iadd hx hb dL_law_1055 ?_
    refine va_sld hx hb hX hbl hbA hw.2.2 (lw_ix 1 hj hL (by decide)) dL_law_1056 ?_
    refine lv_aload_n hx hb dL_law_1057 rfl (lv_at hl 1 rfl) ?_
    refine lv_iload hx hb dL_law_1058 (lv_at hl 6 rfl) ?_
    refine lv_iconst (v := 2) hx hb dL_law_1060 (by decide) ?_
    refine lv_iadd hx hb dL_law_1061 ?_
    refine va_sld hx hb hX hbl hbA hw.2.2 (lw_ix 2 hj hL (by decide)) dL_law_1062 ?_
    refine lv_aload_n hx hb dL_law_1063 rfl (lv_at hl 1 rfl) ?_
    refine lv_iload hx hb dL_law_1064 (lv_at hl 6 rfl) ?_
    refine lv_iconst (v := 3) hx hb dL_law_1066 (by decide) ?_
    refine lv_iadd hx hb dL_law_1067 ?_
    refine va_sld hx hb hX hbl hbA hw.2.2 (lw_ix 3 hj hL (by decide)) dL_law_1068 ?_
    refine lv_if_eq (tgt := 1076) hx hb dL_law_1069 (by decide) (fun c9 => absurd c9 cq) (fun _ => ?_)
    refine lv_iconst (v := 1) hx hb dL_law_1072 (by decide) ?_
    refine lv_goto (tgt := 1077) hx hb dL_law_1073 (by decide) ?_
    have hw := gw_lr hw
    refine gcV_i (rest := []) X (c_X7_record l D cy bd (CW cy ad C ++ [oL cy o uO, oD cy o2 g]) M (xs (nI (4 * j) + 1).toNatClampNeg) (xs (nI (4 * j) + 2).toNatClampNeg) 1 hS) gy_X7_record gL_law_X7_record ⟨rfl, rfl, Nat.le_of_ble_eq_true rfl, Nat.le_of_ble_eq_true rfl⟩ 0 rfl rfl rfl hl rfl (Nat.le_of_ble_eq_true rfl) dL_law_1077 ⟨by show 200 + 4 * j + 2 ≤ 603072; omega, by show 9000 + 24 * j + 12 ≤ 7202922; omega⟩ hw (fun r7 ur7 H locs hr7 hw => ?_)
    obtain ⟨hr7, hM⟩ := hr7
    have hM : ur7 = (F_X7_record M (xs (nI (4 * j) + 1).toNatClampNeg) (xs (nI (4 * j) + 2).toNatClampNeg) 1).2 := hM
    subst hM
    have hr7 : r7 = (F_X7_record M (xs (nI (4 * j) + 1).toNatClampNeg) (xs (nI (4 * j) + 2).toNatClampNeg) 1).1 := hr7
    have hw := gw_rl hw
    have hw : gw D (LA s) s.heap (CW cy ad C ++ (oL cy o uO :: oD cy o2 g :: MW cy bd (F_X7_record M (xs (nI (4 * j) + 1).toNatClampNeg) (xs (nI (4 * j) + 2).toNatClampNeg) 1).2)) H locs := hw
    have hb7 := hr7
    refine lv_istore (lv' := [(7, .int r7), (6, .int r6), (0, .ref b), (1, .ref (ad 92)), (2, .ref (bd 0)), (3, .ref o), (4, .ref o2), (5, .int (nI (4 * j)))]) hx hb dL_law_1080 hl (by decide) rfl (fun ls hl => ?_)
    refine lv_aload_n hx hb dL_law_1082 rfl (lv_at hl 4 rfl) ?_
    have hw := gw_lr hw
    refine gcV_i (rest := []) X (c_X7_thrown l D cy bd (CW cy ad C ++ [oL cy o uO, oD cy o2 g]) (F_X7_record M (xs (nI (4 * j) + 1).toNatClampNeg) (xs (nI (4 * j) + 2).toNatClampNeg) 1).2) gy_X7_thrown gL_law_X7_thrown ⟨rfl, rfl, Nat.le_of_ble_eq_true rfl, Nat.le_of_ble_eq_true rfl⟩ 0 rfl rfl rfl hl rfl (Nat.le_of_ble_eq_true rfl) dL_law_1083 ⟨by show 200 + 4 * j + 2 ≤ 603072; omega, by show 9000 + 24 * j + 12 ≤ 7202922; omega⟩ hw (fun r11x ur11x H locs hr11x hw => ?_)
    have hr11x : r11x = (F_X7_thrown (F_X7_record M (xs (nI (4 * j) + 1).toNatClampNeg) (xs (nI (4 * j) + 2).toNatClampNeg) 1).2) := hr11x
    have hw := gw_rl hw
    have hw : gw D (LA s) s.heap (CW cy ad C ++ (oL cy o uO :: oD cy o2 g :: MW cy bd (F_X7_record M (xs (nI (4 * j) + 1).toNatClampNeg) (xs (nI (4 * j) + 2).toNatClampNeg) 1).2)) H locs := hw
    have hthr : r11x = r6 := by rw [hr11x, hk]; exact (F_X7_thrown.eq_1 _).trans (simI_k hI)
    refine lv_iload hx hb dL_law_1086 (lv_at hl 1 rfl) ?_
    refine lv_icmp_eq (tgt := 1093) hx hb dL_law_1088 (by decide) (fun _ => ?_) (fun c9 => absurd (hthr) c9)
    refine lv_iload hx hb dL_law_1093 (lv_at hl 1 rfl) ?_
    refine lv_if_ne (tgt := 1110) hx hb dL_law_1095 (by decide) (fun c6 => ?_) (fun c6 => ?_)
    · skip
      refine lv_goto (tgt := 1783) hx hb dL_law_1110 (by decide) ?_
      refine lv_iinc (v := nI (4 * (j + 1))) (lv' := [(5, .int (nI (4 * (j + 1)))), (7, .int r7), (6, .int r6), (0, .ref b), (1, .ref (ad 92)), (2, .ref (bd 0)), (3, .ref o), (4, .ref o2)]) hx hb dL_law_1783 hl (k := 7) rfl (lw_up j) (by decide) rfl (fun ls hl => ?_)
      refine lv_goto (tgt := 28) hx hb dL_law_1786 (by decide) ?_
      refine W.widen (k := 200 + 4 * (j + 1)) (n := 9000 + 24 * (j + 1)) (by omega) (by omega) ?_
      exact ih _ _ _ _ _ _ _ hR2 hw (lv_sub hl [3, 4, 5, 6, 7, 0] rfl)
    · skip
      have hoo := hout.trans (simI_o hI (hk.symm.trans c6) vp_updL f (fun v : Int32 => v.toInt64))
      refine lv_aload_n hx hb dL_law_1098 rfl (lv_at hl 5 rfl) ?_
      refine lv_iconst (v := 0) hx hb dL_law_1099 (by decide) ?_
      refine g_laldk (k := 0) rfl X hw 102 rfl (vk rfl) dL_law_1100 ?_
      refine lv_iload hx hb dL_law_1101 (lv_at hl 0 rfl) ?_
      refine lv_i2l (v := r7.toInt64) hx hb dL_law_1103 rfl ?_
      refine W.lcmp hx hb dL_law_1104 ?_
      refine lv_if_eq (tgt := 1110) hx hb dL_law_1105 (by decide) (fun _ => ?_) (fun c9 => absurd (by rw [hoo, hb7]; exact lg_same _) c9)
      refine lv_goto (tgt := 1783) hx hb dL_law_1110 (by decide) ?_
      refine lv_iinc (v := nI (4 * (j + 1))) (lv' := [(5, .int (nI (4 * (j + 1)))), (7, .int r7), (6, .int r6), (0, .ref b), (1, .ref (ad 92)), (2, .ref (bd 0)), (3, .ref o), (4, .ref o2)]) hx hb dL_law_1783 hl (k := 7) rfl (lw_up j) (by decide) rfl (fun ls hl => ?_)
      refine lv_goto (tgt := 28) hx hb dL_law_1786 (by decide) ?_
      refine W.widen (k := 200 + 4 * (j + 1)) (n := 9000 + 24 * (j + 1)) (by omega) (by omega) ?_
      exact ih _ _ _ _ _ _ _ hR2 hw (lv_sub hl [3, 4, 5, 6, 7, 0] rfl)
set_option maxHeartbeats 4000000 in
set_option maxRecDepth 100000 in
theorem law_closesAt {p : Program} {l : Launch} {e : Env} {s : State} {m : MethodId} {below : List Frame} {meth : Method} {c : Code} {D : va_G} {cy : Nat → ClassId} {ss : Nat → Nat} {ad bd : Nat → Nat} {o o2 b L : Nat} {xs : Nat → Int32} (CX : LX p l s m meth c D cy ss b L xs) {j : Nat} (hj : 4 * j + 4 ≤ L) (ih : LH p l e s m below meth c D cy ad bd o o2 b (j + 1)) {C M : CS} {f : Nat → Int64} {g : Nat → UInt64} {H : Heap} {locs : List Loc} {ls : Array Slot} (hR : Rel C M) (hw : gw D (LA s) s.heap (CW cy ad C ++ (oL cy o f :: oD cy o2 g :: MW cy bd M)) H locs) (hl : lv_has ls 9 [(0, .ref b), (1, .ref (ad 92)), (2, .ref (bd 0)), (3, .ref o), (4, .ref o2), (5, .int (nI (4 * j)))]) : W p l e room_1 s m #[Value.ref b] below meth c H locs (200 + 4 * j) (9000 + 24 * j) (lw_Z below #[Value.ref b] s) (F0 m 1113 ls []) := by
  obtain ⟨X, hE, hX, hbl, hbA, hlt, hL⟩ := CX
  have hx := X.1
  have hb := X.2.1
  obtain ⟨hS, hI, hR2⟩ := sim_closesAt hR (xs (nI (4 * j) + 1).toNatClampNeg)
  refine lv_aload_n hx hb dL_law_1113 rfl (lv_at hl 1 rfl) ?_
  refine lv_aload_n hx hb dL_law_1114 rfl (lv_at hl 0 rfl) ?_
  refine lv_iload hx hb dL_law_1115 (lv_at hl 5 rfl) ?_
  refine lv_iconst (v := 1) hx hb dL_law_1117 (by decide) ?_
  refine lv_iadd hx hb dL_law_1118 ?_
  refine va_sld hx hb hX hbl hbA hw.2.2 (lw_ix 1 hj hL (by decide)) dL_law_1119 ?_
  refine lv_aload_n hx hb dL_law_1120 rfl (lv_at hl 3 rfl) ?_
  refine gwS_i (rest := []) X hE (c_L_closesAt l hlt D cy ss ad o (oD cy o2 g :: MW cy bd M) C f (xs (nI (4 * j) + 1).toNatClampNeg)) gy_L_closesAt gL_law_L_closesAt ⟨rfl, rfl, Nat.le_of_ble_eq_true rfl, Nat.le_of_ble_eq_true rfl⟩ rfl hl rfl (Nat.le_of_ble_eq_true rfl) dL_law_1121 ⟨by show 200 + 4 * j + 2 ≤ 603072; omega, by show 9000 + 24 * j + 12 ≤ 7202922; omega⟩ hw (fun r6 u6 H locs hk hw => ?_)
  obtain ⟨uO, hu0⟩ : ∃ z, z = u6 := ⟨_, rfl⟩
  obtain ⟨hk, hout⟩ := hk
  rw [← hu0] at hout hw
  have hw : gw D (LA s) s.heap (CW cy ad C ++ (oL cy o uO :: oD cy o2 g :: MW cy bd M)) H locs := hw
  refine lv_istore (lv' := [(6, .int r6), (0, .ref b), (1, .ref (ad 92)), (2, .ref (bd 0)), (3, .ref o), (4, .ref o2), (5, .int (nI (4 * j)))]) hx hb dL_law_1124 hl (by decide) rfl (fun ls hl => ?_)
  refine lv_aload_n hx hb dL_law_1126 rfl (lv_at hl 3 rfl) ?_
  refine lv_aload_n hx hb dL_law_1127 rfl (lv_at hl 1 rfl) ?_
  refine lv_iload hx hb dL_law_1128 (lv_at hl 6 rfl) ?_
  refine lv_iconst (v := 1) hx hb dL_law_1130 (by decide) ?_
  refine lv_iadd hx hb dL_law_1131 ?_
  refine va_sld hx hb hX hbl hbA hw.2.2 (lw_ix 1 hj hL (by decide)) dL_law_1132 ?_
  have hw := gw_lr hw
  refine gcV_i (rest := []) X (c_X7_closesAt l D cy bd (CW cy ad C ++ [oL cy o uO, oD cy o2 g]) M (xs (nI (4 * j) + 1).toNatClampNeg) hS) gy_X7_closesAt gL_law_X7_closesAt ⟨rfl, rfl, Nat.le_of_ble_eq_true rfl, Nat.le_of_ble_eq_true rfl⟩ 0 rfl rfl rfl hl rfl (Nat.le_of_ble_eq_true rfl) dL_law_1133 ⟨by show 200 + 4 * j + 2 ≤ 603072; omega, by show 9000 + 24 * j + 12 ≤ 7202922; omega⟩ hw (fun r7 ur7 H locs hr7 hw => ?_)
  obtain ⟨hr7, hM⟩ := hr7
  have hM : ur7 = (F_X7_closesAt M (xs (nI (4 * j) + 1).toNatClampNeg)).2 := hM
  subst hM
  have hr7 : r7 = (F_X7_closesAt M (xs (nI (4 * j) + 1).toNatClampNeg)).1 := hr7
  have hw := gw_rl hw
  have hw : gw D (LA s) s.heap (CW cy ad C ++ (oL cy o uO :: oD cy o2 g :: MW cy bd (F_X7_closesAt M (xs (nI (4 * j) + 1).toNatClampNeg)).2)) H locs := hw
  have hb7 := hr7
  refine lv_istore (lv' := [(7, .int r7), (6, .int r6), (0, .ref b), (1, .ref (ad 92)), (2, .ref (bd 0)), (3, .ref o), (4, .ref o2), (5, .int (nI (4 * j)))]) hx hb dL_law_1136 hl (by decide) rfl (fun ls hl => ?_)
  refine lv_aload_n hx hb dL_law_1138 rfl (lv_at hl 4 rfl) ?_
  have hw := gw_lr hw
  refine gcV_i (rest := []) X (c_X7_thrown l D cy bd (CW cy ad C ++ [oL cy o uO, oD cy o2 g]) (F_X7_closesAt M (xs (nI (4 * j) + 1).toNatClampNeg)).2) gy_X7_thrown gL_law_X7_thrown ⟨rfl, rfl, Nat.le_of_ble_eq_true rfl, Nat.le_of_ble_eq_true rfl⟩ 0 rfl rfl rfl hl rfl (Nat.le_of_ble_eq_true rfl) dL_law_1139 ⟨by show 200 + 4 * j + 2 ≤ 603072; omega, by show 9000 + 24 * j + 12 ≤ 7202922; omega⟩ hw (fun r9x ur9x H locs hr9x hw => ?_)
  have hr9x : r9x = (F_X7_thrown (F_X7_closesAt M (xs (nI (4 * j) + 1).toNatClampNeg)).2) := hr9x
  have hw := gw_rl hw
  have hw : gw D (LA s) s.heap (CW cy ad C ++ (oL cy o uO :: oD cy o2 g :: MW cy bd (F_X7_closesAt M (xs (nI (4 * j) + 1).toNatClampNeg)).2)) H locs := hw
  have hthr : r9x = r6 := by rw [hr9x, hk]; exact (F_X7_thrown.eq_1 _).trans (simI_k hI)
  refine lv_iload hx hb dL_law_1142 (lv_at hl 1 rfl) ?_
  refine lv_icmp_eq (tgt := 1149) hx hb dL_law_1144 (by decide) (fun _ => ?_) (fun c9 => absurd (hthr) c9)
  refine lv_iload hx hb dL_law_1149 (lv_at hl 1 rfl) ?_
  refine lv_if_ne (tgt := 1166) hx hb dL_law_1151 (by decide) (fun c6 => ?_) (fun c6 => ?_)
  · skip
    refine lv_goto (tgt := 1783) hx hb dL_law_1166 (by decide) ?_
    refine lv_iinc (v := nI (4 * (j + 1))) (lv' := [(5, .int (nI (4 * (j + 1)))), (7, .int r7), (6, .int r6), (0, .ref b), (1, .ref (ad 92)), (2, .ref (bd 0)), (3, .ref o), (4, .ref o2)]) hx hb dL_law_1783 hl (k := 7) rfl (lw_up j) (by decide) rfl (fun ls hl => ?_)
    refine lv_goto (tgt := 28) hx hb dL_law_1786 (by decide) ?_
    refine W.widen (k := 200 + 4 * (j + 1)) (n := 9000 + 24 * (j + 1)) (by omega) (by omega) ?_
    exact ih _ _ _ _ _ _ _ hR2 hw (lv_sub hl [3, 4, 5, 6, 7, 0] rfl)
  · skip
    have hoo := hout.trans (simI_o hI (hk.symm.trans c6) vp_updL f (fun v : Int32 => v.toInt64))
    refine lv_aload_n hx hb dL_law_1154 rfl (lv_at hl 5 rfl) ?_
    refine lv_iconst (v := 0) hx hb dL_law_1155 (by decide) ?_
    refine g_laldk (k := 0) rfl X hw 102 rfl (vk rfl) dL_law_1156 ?_
    refine lv_iload hx hb dL_law_1157 (lv_at hl 0 rfl) ?_
    refine lv_i2l (v := r7.toInt64) hx hb dL_law_1159 rfl ?_
    refine W.lcmp hx hb dL_law_1160 ?_
    refine lv_if_eq (tgt := 1166) hx hb dL_law_1161 (by decide) (fun _ => ?_) (fun c9 => absurd (by rw [hoo, hb7]; exact lg_same _) c9)
    refine lv_goto (tgt := 1783) hx hb dL_law_1166 (by decide) ?_
    refine lv_iinc (v := nI (4 * (j + 1))) (lv' := [(5, .int (nI (4 * (j + 1)))), (7, .int r7), (6, .int r6), (0, .ref b), (1, .ref (ad 92)), (2, .ref (bd 0)), (3, .ref o), (4, .ref o2)]) hx hb dL_law_1783 hl (k := 7) rfl (lw_up j) (by decide) rfl (fun ls hl => ?_)
    refine lv_goto (tgt := 28) hx hb dL_law_1786 (by decide) ?_
    refine W.widen (k := 200 + 4 * (j + 1)) (n := 9000 + 24 * (j + 1)) (by omega) (by omega) ?_
    exact ih _ _ _ _ _ _ _ hR2 hw (lv_sub hl [3, 4, 5, 6, 7, 0] rfl)
set_option maxHeartbeats 4000000 in
set_option maxRecDepth 100000 in
theorem law_nextClosing {p : Program} {l : Launch} {e : Env} {s : State} {m : MethodId} {below : List Frame} {meth : Method} {c : Code} {D : va_G} {cy : Nat → ClassId} {ss : Nat → Nat} {ad bd : Nat → Nat} {o o2 b L : Nat} {xs : Nat → Int32} (CX : LX p l s m meth c D cy ss b L xs) {j : Nat} (hj : 4 * j + 4 ≤ L) (ih : LH p l e s m below meth c D cy ad bd o o2 b (j + 1)) {C M : CS} {f : Nat → Int64} {g : Nat → UInt64} {H : Heap} {locs : List Loc} {ls : Array Slot} (hR : Rel C M) (hw : gw D (LA s) s.heap (CW cy ad C ++ (oL cy o f :: oD cy o2 g :: MW cy bd M)) H locs) (hl : lv_has ls 9 [(0, .ref b), (1, .ref (ad 92)), (2, .ref (bd 0)), (3, .ref o), (4, .ref o2), (5, .int (nI (4 * j)))]) : W p l e room_1 s m #[Value.ref b] below meth c H locs (200 + 4 * j) (9000 + 24 * j) (lw_Z below #[Value.ref b] s) (F0 m 1169 ls []) := by
  obtain ⟨X, hE, hX, hbl, hbA, hlt, hL⟩ := CX
  have hx := X.1
  have hb := X.2.1
  obtain ⟨hS, hI, hR2⟩ := sim_nextClosing hR
  refine lv_aload_n hx hb dL_law_1169 rfl (lv_at hl 1 rfl) ?_
  refine lv_aload_n hx hb dL_law_1170 rfl (lv_at hl 3 rfl) ?_
  refine gwS_i (rest := []) X hE (c_L_nextClosing l hlt D cy ss ad o (oD cy o2 g :: MW cy bd M) C f) gy_L_nextClosing gL_law_L_nextClosing ⟨rfl, rfl, Nat.le_of_ble_eq_true rfl, Nat.le_of_ble_eq_true rfl⟩ rfl hl rfl (Nat.le_of_ble_eq_true rfl) dL_law_1171 ⟨by show 200 + 4 * j + 1 ≤ 603072; omega, by show 9000 + 24 * j + 6 ≤ 7202922; omega⟩ hw (fun r6 u6 H locs hk hw => ?_)
  obtain ⟨uO, hu0⟩ : ∃ z, z = u6 := ⟨_, rfl⟩
  obtain ⟨hk, hout⟩ := hk
  rw [← hu0] at hout hw
  have hw : gw D (LA s) s.heap (CW cy ad C ++ (oL cy o uO :: oD cy o2 g :: MW cy bd M)) H locs := hw
  refine lv_istore (lv' := [(6, .int r6), (0, .ref b), (1, .ref (ad 92)), (2, .ref (bd 0)), (3, .ref o), (4, .ref o2), (5, .int (nI (4 * j)))]) hx hb dL_law_1174 hl (by decide) rfl (fun ls hl => ?_)
  refine lv_aload_n hx hb dL_law_1176 rfl (lv_at hl 3 rfl) ?_
  have hw := gw_lr hw
  refine gcV_i (rest := []) X (c_X7_nextClosing l D cy bd (CW cy ad C ++ [oL cy o uO, oD cy o2 g]) M  hS) gy_X7_nextClosing gL_law_X7_nextClosing ⟨rfl, rfl, Nat.le_of_ble_eq_true rfl, Nat.le_of_ble_eq_true rfl⟩ 0 rfl rfl rfl hl rfl (Nat.le_of_ble_eq_true rfl) dL_law_1177 ⟨by show 200 + 4 * j + 1 ≤ 603072; omega, by show 9000 + 24 * j + 6 ≤ 7202922; omega⟩ hw (fun r7 ur7 H locs hr7 hw => ?_)
  obtain ⟨hr7, hM⟩ := hr7
  have hM : ur7 = (F_X7_nextClosing M).2 := hM
  subst hM
  have hr7 : r7 = (F_X7_nextClosing M).1 := hr7
  have hw := gw_rl hw
  have hw : gw D (LA s) s.heap (CW cy ad C ++ (oL cy o uO :: oD cy o2 g :: MW cy bd (F_X7_nextClosing M).2)) H locs := hw
  have hb7 := hr7
  refine lv_istore (lv' := [(7, .int r7), (6, .int r6), (0, .ref b), (1, .ref (ad 92)), (2, .ref (bd 0)), (3, .ref o), (4, .ref o2), (5, .int (nI (4 * j)))]) hx hb dL_law_1180 hl (by decide) rfl (fun ls hl => ?_)
  refine lv_aload_n hx hb dL_law_1182 rfl (lv_at hl 4 rfl) ?_
  have hw := gw_lr hw
  refine gcV_i (rest := []) X (c_X7_thrown l D cy bd (CW cy ad C ++ [oL cy o uO, oD cy o2 g]) (F_X7_nextClosing M).2) gy_X7_thrown gL_law_X7_thrown ⟨rfl, rfl, Nat.le_of_ble_eq_true rfl, Nat.le_of_ble_eq_true rfl⟩ 0 rfl rfl rfl hl rfl (Nat.le_of_ble_eq_true rfl) dL_law_1183 ⟨by show 200 + 4 * j + 1 ≤ 603072; omega, by show 9000 + 24 * j + 6 ≤ 7202922; omega⟩ hw (fun r9x ur9x H locs hr9x hw => ?_)
  have hr9x : r9x = (F_X7_thrown (F_X7_nextClosing M).2) := hr9x
  have hw := gw_rl hw
  have hw : gw D (LA s) s.heap (CW cy ad C ++ (oL cy o uO :: oD cy o2 g :: MW cy bd (F_X7_nextClosing M).2)) H locs := hw
  have hthr : r9x = r6 := by rw [hr9x, hk]; exact (F_X7_thrown.eq_1 _).trans (simI_k hI)
  refine lv_iload hx hb dL_law_1186 (lv_at hl 1 rfl) ?_
  refine lv_icmp_eq (tgt := 1193) hx hb dL_law_1188 (by decide) (fun _ => ?_) (fun c9 => absurd (hthr) c9)
  refine lv_iload hx hb dL_law_1193 (lv_at hl 1 rfl) ?_
  refine lv_if_ne (tgt := 1210) hx hb dL_law_1195 (by decide) (fun c6 => ?_) (fun c6 => ?_)
  · skip
    refine lv_goto (tgt := 1783) hx hb dL_law_1210 (by decide) ?_
    refine lv_iinc (v := nI (4 * (j + 1))) (lv' := [(5, .int (nI (4 * (j + 1)))), (7, .int r7), (6, .int r6), (0, .ref b), (1, .ref (ad 92)), (2, .ref (bd 0)), (3, .ref o), (4, .ref o2)]) hx hb dL_law_1783 hl (k := 7) rfl (lw_up j) (by decide) rfl (fun ls hl => ?_)
    refine lv_goto (tgt := 28) hx hb dL_law_1786 (by decide) ?_
    refine W.widen (k := 200 + 4 * (j + 1)) (n := 9000 + 24 * (j + 1)) (by omega) (by omega) ?_
    exact ih _ _ _ _ _ _ _ hR2 hw (lv_sub hl [3, 4, 5, 6, 7, 0] rfl)
  · skip
    have hoo := hout.trans (simI_o hI (hk.symm.trans c6) vp_updL f (fun v : Int32 => v.toInt64))
    refine lv_aload_n hx hb dL_law_1198 rfl (lv_at hl 5 rfl) ?_
    refine lv_iconst (v := 0) hx hb dL_law_1199 (by decide) ?_
    refine g_laldk (k := 0) rfl X hw 102 rfl (vk rfl) dL_law_1200 ?_
    refine lv_iload hx hb dL_law_1201 (lv_at hl 0 rfl) ?_
    refine lv_i2l (v := r7.toInt64) hx hb dL_law_1203 rfl ?_
    refine W.lcmp hx hb dL_law_1204 ?_
    refine lv_if_eq (tgt := 1210) hx hb dL_law_1205 (by decide) (fun _ => ?_) (fun c9 => absurd (by rw [hoo, hb7]; exact lg_same _) c9)
    refine lv_goto (tgt := 1783) hx hb dL_law_1210 (by decide) ?_
    refine lv_iinc (v := nI (4 * (j + 1))) (lv' := [(5, .int (nI (4 * (j + 1)))), (7, .int r7), (6, .int r6), (0, .ref b), (1, .ref (ad 92)), (2, .ref (bd 0)), (3, .ref o), (4, .ref o2)]) hx hb dL_law_1783 hl (k := 7) rfl (lw_up j) (by decide) rfl (fun ls hl => ?_)
    refine lv_goto (tgt := 28) hx hb dL_law_1786 (by decide) ?_
    refine W.widen (k := 200 + 4 * (j + 1)) (n := 9000 + 24 * (j + 1)) (by omega) (by omega) ?_
    exact ih _ _ _ _ _ _ _ hR2 hw (lv_sub hl [3, 4, 5, 6, 7, 0] rfl)
set_option maxHeartbeats 4000000 in
set_option maxRecDepth 100000 in
theorem law_averageLength {p : Program} {l : Launch} {e : Env} {s : State} {m : MethodId} {below : List Frame} {meth : Method} {c : Code} {D : va_G} {cy : Nat → ClassId} {ss : Nat → Nat} {ad bd : Nat → Nat} {o o2 b L : Nat} {xs : Nat → Int32} (CX : LX p l s m meth c D cy ss b L xs) {j : Nat} (hj : 4 * j + 4 ≤ L) (ih : LH p l e s m below meth c D cy ad bd o o2 b (j + 1)) {C M : CS} {f : Nat → Int64} {g : Nat → UInt64} {H : Heap} {locs : List Loc} {ls : Array Slot} (hR : Rel C M) (hw : gw D (LA s) s.heap (CW cy ad C ++ (oL cy o f :: oD cy o2 g :: MW cy bd M)) H locs) (hl : lv_has ls 9 [(0, .ref b), (1, .ref (ad 92)), (2, .ref (bd 0)), (3, .ref o), (4, .ref o2), (5, .int (nI (4 * j)))]) : W p l e room_1 s m #[Value.ref b] below meth c H locs (200 + 4 * j) (9000 + 24 * j) (lw_Z below #[Value.ref b] s) (F0 m 1213 ls []) := by
  obtain ⟨X, hE, hX, hbl, hbA, hlt, hL⟩ := CX
  have hx := X.1
  have hb := X.2.1
  obtain ⟨hS, hI, hR2⟩ := sim_averageLength hR (xs (nI (4 * j) + 1).toNatClampNeg)
  refine lv_aload_n hx hb dL_law_1213 rfl (lv_at hl 1 rfl) ?_
  refine lv_aload_n hx hb dL_law_1214 rfl (lv_at hl 0 rfl) ?_
  refine lv_iload hx hb dL_law_1215 (lv_at hl 5 rfl) ?_
  refine lv_iconst (v := 1) hx hb dL_law_1217 (by decide) ?_
  refine lv_iadd hx hb dL_law_1218 ?_
  refine va_sld hx hb hX hbl hbA hw.2.2 (lw_ix 1 hj hL (by decide)) dL_law_1219 ?_
  refine lv_aload hx hb dL_law_1220 (lv_at hl 4 rfl) ?_
  refine gwS_i (rest := []) X hE (c_L_averageLength l hlt D cy ss ad (oL cy o f) o2 (MW cy bd M) C g (xs (nI (4 * j) + 1).toNatClampNeg)) gy_L_averageLength gL_law_L_averageLength ⟨rfl, rfl, Nat.le_of_ble_eq_true rfl, Nat.le_of_ble_eq_true rfl⟩ rfl hl rfl (Nat.le_of_ble_eq_true rfl) dL_law_1222 ⟨by show 200 + 4 * j + 2 ≤ 603072; omega, by show 9000 + 24 * j + 12 ≤ 7202922; omega⟩ hw (fun r6 u6 H locs hk hw => ?_)
  obtain ⟨uO, hu0⟩ : ∃ z, z = u6 := ⟨_, rfl⟩
  obtain ⟨hk, hout⟩ := hk
  rw [← hu0] at hout hw
  have hw : gw D (LA s) s.heap (CW cy ad C ++ (oL cy o f :: oD cy o2 uO :: MW cy bd M)) H locs := hw
  refine lv_istore (lv' := [(6, .int r6), (0, .ref b), (1, .ref (ad 92)), (2, .ref (bd 0)), (3, .ref o), (4, .ref o2), (5, .int (nI (4 * j)))]) hx hb dL_law_1225 hl (by decide) rfl (fun ls hl => ?_)
  refine lv_aload_n hx hb dL_law_1227 rfl (lv_at hl 3 rfl) ?_
  refine lv_aload_n hx hb dL_law_1228 rfl (lv_at hl 1 rfl) ?_
  refine lv_iload hx hb dL_law_1229 (lv_at hl 6 rfl) ?_
  refine lv_iconst (v := 1) hx hb dL_law_1231 (by decide) ?_
  refine lv_iadd hx hb dL_law_1232 ?_
  refine va_sld hx hb hX hbl hbA hw.2.2 (lw_ix 1 hj hL (by decide)) dL_law_1233 ?_
  have hw := gw_lr hw
  refine gcV_d (rest := []) X (c_X7_averageLength l D cy bd (CW cy ad C ++ [oL cy o f, oD cy o2 uO]) M (xs (nI (4 * j) + 1).toNatClampNeg) hS) gy_X7_averageLength gL_law_X7_averageLength ⟨rfl, rfl, Nat.le_of_ble_eq_true rfl, Nat.le_of_ble_eq_true rfl⟩ 0 rfl rfl rfl hl rfl (Nat.le_of_ble_eq_true rfl) dL_law_1234 ⟨by show 200 + 4 * j + 2 ≤ 603072; omega, by show 9000 + 24 * j + 12 ≤ 7202922; omega⟩ hw (fun r7 ur7 H locs hr7 hw => ?_)
  obtain ⟨hr7, hM⟩ := hr7
  have hM : ur7 = (F_X7_averageLength M (xs (nI (4 * j) + 1).toNatClampNeg)).2 := hM
  subst hM
  have hr7 : r7 = (F_X7_averageLength M (xs (nI (4 * j) + 1).toNatClampNeg)).1 := hr7
  have hw := gw_rl hw
  have hw : gw D (LA s) s.heap (CW cy ad C ++ (oL cy o f :: oD cy o2 uO :: MW cy bd (F_X7_averageLength M (xs (nI (4 * j) + 1).toNatClampNeg)).2)) H locs := hw
  have hb7 := hr7
  refine lv_dstore (lv' := [(7, .double r7), (6, .int r6), (0, .ref b), (1, .ref (ad 92)), (2, .ref (bd 0)), (3, .ref o), (4, .ref o2), (5, .int (nI (4 * j)))]) hx hb dL_law_1237 hl (by decide) rfl (fun ls hl => ?_)
  refine lv_aload_n hx hb dL_law_1239 rfl (lv_at hl 4 rfl) ?_
  have hw := gw_lr hw
  refine gcV_i (rest := []) X (c_X7_thrown l D cy bd (CW cy ad C ++ [oL cy o f, oD cy o2 uO]) (F_X7_averageLength M (xs (nI (4 * j) + 1).toNatClampNeg)).2) gy_X7_thrown gL_law_X7_thrown ⟨rfl, rfl, Nat.le_of_ble_eq_true rfl, Nat.le_of_ble_eq_true rfl⟩ 0 rfl rfl rfl hl rfl (Nat.le_of_ble_eq_true rfl) dL_law_1240 ⟨by show 200 + 4 * j + 2 ≤ 603072; omega, by show 9000 + 24 * j + 12 ≤ 7202922; omega⟩ hw (fun r9x ur9x H locs hr9x hw => ?_)
  have hr9x : r9x = (F_X7_thrown (F_X7_averageLength M (xs (nI (4 * j) + 1).toNatClampNeg)).2) := hr9x
  have hw := gw_rl hw
  have hw : gw D (LA s) s.heap (CW cy ad C ++ (oL cy o f :: oD cy o2 uO :: MW cy bd (F_X7_averageLength M (xs (nI (4 * j) + 1).toNatClampNeg)).2)) H locs := hw
  have hthr : r9x = r6 := by rw [hr9x, hk]; exact (F_X7_thrown.eq_1 _).trans (simI_k hI)
  refine lv_iload hx hb dL_law_1243 (lv_at hl 1 rfl) ?_
  refine lv_icmp_eq (tgt := 1250) hx hb dL_law_1245 (by decide) (fun _ => ?_) (fun c9 => absurd (hthr) c9)
  refine lv_iload hx hb dL_law_1250 (lv_at hl 1 rfl) ?_
  refine lv_if_ne (tgt := 1287) hx hb dL_law_1252 (by decide) (fun c6 => ?_) (fun c6 => ?_)
  · skip
    refine lv_goto (tgt := 1783) hx hb dL_law_1287 (by decide) ?_
    refine lv_iinc (v := nI (4 * (j + 1))) (lv' := [(5, .int (nI (4 * (j + 1)))), (7, .double r7), (6, .int r6), (0, .ref b), (1, .ref (ad 92)), (2, .ref (bd 0)), (3, .ref o), (4, .ref o2)]) hx hb dL_law_1783 hl (k := 7) rfl (lw_up j) (by decide) rfl (fun ls hl => ?_)
    refine lv_goto (tgt := 28) hx hb dL_law_1786 (by decide) ?_
    refine W.widen (k := 200 + 4 * (j + 1)) (n := 9000 + 24 * (j + 1)) (by omega) (by omega) ?_
    exact ih _ _ _ _ _ _ _ hR2 hw (lv_sub hl [3, 4, 5, 6, 7, 0] rfl)
  · skip
    have hoo := hout.trans (simI_o hI (hk.symm.trans c6) vf_upd g (fun v : UInt64 => v))
    refine lv_aload hx hb dL_law_1255 (lv_at hl 6 rfl) ?_
    refine lv_iconst (v := 0) hx hb dL_law_1257 (by decide) ?_
    refine g_daldk (k := 0) rfl X hw 103 rfl (vk rfl) dL_law_1258 ?_
    refine lv_dload hx hb dL_law_1259 (lv_at hl 0 rfl) ?_
    refine lv_dcmp hx hb dL_law_1261 ?_
    rw [hdd] at ⊢; generalize hvv : Op.cmpValue _ CmpOp.l = vv
    refine lv_if_eq (tgt := 1287) hx hb dL_law_1262 (by decide) (fun cv => ?_) (fun cv => ?_)
    · skip
      refine lv_goto (tgt := 1783) hx hb dL_law_1287 (by decide) ?_
      refine lv_iinc (v := nI (4 * (j + 1))) (lv' := [(5, .int (nI (4 * (j + 1)))), (7, .double r7), (6, .int r6), (0, .ref b), (1, .ref (ad 92)), (2, .ref (bd 0)), (3, .ref o), (4, .ref o2)]) hx hb dL_law_1783 hl (k := 7) rfl (lw_up j) (by decide) rfl (fun ls hl => ?_)
      refine lv_goto (tgt := 28) hx hb dL_law_1786 (by decide) ?_
      refine W.widen (k := 200 + 4 * (j + 1)) (n := 9000 + 24 * (j + 1)) (by omega) (by omega) ?_
      exact ih _ _ _ _ _ _ _ hR2 hw (lv_sub hl [3, 4, 5, 6, 7, 0] rfl)
    · skip
      refine lv_aload hx hb dL_law_1265 (lv_at hl 6 rfl) ?_
      refine lv_iconst (v := 0) hx hb dL_law_1267 (by decide) ?_
      refine g_daldk (k := 0) rfl X hw 103 rfl (vk rfl) dL_law_1268 ?_
      refine lv_aload hx hb dL_law_1269 (lv_at hl 6 rfl) ?_
      refine lv_iconst (v := 0) hx hb dL_law_1271 (by decide) ?_
      refine g_daldk (k := 0) rfl X hw 103 rfl (vk rfl) dL_law_1272 ?_
      refine lv_dcmp hx hb dL_law_1273 ?_
      rw [hdd] at ⊢; generalize hvv : Op.cmpValue _ CmpOp.l = vv
      refine lv_if_eq (tgt := 1285) hx hb dL_law_1274 (by decide) (fun c9 => absurd c9 cv) (fun _ => ?_)
      refine lv_dload hx hb dL_law_1277 (lv_at hl 0 rfl) ?_
      refine lv_dload hx hb dL_law_1279 (lv_at hl 0 rfl) ?_
      refine lv_dcmp hx hb dL_law_1281 ?_
      rw [hdd] at ⊢; generalize hvv : Op.cmpValue _ CmpOp.l = vv
      refine lv_if_ne (tgt := 1287) hx hb dL_law_1282 (by decide) (fun _ => ?_) (fun c9 => absurd c9 cv)
      refine lv_goto (tgt := 1783) hx hb dL_law_1287 (by decide) ?_
      refine lv_iinc (v := nI (4 * (j + 1))) (lv' := [(5, .int (nI (4 * (j + 1)))), (7, .double r7), (6, .int r6), (0, .ref b), (1, .ref (ad 92)), (2, .ref (bd 0)), (3, .ref o), (4, .ref o2)]) hx hb dL_law_1783 hl (k := 7) rfl (lw_up j) (by decide) rfl (fun ls hl => ?_)
      refine lv_goto (tgt := 28) hx hb dL_law_1786 (by decide) ?_
      refine W.widen (k := 200 + 4 * (j + 1)) (n := 9000 + 24 * (j + 1)) (by omega) (by omega) ?_
      exact ih _ _ _ _ _ _ _ hR2 hw (lv_sub hl [3, 4, 5, 6, 7, 0] rfl)
set_option maxHeartbeats 4000000 in
set_option maxRecDepth 100000 in
theorem law_mergeCount {p : Program} {l : Launch} {e : Env} {s : State} {m : MethodId} {below : List Frame} {meth : Method} {c : Code} {D : va_G} {cy : Nat → ClassId} {ss : Nat → Nat} {ad bd : Nat → Nat} {o o2 b L : Nat} {xs : Nat → Int32} (CX : LX p l s m meth c D cy ss b L xs) {j : Nat} (hj : 4 * j + 4 ≤ L) (ih : LH p l e s m below meth c D cy ad bd o o2 b (j + 1)) {C M : CS} {f : Nat → Int64} {g : Nat → UInt64} {H : Heap} {locs : List Loc} {ls : Array Slot} (hR : Rel C M) (hw : gw D (LA s) s.heap (CW cy ad C ++ (oL cy o f :: oD cy o2 g :: MW cy bd M)) H locs) (hl : lv_has ls 9 [(0, .ref b), (1, .ref (ad 92)), (2, .ref (bd 0)), (3, .ref o), (4, .ref o2), (5, .int (nI (4 * j)))]) : W p l e room_1 s m #[Value.ref b] below meth c H locs (200 + 4 * j) (9000 + 24 * j) (lw_Z below #[Value.ref b] s) (F0 m 1290 ls []) := by
  obtain ⟨X, hE, hX, hbl, hbA, hlt, hL⟩ := CX
  have hx := X.1
  have hb := X.2.1
  obtain ⟨hI, hR2⟩ := sim_mergeCount hR
  refine lv_aload_n hx hb dL_law_1290 rfl (lv_at hl 1 rfl) ?_
  refine gcV_i (rest := []) X (c_X6_mergeCount l D cy ad (oL cy o f :: oD cy o2 g :: MW cy bd M) C) gy_X6_mergeCount gL_law_X6_mergeCount ⟨rfl, rfl, Nat.le_of_ble_eq_true rfl, Nat.le_of_ble_eq_true rfl⟩ 92 rfl rfl rfl hl rfl (Nat.le_of_ble_eq_true rfl) dL_law_1291 ⟨by show 200 + 4 * j ≤ 603072; omega, by show 9000 + 24 * j ≤ 7202922; omega⟩ hw (fun r8x ur8x H locs hr8x hw => ?_)
  have hr8x : r8x = (F_X6_mergeCount C) := hr8x
  have hw : gw D (LA s) s.heap (CW cy ad C ++ (oL cy o f :: oD cy o2 g :: MW cy bd M)) H locs := hw
  refine lv_aload_n hx hb dL_law_1294 rfl (lv_at hl 2 rfl) ?_
  have hw := gw_lr hw
  refine gcV_i (rest := [.int r8x]) X (c_X7_mergeCount l D cy bd (CW cy ad C ++ [oL cy o f, oD cy o2 g]) M) gy_X7_mergeCount gL_law_X7_mergeCount ⟨rfl, rfl, Nat.le_of_ble_eq_true rfl, Nat.le_of_ble_eq_true rfl⟩ 0 rfl rfl rfl hl rfl (Nat.le_of_ble_eq_true rfl) dL_law_1295 ⟨by show 200 + 4 * j ≤ 603072; omega, by show 9000 + 24 * j ≤ 7202922; omega⟩ hw (fun r7 ur7 H locs hr7 hw => ?_)
  obtain ⟨hr7, hM⟩ := hr7
  have hM : ur7 = (F_X7_mergeCount M).2 := hM
  subst hM
  have hr7 : r7 = (F_X7_mergeCount M).1 := hr7
  have hw := gw_rl hw
  have hw : gw D (LA s) s.heap (CW cy ad C ++ (oL cy o f :: oD cy o2 g :: MW cy bd (F_X7_mergeCount M).2)) H locs := hw
  have hcmp : r8x = r7 := hr8x.trans (hI.trans hr7.symm)
  refine lv_icmp_eq (tgt := 1783) hx hb dL_law_1298 (by decide) (fun _ => ?_) (fun c9 => absurd (hcmp) c9)
  refine lv_iinc (v := nI (4 * (j + 1))) (lv' := [(5, .int (nI (4 * (j + 1)))), (0, .ref b), (1, .ref (ad 92)), (2, .ref (bd 0)), (3, .ref o), (4, .ref o2)]) hx hb dL_law_1783 hl (k := 5) rfl (lw_up j) (by decide) rfl (fun ls hl => ?_)
  refine lv_goto (tgt := 28) hx hb dL_law_1786 (by decide) ?_
  refine W.widen (k := 200 + 4 * (j + 1)) (n := 9000 + 24 * (j + 1)) (by omega) (by omega) ?_
  exact ih _ _ _ _ _ _ _ hR2 hw (lv_sub hl [1, 2, 3, 4, 5, 0] rfl)
set_option maxHeartbeats 4000000 in
set_option maxRecDepth 100000 in
theorem law_regrouped {p : Program} {l : Launch} {e : Env} {s : State} {m : MethodId} {below : List Frame} {meth : Method} {c : Code} {D : va_G} {cy : Nat → ClassId} {ss : Nat → Nat} {ad bd : Nat → Nat} {o o2 b L : Nat} {xs : Nat → Int32} (CX : LX p l s m meth c D cy ss b L xs) {j : Nat} (hj : 4 * j + 4 ≤ L) (ih : LH p l e s m below meth c D cy ad bd o o2 b (j + 1)) {C M : CS} {f : Nat → Int64} {g : Nat → UInt64} {H : Heap} {locs : List Loc} {ls : Array Slot} (hR : Rel C M) (hw : gw D (LA s) s.heap (CW cy ad C ++ (oL cy o f :: oD cy o2 g :: MW cy bd M)) H locs) (hl : lv_has ls 9 [(0, .ref b), (1, .ref (ad 92)), (2, .ref (bd 0)), (3, .ref o), (4, .ref o2), (5, .int (nI (4 * j)))]) : W p l e room_1 s m #[Value.ref b] below meth c H locs (200 + 4 * j) (9000 + 24 * j) (lw_Z below #[Value.ref b] s) (F0 m 1303 ls []) := by
  obtain ⟨X, hE, hX, hbl, hbA, hlt, hL⟩ := CX
  have hx := X.1
  have hb := X.2.1
  obtain ⟨hS, hI, hR2⟩ := sim_regrouped hR (xs (nI (4 * j) + 1).toNatClampNeg)
  refine lv_aload_n hx hb dL_law_1303 rfl (lv_at hl 1 rfl) ?_
  refine lv_aload_n hx hb dL_law_1304 rfl (lv_at hl 0 rfl) ?_
  refine lv_iload hx hb dL_law_1305 (lv_at hl 5 rfl) ?_
  refine lv_iconst (v := 1) hx hb dL_law_1307 (by decide) ?_
  refine lv_iadd hx hb dL_law_1308 ?_
  refine va_sld hx hb hX hbl hbA hw.2.2 (lw_ix 1 hj hL (by decide)) dL_law_1309 ?_
  refine lv_aload_n hx hb dL_law_1310 rfl (lv_at hl 3 rfl) ?_
  refine gwS_i (rest := []) X hE (c_L_regrouped l hlt D cy ss ad o (oD cy o2 g :: MW cy bd M) C f (xs (nI (4 * j) + 1).toNatClampNeg)) gy_L_regrouped gL_law_L_regrouped ⟨rfl, rfl, Nat.le_of_ble_eq_true rfl, Nat.le_of_ble_eq_true rfl⟩ rfl hl rfl (Nat.le_of_ble_eq_true rfl) dL_law_1311 ⟨by show 200 + 4 * j + 1 ≤ 603072; omega, by show 9000 + 24 * j + 6 ≤ 7202922; omega⟩ hw (fun r6 u6 H locs hk hw => ?_)
  obtain ⟨uO, hu0⟩ : ∃ z, z = u6 := ⟨_, rfl⟩
  obtain ⟨hk, hout⟩ := hk
  rw [← hu0] at hout hw
  have hw : gw D (LA s) s.heap (CW cy ad C ++ (oL cy o uO :: oD cy o2 g :: MW cy bd M)) H locs := hw
  refine lv_istore (lv' := [(6, .int r6), (0, .ref b), (1, .ref (ad 92)), (2, .ref (bd 0)), (3, .ref o), (4, .ref o2), (5, .int (nI (4 * j)))]) hx hb dL_law_1314 hl (by decide) rfl (fun ls hl => ?_)
  refine lv_aload_n hx hb dL_law_1316 rfl (lv_at hl 3 rfl) ?_
  refine lv_aload_n hx hb dL_law_1317 rfl (lv_at hl 1 rfl) ?_
  refine lv_iload hx hb dL_law_1318 (lv_at hl 6 rfl) ?_
  refine lv_iconst (v := 1) hx hb dL_law_1320 (by decide) ?_
  refine lv_iadd hx hb dL_law_1321 ?_
  refine va_sld hx hb hX hbl hbA hw.2.2 (lw_ix 1 hj hL (by decide)) dL_law_1322 ?_
  have hw := gw_lr hw
  refine gcV_i (rest := []) X (c_X7_regrouped l D cy bd (CW cy ad C ++ [oL cy o uO, oD cy o2 g]) M (xs (nI (4 * j) + 1).toNatClampNeg) hS) gy_X7_regrouped gL_law_X7_regrouped ⟨rfl, rfl, Nat.le_of_ble_eq_true rfl, Nat.le_of_ble_eq_true rfl⟩ 0 rfl rfl rfl hl rfl (Nat.le_of_ble_eq_true rfl) dL_law_1323 ⟨by show 200 + 4 * j + 1 ≤ 603072; omega, by show 9000 + 24 * j + 6 ≤ 7202922; omega⟩ hw (fun r7 ur7 H locs hr7 hw => ?_)
  obtain ⟨hr7, hM⟩ := hr7
  have hM : ur7 = (F_X7_regrouped M (xs (nI (4 * j) + 1).toNatClampNeg)).2 := hM
  subst hM
  have hr7 : r7 = (F_X7_regrouped M (xs (nI (4 * j) + 1).toNatClampNeg)).1 := hr7
  have hw := gw_rl hw
  have hw : gw D (LA s) s.heap (CW cy ad C ++ (oL cy o uO :: oD cy o2 g :: MW cy bd (F_X7_regrouped M (xs (nI (4 * j) + 1).toNatClampNeg)).2)) H locs := hw
  have hb7 := hr7
  refine lv_istore (lv' := [(7, .int r7), (6, .int r6), (0, .ref b), (1, .ref (ad 92)), (2, .ref (bd 0)), (3, .ref o), (4, .ref o2), (5, .int (nI (4 * j)))]) hx hb dL_law_1326 hl (by decide) rfl (fun ls hl => ?_)
  refine lv_aload_n hx hb dL_law_1328 rfl (lv_at hl 4 rfl) ?_
  have hw := gw_lr hw
  refine gcV_i (rest := []) X (c_X7_thrown l D cy bd (CW cy ad C ++ [oL cy o uO, oD cy o2 g]) (F_X7_regrouped M (xs (nI (4 * j) + 1).toNatClampNeg)).2) gy_X7_thrown gL_law_X7_thrown ⟨rfl, rfl, Nat.le_of_ble_eq_true rfl, Nat.le_of_ble_eq_true rfl⟩ 0 rfl rfl rfl hl rfl (Nat.le_of_ble_eq_true rfl) dL_law_1329 ⟨by show 200 + 4 * j + 1 ≤ 603072; omega, by show 9000 + 24 * j + 6 ≤ 7202922; omega⟩ hw (fun r9x ur9x H locs hr9x hw => ?_)
  have hr9x : r9x = (F_X7_thrown (F_X7_regrouped M (xs (nI (4 * j) + 1).toNatClampNeg)).2) := hr9x
  have hw := gw_rl hw
  have hw : gw D (LA s) s.heap (CW cy ad C ++ (oL cy o uO :: oD cy o2 g :: MW cy bd (F_X7_regrouped M (xs (nI (4 * j) + 1).toNatClampNeg)).2)) H locs := hw
  have hthr : r9x = r6 := by rw [hr9x, hk]; exact (F_X7_thrown.eq_1 _).trans (simI_k hI)
  refine lv_iload hx hb dL_law_1332 (lv_at hl 1 rfl) ?_
  refine lv_icmp_eq (tgt := 1339) hx hb dL_law_1334 (by decide) (fun _ => ?_) (fun c9 => absurd (hthr) c9)
  refine lv_iload hx hb dL_law_1339 (lv_at hl 1 rfl) ?_
  refine lv_if_ne (tgt := 1356) hx hb dL_law_1341 (by decide) (fun c6 => ?_) (fun c6 => ?_)
  · skip
    refine lv_goto (tgt := 1783) hx hb dL_law_1356 (by decide) ?_
    refine lv_iinc (v := nI (4 * (j + 1))) (lv' := [(5, .int (nI (4 * (j + 1)))), (7, .int r7), (6, .int r6), (0, .ref b), (1, .ref (ad 92)), (2, .ref (bd 0)), (3, .ref o), (4, .ref o2)]) hx hb dL_law_1783 hl (k := 7) rfl (lw_up j) (by decide) rfl (fun ls hl => ?_)
    refine lv_goto (tgt := 28) hx hb dL_law_1786 (by decide) ?_
    refine W.widen (k := 200 + 4 * (j + 1)) (n := 9000 + 24 * (j + 1)) (by omega) (by omega) ?_
    exact ih _ _ _ _ _ _ _ hR2 hw (lv_sub hl [3, 4, 5, 6, 7, 0] rfl)
  · skip
    have hoo := hout.trans (simI_o hI (hk.symm.trans c6) vp_updL f (fun v : Int32 => v.toInt64))
    refine lv_aload_n hx hb dL_law_1344 rfl (lv_at hl 5 rfl) ?_
    refine lv_iconst (v := 0) hx hb dL_law_1345 (by decide) ?_
    refine g_laldk (k := 0) rfl X hw 102 rfl (vk rfl) dL_law_1346 ?_
    refine lv_iload hx hb dL_law_1347 (lv_at hl 0 rfl) ?_
    refine lv_i2l (v := r7.toInt64) hx hb dL_law_1349 rfl ?_
    refine W.lcmp hx hb dL_law_1350 ?_
    refine lv_if_eq (tgt := 1356) hx hb dL_law_1351 (by decide) (fun _ => ?_) (fun c9 => absurd (by rw [hoo, hb7]; exact lg_same _) c9)
    refine lv_goto (tgt := 1783) hx hb dL_law_1356 (by decide) ?_
    refine lv_iinc (v := nI (4 * (j + 1))) (lv' := [(5, .int (nI (4 * (j + 1)))), (7, .int r7), (6, .int r6), (0, .ref b), (1, .ref (ad 92)), (2, .ref (bd 0)), (3, .ref o), (4, .ref o2)]) hx hb dL_law_1783 hl (k := 7) rfl (lw_up j) (by decide) rfl (fun ls hl => ?_)
    refine lv_goto (tgt := 28) hx hb dL_law_1786 (by decide) ?_
    refine W.widen (k := 200 + 4 * (j + 1)) (n := 9000 + 24 * (j + 1)) (by omega) (by omega) ?_
    exact ih _ _ _ _ _ _ _ hR2 hw (lv_sub hl [3, 4, 5, 6, 7, 0] rfl)
set_option maxHeartbeats 4000000 in
set_option maxRecDepth 100000 in
theorem law_fire {p : Program} {l : Launch} {e : Env} {s : State} {m : MethodId} {below : List Frame} {meth : Method} {c : Code} {D : va_G} {cy : Nat → ClassId} {ss : Nat → Nat} {ad bd : Nat → Nat} {o o2 b L : Nat} {xs : Nat → Int32} (CX : LX p l s m meth c D cy ss b L xs) {j : Nat} (hj : 4 * j + 4 ≤ L) (ih : LH p l e s m below meth c D cy ad bd o o2 b (j + 1)) {C M : CS} {f : Nat → Int64} {g : Nat → UInt64} {H : Heap} {locs : List Loc} {ls : Array Slot} (hR : Rel C M) (hw : gw D (LA s) s.heap (CW cy ad C ++ (oL cy o f :: oD cy o2 g :: MW cy bd M)) H locs) (hl : lv_has ls 9 [(0, .ref b), (1, .ref (ad 92)), (2, .ref (bd 0)), (3, .ref o), (4, .ref o2), (5, .int (nI (4 * j)))]) : W p l e room_1 s m #[Value.ref b] below meth c H locs (200 + 4 * j) (9000 + 24 * j) (lw_Z below #[Value.ref b] s) (F0 m 1359 ls []) := by
  obtain ⟨X, hE, hX, hbl, hbA, hlt, hL⟩ := CX
  have hx := X.1
  have hb := X.2.1
  obtain ⟨hS, hI, hR2⟩ := sim_fire hR (xs (nI (4 * j) + 1).toNatClampNeg)
  refine lv_aload_n hx hb dL_law_1359 rfl (lv_at hl 1 rfl) ?_
  refine lv_aload_n hx hb dL_law_1360 rfl (lv_at hl 0 rfl) ?_
  refine lv_iload hx hb dL_law_1361 (lv_at hl 5 rfl) ?_
  refine lv_iconst (v := 1) hx hb dL_law_1363 (by decide) ?_
  refine lv_iadd hx hb dL_law_1364 ?_
  refine va_sld hx hb hX hbl hbA hw.2.2 (lw_ix 1 hj hL (by decide)) dL_law_1365 ?_
  refine lv_aload_n hx hb dL_law_1366 rfl (lv_at hl 3 rfl) ?_
  refine gwS_i (rest := []) X hE (c_L_fire l hlt D cy ss ad o (oD cy o2 g :: MW cy bd M) C f (xs (nI (4 * j) + 1).toNatClampNeg)) gy_L_fire gL_law_L_fire ⟨rfl, rfl, Nat.le_of_ble_eq_true rfl, Nat.le_of_ble_eq_true rfl⟩ rfl hl rfl (Nat.le_of_ble_eq_true rfl) dL_law_1367 ⟨by show 200 + 4 * j + 2 ≤ 603072; omega, by show 9000 + 24 * j + 12 ≤ 7202922; omega⟩ hw (fun r6 u6 H locs hk hw => ?_)
  obtain ⟨uC, uO⟩ := u6
  obtain ⟨hk, hC, hout⟩ := hk
  have hC : uC = (F_X6_fire C (xs (nI (4 * j) + 1).toNatClampNeg)).2 := hC
  subst hC
  have hw : gw D (LA s) s.heap (CW cy ad (F_X6_fire C (xs (nI (4 * j) + 1).toNatClampNeg)).2 ++ (oL cy o uO :: oD cy o2 g :: MW cy bd M)) H locs := hw
  refine lv_istore (lv' := [(6, .int r6), (0, .ref b), (1, .ref (ad 92)), (2, .ref (bd 0)), (3, .ref o), (4, .ref o2), (5, .int (nI (4 * j)))]) hx hb dL_law_1370 hl (by decide) rfl (fun ls hl => ?_)
  refine lv_aload_n hx hb dL_law_1372 rfl (lv_at hl 3 rfl) ?_
  refine lv_aload_n hx hb dL_law_1373 rfl (lv_at hl 1 rfl) ?_
  refine lv_iload hx hb dL_law_1374 (lv_at hl 6 rfl) ?_
  refine lv_iconst (v := 1) hx hb dL_law_1376 (by decide) ?_
  refine lv_iadd hx hb dL_law_1377 ?_
  refine va_sld hx hb hX hbl hbA hw.2.2 (lw_ix 1 hj hL (by decide)) dL_law_1378 ?_
  have hw := gw_lr hw
  refine gcV_i (rest := []) X (c_X7_fire l D cy bd (CW cy ad (F_X6_fire C (xs (nI (4 * j) + 1).toNatClampNeg)).2 ++ [oL cy o uO, oD cy o2 g]) M (xs (nI (4 * j) + 1).toNatClampNeg) hS) gy_X7_fire gL_law_X7_fire ⟨rfl, rfl, Nat.le_of_ble_eq_true rfl, Nat.le_of_ble_eq_true rfl⟩ 0 rfl rfl rfl hl rfl (Nat.le_of_ble_eq_true rfl) dL_law_1379 ⟨by show 200 + 4 * j + 2 ≤ 603072; omega, by show 9000 + 24 * j + 12 ≤ 7202922; omega⟩ hw (fun r7 ur7 H locs hr7 hw => ?_)
  obtain ⟨hr7, hM⟩ := hr7
  have hM : ur7 = (F_X7_fire M (xs (nI (4 * j) + 1).toNatClampNeg)).2 := hM
  subst hM
  have hr7 : r7 = (F_X7_fire M (xs (nI (4 * j) + 1).toNatClampNeg)).1 := hr7
  have hw := gw_rl hw
  have hw : gw D (LA s) s.heap (CW cy ad (F_X6_fire C (xs (nI (4 * j) + 1).toNatClampNeg)).2 ++ (oL cy o uO :: oD cy o2 g :: MW cy bd (F_X7_fire M (xs (nI (4 * j) + 1).toNatClampNeg)).2)) H locs := hw
  have hb7 := hr7
  refine lv_istore (lv' := [(7, .int r7), (6, .int r6), (0, .ref b), (1, .ref (ad 92)), (2, .ref (bd 0)), (3, .ref o), (4, .ref o2), (5, .int (nI (4 * j)))]) hx hb dL_law_1382 hl (by decide) rfl (fun ls hl => ?_)
  refine lv_aload_n hx hb dL_law_1384 rfl (lv_at hl 4 rfl) ?_
  have hw := gw_lr hw
  refine gcV_i (rest := []) X (c_X7_thrown l D cy bd (CW cy ad (F_X6_fire C (xs (nI (4 * j) + 1).toNatClampNeg)).2 ++ [oL cy o uO, oD cy o2 g]) (F_X7_fire M (xs (nI (4 * j) + 1).toNatClampNeg)).2) gy_X7_thrown gL_law_X7_thrown ⟨rfl, rfl, Nat.le_of_ble_eq_true rfl, Nat.le_of_ble_eq_true rfl⟩ 0 rfl rfl rfl hl rfl (Nat.le_of_ble_eq_true rfl) dL_law_1385 ⟨by show 200 + 4 * j + 2 ≤ 603072; omega, by show 9000 + 24 * j + 12 ≤ 7202922; omega⟩ hw (fun r9x ur9x H locs hr9x hw => ?_)
  have hr9x : r9x = (F_X7_thrown (F_X7_fire M (xs (nI (4 * j) + 1).toNatClampNeg)).2) := hr9x
  have hw := gw_rl hw
  have hw : gw D (LA s) s.heap (CW cy ad (F_X6_fire C (xs (nI (4 * j) + 1).toNatClampNeg)).2 ++ (oL cy o uO :: oD cy o2 g :: MW cy bd (F_X7_fire M (xs (nI (4 * j) + 1).toNatClampNeg)).2)) H locs := hw
  have hthr : r9x = r6 := by rw [hr9x, hk]; exact (F_X7_thrown.eq_1 _).trans (simI_k hI)
  refine lv_iload hx hb dL_law_1388 (lv_at hl 1 rfl) ?_
  refine lv_icmp_eq (tgt := 1395) hx hb dL_law_1390 (by decide) (fun _ => ?_) (fun c9 => absurd (hthr) c9)
  refine lv_iload hx hb dL_law_1395 (lv_at hl 1 rfl) ?_
  refine lv_if_ne (tgt := 1412) hx hb dL_law_1397 (by decide) (fun c6 => ?_) (fun c6 => ?_)
  · skip
    refine lv_goto (tgt := 1783) hx hb dL_law_1412 (by decide) ?_
    refine lv_iinc (v := nI (4 * (j + 1))) (lv' := [(5, .int (nI (4 * (j + 1)))), (7, .int r7), (6, .int r6), (0, .ref b), (1, .ref (ad 92)), (2, .ref (bd 0)), (3, .ref o), (4, .ref o2)]) hx hb dL_law_1783 hl (k := 7) rfl (lw_up j) (by decide) rfl (fun ls hl => ?_)
    refine lv_goto (tgt := 28) hx hb dL_law_1786 (by decide) ?_
    refine W.widen (k := 200 + 4 * (j + 1)) (n := 9000 + 24 * (j + 1)) (by omega) (by omega) ?_
    exact ih _ _ _ _ _ _ _ hR2 hw (lv_sub hl [3, 4, 5, 6, 7, 0] rfl)
  · skip
    have hoo := hout.trans (simI_o hI (hk.symm.trans c6) vp_updL f (fun v : Int32 => v.toInt64))
    refine lv_aload_n hx hb dL_law_1400 rfl (lv_at hl 5 rfl) ?_
    refine lv_iconst (v := 0) hx hb dL_law_1401 (by decide) ?_
    refine g_laldk (k := 0) rfl X hw 102 rfl (vk rfl) dL_law_1402 ?_
    refine lv_iload hx hb dL_law_1403 (lv_at hl 0 rfl) ?_
    refine lv_i2l (v := r7.toInt64) hx hb dL_law_1405 rfl ?_
    refine W.lcmp hx hb dL_law_1406 ?_
    refine lv_if_eq (tgt := 1412) hx hb dL_law_1407 (by decide) (fun _ => ?_) (fun c9 => absurd (by rw [hoo, hb7]; exact lg_same _) c9)
    refine lv_goto (tgt := 1783) hx hb dL_law_1412 (by decide) ?_
    refine lv_iinc (v := nI (4 * (j + 1))) (lv' := [(5, .int (nI (4 * (j + 1)))), (7, .int r7), (6, .int r6), (0, .ref b), (1, .ref (ad 92)), (2, .ref (bd 0)), (3, .ref o), (4, .ref o2)]) hx hb dL_law_1783 hl (k := 7) rfl (lw_up j) (by decide) rfl (fun ls hl => ?_)
    refine lv_goto (tgt := 28) hx hb dL_law_1786 (by decide) ?_
    refine W.widen (k := 200 + 4 * (j + 1)) (n := 9000 + 24 * (j + 1)) (by omega) (by omega) ?_
    exact ih _ _ _ _ _ _ _ hR2 hw (lv_sub hl [3, 4, 5, 6, 7, 0] rfl)
set_option maxHeartbeats 4000000 in
set_option maxRecDepth 100000 in
theorem law_firingCount {p : Program} {l : Launch} {e : Env} {s : State} {m : MethodId} {below : List Frame} {meth : Method} {c : Code} {D : va_G} {cy : Nat → ClassId} {ss : Nat → Nat} {ad bd : Nat → Nat} {o o2 b L : Nat} {xs : Nat → Int32} (CX : LX p l s m meth c D cy ss b L xs) {j : Nat} (hj : 4 * j + 4 ≤ L) (ih : LH p l e s m below meth c D cy ad bd o o2 b (j + 1)) {C M : CS} {f : Nat → Int64} {g : Nat → UInt64} {H : Heap} {locs : List Loc} {ls : Array Slot} (hR : Rel C M) (hw : gw D (LA s) s.heap (CW cy ad C ++ (oL cy o f :: oD cy o2 g :: MW cy bd M)) H locs) (hl : lv_has ls 9 [(0, .ref b), (1, .ref (ad 92)), (2, .ref (bd 0)), (3, .ref o), (4, .ref o2), (5, .int (nI (4 * j)))]) : W p l e room_1 s m #[Value.ref b] below meth c H locs (200 + 4 * j) (9000 + 24 * j) (lw_Z below #[Value.ref b] s) (F0 m 1415 ls []) := by
  obtain ⟨X, hE, hX, hbl, hbA, hlt, hL⟩ := CX
  have hx := X.1
  have hb := X.2.1
  obtain ⟨hI, hR2⟩ := sim_firingCount hR
  refine lv_aload_n hx hb dL_law_1415 rfl (lv_at hl 1 rfl) ?_
  refine gcV_i (rest := []) X (c_X6_firingCount l D cy ad (oL cy o f :: oD cy o2 g :: MW cy bd M) C) gy_X6_firingCount gL_law_X6_firingCount ⟨rfl, rfl, Nat.le_of_ble_eq_true rfl, Nat.le_of_ble_eq_true rfl⟩ 92 rfl rfl rfl hl rfl (Nat.le_of_ble_eq_true rfl) dL_law_1416 ⟨by show 200 + 4 * j ≤ 603072; omega, by show 9000 + 24 * j ≤ 7202922; omega⟩ hw (fun r8x ur8x H locs hr8x hw => ?_)
  have hr8x : r8x = (F_X6_firingCount C) := hr8x
  have hw : gw D (LA s) s.heap (CW cy ad C ++ (oL cy o f :: oD cy o2 g :: MW cy bd M)) H locs := hw
  refine lv_aload_n hx hb dL_law_1419 rfl (lv_at hl 2 rfl) ?_
  have hw := gw_lr hw
  refine gcV_i (rest := [.int r8x]) X (c_X7_firingCount l D cy bd (CW cy ad C ++ [oL cy o f, oD cy o2 g]) M) gy_X7_firingCount gL_law_X7_firingCount ⟨rfl, rfl, Nat.le_of_ble_eq_true rfl, Nat.le_of_ble_eq_true rfl⟩ 0 rfl rfl rfl hl rfl (Nat.le_of_ble_eq_true rfl) dL_law_1420 ⟨by show 200 + 4 * j ≤ 603072; omega, by show 9000 + 24 * j ≤ 7202922; omega⟩ hw (fun r7 ur7 H locs hr7 hw => ?_)
  obtain ⟨hr7, hM⟩ := hr7
  have hM : ur7 = (F_X7_firingCount M).2 := hM
  subst hM
  have hr7 : r7 = (F_X7_firingCount M).1 := hr7
  have hw := gw_rl hw
  have hw : gw D (LA s) s.heap (CW cy ad C ++ (oL cy o f :: oD cy o2 g :: MW cy bd (F_X7_firingCount M).2)) H locs := hw
  have hcmp : r8x = r7 := hr8x.trans (hI.trans hr7.symm)
  refine lv_icmp_eq (tgt := 1783) hx hb dL_law_1423 (by decide) (fun _ => ?_) (fun c9 => absurd (hcmp) c9)
  refine lv_iinc (v := nI (4 * (j + 1))) (lv' := [(5, .int (nI (4 * (j + 1)))), (0, .ref b), (1, .ref (ad 92)), (2, .ref (bd 0)), (3, .ref o), (4, .ref o2)]) hx hb dL_law_1783 hl (k := 5) rfl (lw_up j) (by decide) rfl (fun ls hl => ?_)
  refine lv_goto (tgt := 28) hx hb dL_law_1786 (by decide) ?_
  refine W.widen (k := 200 + 4 * (j + 1)) (n := 9000 + 24 * (j + 1)) (by omega) (by omega) ?_
  exact ih _ _ _ _ _ _ _ hR2 hw (lv_sub hl [1, 2, 3, 4, 5, 0] rfl)
set_option maxHeartbeats 4000000 in
set_option maxRecDepth 100000 in
theorem law_firing {p : Program} {l : Launch} {e : Env} {s : State} {m : MethodId} {below : List Frame} {meth : Method} {c : Code} {D : va_G} {cy : Nat → ClassId} {ss : Nat → Nat} {ad bd : Nat → Nat} {o o2 b L : Nat} {xs : Nat → Int32} (CX : LX p l s m meth c D cy ss b L xs) {j : Nat} (hj : 4 * j + 4 ≤ L) (ih : LH p l e s m below meth c D cy ad bd o o2 b (j + 1)) {C M : CS} {f : Nat → Int64} {g : Nat → UInt64} {H : Heap} {locs : List Loc} {ls : Array Slot} (hR : Rel C M) (hw : gw D (LA s) s.heap (CW cy ad C ++ (oL cy o f :: oD cy o2 g :: MW cy bd M)) H locs) (hl : lv_has ls 9 [(0, .ref b), (1, .ref (ad 92)), (2, .ref (bd 0)), (3, .ref o), (4, .ref o2), (5, .int (nI (4 * j)))]) : W p l e room_1 s m #[Value.ref b] below meth c H locs (200 + 4 * j) (9000 + 24 * j) (lw_Z below #[Value.ref b] s) (F0 m 1428 ls []) := by
  obtain ⟨X, hE, hX, hbl, hbA, hlt, hL⟩ := CX
  have hx := X.1
  have hb := X.2.1
  obtain ⟨hS, hI, hR2⟩ := sim_firing hR (xs (nI (4 * j) + 1).toNatClampNeg) (xs (nI (4 * j) + 2).toNatClampNeg)
  refine lv_aload_n hx hb dL_law_1428 rfl (lv_at hl 1 rfl) ?_
  refine lv_aload_n hx hb dL_law_1429 rfl (lv_at hl 0 rfl) ?_
  refine lv_iload hx hb dL_law_1430 (lv_at hl 5 rfl) ?_
  refine lv_iconst (v := 1) hx hb dL_law_1432 (by decide) ?_
  refine lv_iadd hx hb dL_law_1433 ?_
  refine va_sld hx hb hX hbl hbA hw.2.2 (lw_ix 1 hj hL (by decide)) dL_law_1434 ?_
  refine lv_aload_n hx hb dL_law_1435 rfl (lv_at hl 0 rfl) ?_
  refine lv_iload hx hb dL_law_1436 (lv_at hl 5 rfl) ?_
  refine lv_iconst (v := 2) hx hb dL_law_1438 (by decide) ?_
  refine lv_iadd hx hb dL_law_1439 ?_
  refine va_sld hx hb hX hbl hbA hw.2.2 (lw_ix 2 hj hL (by decide)) dL_law_1440 ?_
  refine lv_aload_n hx hb dL_law_1441 rfl (lv_at hl 3 rfl) ?_
  refine gwS_i (rest := []) X hE (c_L_firing l hlt D cy ss ad o (oD cy o2 g :: MW cy bd M) C f (xs (nI (4 * j) + 1).toNatClampNeg) (xs (nI (4 * j) + 2).toNatClampNeg)) gy_L_firing gL_law_L_firing ⟨rfl, rfl, Nat.le_of_ble_eq_true rfl, Nat.le_of_ble_eq_true rfl⟩ rfl hl rfl (Nat.le_of_ble_eq_true rfl) dL_law_1442 ⟨by show 200 + 4 * j + 1 ≤ 603072; omega, by show 9000 + 24 * j + 6 ≤ 7202922; omega⟩ hw (fun r6 u6 H locs hk hw => ?_)
  obtain ⟨uO, hu0⟩ : ∃ z, z = u6 := ⟨_, rfl⟩
  obtain ⟨hk, hout⟩ := hk
  rw [← hu0] at hout hw
  have hw : gw D (LA s) s.heap (CW cy ad C ++ (oL cy o uO :: oD cy o2 g :: MW cy bd M)) H locs := hw
  refine lv_istore (lv' := [(6, .int r6), (0, .ref b), (1, .ref (ad 92)), (2, .ref (bd 0)), (3, .ref o), (4, .ref o2), (5, .int (nI (4 * j)))]) hx hb dL_law_1445 hl (by decide) rfl (fun ls hl => ?_)
  refine lv_aload_n hx hb dL_law_1447 rfl (lv_at hl 3 rfl) ?_
  refine lv_aload_n hx hb dL_law_1448 rfl (lv_at hl 1 rfl) ?_
  refine lv_iload hx hb dL_law_1449 (lv_at hl 6 rfl) ?_
  refine lv_iconst (v := 1) hx hb dL_law_1451 (by decide) ?_
  refine lv_iadd hx hb dL_law_1452 ?_
  refine va_sld hx hb hX hbl hbA hw.2.2 (lw_ix 1 hj hL (by decide)) dL_law_1453 ?_
  refine lv_aload_n hx hb dL_law_1454 rfl (lv_at hl 1 rfl) ?_
  refine lv_iload hx hb dL_law_1455 (lv_at hl 6 rfl) ?_
  refine lv_iconst (v := 2) hx hb dL_law_1457 (by decide) ?_
  refine lv_iadd hx hb dL_law_1458 ?_
  refine va_sld hx hb hX hbl hbA hw.2.2 (lw_ix 2 hj hL (by decide)) dL_law_1459 ?_
  have hw := gw_lr hw
  refine gcV_i (rest := []) X (c_X7_firing l D cy bd (CW cy ad C ++ [oL cy o uO, oD cy o2 g]) M (xs (nI (4 * j) + 1).toNatClampNeg) (xs (nI (4 * j) + 2).toNatClampNeg) hS) gy_X7_firing gL_law_X7_firing ⟨rfl, rfl, Nat.le_of_ble_eq_true rfl, Nat.le_of_ble_eq_true rfl⟩ 0 rfl rfl rfl hl rfl (Nat.le_of_ble_eq_true rfl) dL_law_1460 ⟨by show 200 + 4 * j + 1 ≤ 603072; omega, by show 9000 + 24 * j + 6 ≤ 7202922; omega⟩ hw (fun r7 ur7 H locs hr7 hw => ?_)
  obtain ⟨hr7, hM⟩ := hr7
  have hM : ur7 = (F_X7_firing M (xs (nI (4 * j) + 1).toNatClampNeg) (xs (nI (4 * j) + 2).toNatClampNeg)).2 := hM
  subst hM
  have hr7 : r7 = (F_X7_firing M (xs (nI (4 * j) + 1).toNatClampNeg) (xs (nI (4 * j) + 2).toNatClampNeg)).1 := hr7
  have hw := gw_rl hw
  have hw : gw D (LA s) s.heap (CW cy ad C ++ (oL cy o uO :: oD cy o2 g :: MW cy bd (F_X7_firing M (xs (nI (4 * j) + 1).toNatClampNeg) (xs (nI (4 * j) + 2).toNatClampNeg)).2)) H locs := hw
  have hb7 := hr7
  refine lv_istore (lv' := [(7, .int r7), (6, .int r6), (0, .ref b), (1, .ref (ad 92)), (2, .ref (bd 0)), (3, .ref o), (4, .ref o2), (5, .int (nI (4 * j)))]) hx hb dL_law_1463 hl (by decide) rfl (fun ls hl => ?_)
  refine lv_aload_n hx hb dL_law_1465 rfl (lv_at hl 4 rfl) ?_
  have hw := gw_lr hw
  refine gcV_i (rest := []) X (c_X7_thrown l D cy bd (CW cy ad C ++ [oL cy o uO, oD cy o2 g]) (F_X7_firing M (xs (nI (4 * j) + 1).toNatClampNeg) (xs (nI (4 * j) + 2).toNatClampNeg)).2) gy_X7_thrown gL_law_X7_thrown ⟨rfl, rfl, Nat.le_of_ble_eq_true rfl, Nat.le_of_ble_eq_true rfl⟩ 0 rfl rfl rfl hl rfl (Nat.le_of_ble_eq_true rfl) dL_law_1466 ⟨by show 200 + 4 * j + 1 ≤ 603072; omega, by show 9000 + 24 * j + 6 ≤ 7202922; omega⟩ hw (fun r9x ur9x H locs hr9x hw => ?_)
  have hr9x : r9x = (F_X7_thrown (F_X7_firing M (xs (nI (4 * j) + 1).toNatClampNeg) (xs (nI (4 * j) + 2).toNatClampNeg)).2) := hr9x
  have hw := gw_rl hw
  have hw : gw D (LA s) s.heap (CW cy ad C ++ (oL cy o uO :: oD cy o2 g :: MW cy bd (F_X7_firing M (xs (nI (4 * j) + 1).toNatClampNeg) (xs (nI (4 * j) + 2).toNatClampNeg)).2)) H locs := hw
  have hthr : r9x = r6 := by rw [hr9x, hk]; exact (F_X7_thrown.eq_1 _).trans (simI_k hI)
  refine lv_iload hx hb dL_law_1469 (lv_at hl 1 rfl) ?_
  refine lv_icmp_eq (tgt := 1476) hx hb dL_law_1471 (by decide) (fun _ => ?_) (fun c9 => absurd (hthr) c9)
  refine lv_iload hx hb dL_law_1476 (lv_at hl 1 rfl) ?_
  refine lv_if_ne (tgt := 1493) hx hb dL_law_1478 (by decide) (fun c6 => ?_) (fun c6 => ?_)
  · skip
    refine lv_goto (tgt := 1783) hx hb dL_law_1493 (by decide) ?_
    refine lv_iinc (v := nI (4 * (j + 1))) (lv' := [(5, .int (nI (4 * (j + 1)))), (7, .int r7), (6, .int r6), (0, .ref b), (1, .ref (ad 92)), (2, .ref (bd 0)), (3, .ref o), (4, .ref o2)]) hx hb dL_law_1783 hl (k := 7) rfl (lw_up j) (by decide) rfl (fun ls hl => ?_)
    refine lv_goto (tgt := 28) hx hb dL_law_1786 (by decide) ?_
    refine W.widen (k := 200 + 4 * (j + 1)) (n := 9000 + 24 * (j + 1)) (by omega) (by omega) ?_
    exact ih _ _ _ _ _ _ _ hR2 hw (lv_sub hl [3, 4, 5, 6, 7, 0] rfl)
  · skip
    have hoo := hout.trans (simI_o hI (hk.symm.trans c6) vp_updL f (fun v : Int32 => v.toInt64))
    refine lv_aload_n hx hb dL_law_1481 rfl (lv_at hl 5 rfl) ?_
    refine lv_iconst (v := 0) hx hb dL_law_1482 (by decide) ?_
    refine g_laldk (k := 0) rfl X hw 102 rfl (vk rfl) dL_law_1483 ?_
    refine lv_iload hx hb dL_law_1484 (lv_at hl 0 rfl) ?_
    refine lv_i2l (v := r7.toInt64) hx hb dL_law_1486 rfl ?_
    refine W.lcmp hx hb dL_law_1487 ?_
    refine lv_if_eq (tgt := 1493) hx hb dL_law_1488 (by decide) (fun _ => ?_) (fun c9 => absurd (by rw [hoo, hb7]; exact lg_same _) c9)
    refine lv_goto (tgt := 1783) hx hb dL_law_1493 (by decide) ?_
    refine lv_iinc (v := nI (4 * (j + 1))) (lv' := [(5, .int (nI (4 * (j + 1)))), (7, .int r7), (6, .int r6), (0, .ref b), (1, .ref (ad 92)), (2, .ref (bd 0)), (3, .ref o), (4, .ref o2)]) hx hb dL_law_1783 hl (k := 7) rfl (lw_up j) (by decide) rfl (fun ls hl => ?_)
    refine lv_goto (tgt := 28) hx hb dL_law_1786 (by decide) ?_
    refine W.widen (k := 200 + 4 * (j + 1)) (n := 9000 + 24 * (j + 1)) (by omega) (by omega) ?_
    exact ih _ _ _ _ _ _ _ hR2 hw (lv_sub hl [3, 4, 5, 6, 7, 0] rfl)
set_option maxHeartbeats 4000000 in
set_option maxRecDepth 100000 in
theorem law_firings {p : Program} {l : Launch} {e : Env} {s : State} {m : MethodId} {below : List Frame} {meth : Method} {c : Code} {D : va_G} {cy : Nat → ClassId} {ss : Nat → Nat} {ad bd : Nat → Nat} {o o2 b L : Nat} {xs : Nat → Int32} (CX : LX p l s m meth c D cy ss b L xs) {j : Nat} (hj : 4 * j + 4 ≤ L) (ih : LH p l e s m below meth c D cy ad bd o o2 b (j + 1)) {C M : CS} {f : Nat → Int64} {g : Nat → UInt64} {H : Heap} {locs : List Loc} {ls : Array Slot} (hR : Rel C M) (hw : gw D (LA s) s.heap (CW cy ad C ++ (oL cy o f :: oD cy o2 g :: MW cy bd M)) H locs) (hl : lv_has ls 9 [(0, .ref b), (1, .ref (ad 92)), (2, .ref (bd 0)), (3, .ref o), (4, .ref o2), (5, .int (nI (4 * j)))]) : W p l e room_1 s m #[Value.ref b] below meth c H locs (200 + 4 * j) (9000 + 24 * j) (lw_Z below #[Value.ref b] s) (F0 m 1496 ls []) := by
  obtain ⟨X, hE, hX, hbl, hbA, hlt, hL⟩ := CX
  have hx := X.1
  have hb := X.2.1
  obtain ⟨hS, hI, hR2⟩ := sim_firings hR (xs (nI (4 * j) + 1).toNatClampNeg)
  refine lv_aload_n hx hb dL_law_1496 rfl (lv_at hl 1 rfl) ?_
  refine lv_aload_n hx hb dL_law_1497 rfl (lv_at hl 0 rfl) ?_
  refine lv_iload hx hb dL_law_1498 (lv_at hl 5 rfl) ?_
  refine lv_iconst (v := 1) hx hb dL_law_1500 (by decide) ?_
  refine lv_iadd hx hb dL_law_1501 ?_
  refine va_sld hx hb hX hbl hbA hw.2.2 (lw_ix 1 hj hL (by decide)) dL_law_1502 ?_
  refine lv_aload_n hx hb dL_law_1503 rfl (lv_at hl 3 rfl) ?_
  refine gwS_i (rest := []) X hE (c_L_firings l hlt D cy ss ad o (oD cy o2 g :: MW cy bd M) C f (xs (nI (4 * j) + 1).toNatClampNeg)) gy_L_firings gL_law_L_firings ⟨rfl, rfl, Nat.le_of_ble_eq_true rfl, Nat.le_of_ble_eq_true rfl⟩ rfl hl rfl (Nat.le_of_ble_eq_true rfl) dL_law_1504 ⟨by show 200 + 4 * j + 1 ≤ 603072; omega, by show 9000 + 24 * j + 6 ≤ 7202922; omega⟩ hw (fun r6 u6 H locs hk hw => ?_)
  obtain ⟨uO, hu0⟩ : ∃ z, z = u6 := ⟨_, rfl⟩
  obtain ⟨hk, hout⟩ := hk
  rw [← hu0] at hout hw
  have hw : gw D (LA s) s.heap (CW cy ad C ++ (oL cy o uO :: oD cy o2 g :: MW cy bd M)) H locs := hw
  refine lv_istore (lv' := [(6, .int r6), (0, .ref b), (1, .ref (ad 92)), (2, .ref (bd 0)), (3, .ref o), (4, .ref o2), (5, .int (nI (4 * j)))]) hx hb dL_law_1507 hl (by decide) rfl (fun ls hl => ?_)
  refine lv_aload_n hx hb dL_law_1509 rfl (lv_at hl 3 rfl) ?_
  refine lv_aload_n hx hb dL_law_1510 rfl (lv_at hl 1 rfl) ?_
  refine lv_iload hx hb dL_law_1511 (lv_at hl 6 rfl) ?_
  refine lv_iconst (v := 1) hx hb dL_law_1513 (by decide) ?_
  refine lv_iadd hx hb dL_law_1514 ?_
  refine va_sld hx hb hX hbl hbA hw.2.2 (lw_ix 1 hj hL (by decide)) dL_law_1515 ?_
  have hw := gw_lr hw
  refine gcV_i (rest := []) X (c_X7_firings l D cy bd (CW cy ad C ++ [oL cy o uO, oD cy o2 g]) M (xs (nI (4 * j) + 1).toNatClampNeg) hS) gy_X7_firings gL_law_X7_firings ⟨rfl, rfl, Nat.le_of_ble_eq_true rfl, Nat.le_of_ble_eq_true rfl⟩ 0 rfl rfl rfl hl rfl (Nat.le_of_ble_eq_true rfl) dL_law_1516 ⟨by show 200 + 4 * j + 1 ≤ 603072; omega, by show 9000 + 24 * j + 6 ≤ 7202922; omega⟩ hw (fun r7 ur7 H locs hr7 hw => ?_)
  obtain ⟨hr7, hM⟩ := hr7
  have hM : ur7 = (F_X7_firings M (xs (nI (4 * j) + 1).toNatClampNeg)).2 := hM
  subst hM
  have hr7 : r7 = (F_X7_firings M (xs (nI (4 * j) + 1).toNatClampNeg)).1 := hr7
  have hw := gw_rl hw
  have hw : gw D (LA s) s.heap (CW cy ad C ++ (oL cy o uO :: oD cy o2 g :: MW cy bd (F_X7_firings M (xs (nI (4 * j) + 1).toNatClampNeg)).2)) H locs := hw
  have hb7 := hr7
  refine lv_istore (lv' := [(7, .int r7), (6, .int r6), (0, .ref b), (1, .ref (ad 92)), (2, .ref (bd 0)), (3, .ref o), (4, .ref o2), (5, .int (nI (4 * j)))]) hx hb dL_law_1519 hl (by decide) rfl (fun ls hl => ?_)
  refine lv_aload_n hx hb dL_law_1521 rfl (lv_at hl 4 rfl) ?_
  have hw := gw_lr hw
  refine gcV_i (rest := []) X (c_X7_thrown l D cy bd (CW cy ad C ++ [oL cy o uO, oD cy o2 g]) (F_X7_firings M (xs (nI (4 * j) + 1).toNatClampNeg)).2) gy_X7_thrown gL_law_X7_thrown ⟨rfl, rfl, Nat.le_of_ble_eq_true rfl, Nat.le_of_ble_eq_true rfl⟩ 0 rfl rfl rfl hl rfl (Nat.le_of_ble_eq_true rfl) dL_law_1522 ⟨by show 200 + 4 * j + 1 ≤ 603072; omega, by show 9000 + 24 * j + 6 ≤ 7202922; omega⟩ hw (fun r9x ur9x H locs hr9x hw => ?_)
  have hr9x : r9x = (F_X7_thrown (F_X7_firings M (xs (nI (4 * j) + 1).toNatClampNeg)).2) := hr9x
  have hw := gw_rl hw
  have hw : gw D (LA s) s.heap (CW cy ad C ++ (oL cy o uO :: oD cy o2 g :: MW cy bd (F_X7_firings M (xs (nI (4 * j) + 1).toNatClampNeg)).2)) H locs := hw
  have hthr : r9x = r6 := by rw [hr9x, hk]; exact (F_X7_thrown.eq_1 _).trans (simI_k hI)
  refine lv_iload hx hb dL_law_1525 (lv_at hl 1 rfl) ?_
  refine lv_icmp_eq (tgt := 1532) hx hb dL_law_1527 (by decide) (fun _ => ?_) (fun c9 => absurd (hthr) c9)
  refine lv_iload hx hb dL_law_1532 (lv_at hl 1 rfl) ?_
  refine lv_if_ne (tgt := 1549) hx hb dL_law_1534 (by decide) (fun c6 => ?_) (fun c6 => ?_)
  · skip
    refine lv_goto (tgt := 1783) hx hb dL_law_1549 (by decide) ?_
    refine lv_iinc (v := nI (4 * (j + 1))) (lv' := [(5, .int (nI (4 * (j + 1)))), (7, .int r7), (6, .int r6), (0, .ref b), (1, .ref (ad 92)), (2, .ref (bd 0)), (3, .ref o), (4, .ref o2)]) hx hb dL_law_1783 hl (k := 7) rfl (lw_up j) (by decide) rfl (fun ls hl => ?_)
    refine lv_goto (tgt := 28) hx hb dL_law_1786 (by decide) ?_
    refine W.widen (k := 200 + 4 * (j + 1)) (n := 9000 + 24 * (j + 1)) (by omega) (by omega) ?_
    exact ih _ _ _ _ _ _ _ hR2 hw (lv_sub hl [3, 4, 5, 6, 7, 0] rfl)
  · skip
    have hoo := hout.trans (simI_o hI (hk.symm.trans c6) vp_updL f (fun v : Int32 => v.toInt64))
    refine lv_aload_n hx hb dL_law_1537 rfl (lv_at hl 5 rfl) ?_
    refine lv_iconst (v := 0) hx hb dL_law_1538 (by decide) ?_
    refine g_laldk (k := 0) rfl X hw 102 rfl (vk rfl) dL_law_1539 ?_
    refine lv_iload hx hb dL_law_1540 (lv_at hl 0 rfl) ?_
    refine lv_i2l (v := r7.toInt64) hx hb dL_law_1542 rfl ?_
    refine W.lcmp hx hb dL_law_1543 ?_
    refine lv_if_eq (tgt := 1549) hx hb dL_law_1544 (by decide) (fun _ => ?_) (fun c9 => absurd (by rw [hoo, hb7]; exact lg_same _) c9)
    refine lv_goto (tgt := 1783) hx hb dL_law_1549 (by decide) ?_
    refine lv_iinc (v := nI (4 * (j + 1))) (lv' := [(5, .int (nI (4 * (j + 1)))), (7, .int r7), (6, .int r6), (0, .ref b), (1, .ref (ad 92)), (2, .ref (bd 0)), (3, .ref o), (4, .ref o2)]) hx hb dL_law_1783 hl (k := 7) rfl (lw_up j) (by decide) rfl (fun ls hl => ?_)
    refine lv_goto (tgt := 28) hx hb dL_law_1786 (by decide) ?_
    refine W.widen (k := 200 + 4 * (j + 1)) (n := 9000 + 24 * (j + 1)) (by omega) (by omega) ?_
    exact ih _ _ _ _ _ _ _ hR2 hw (lv_sub hl [3, 4, 5, 6, 7, 0] rfl)
set_option maxHeartbeats 4000000 in
set_option maxRecDepth 100000 in
theorem law_balance {p : Program} {l : Launch} {e : Env} {s : State} {m : MethodId} {below : List Frame} {meth : Method} {c : Code} {D : va_G} {cy : Nat → ClassId} {ss : Nat → Nat} {ad bd : Nat → Nat} {o o2 b L : Nat} {xs : Nat → Int32} (CX : LX p l s m meth c D cy ss b L xs) {j : Nat} (hj : 4 * j + 4 ≤ L) (ih : LH p l e s m below meth c D cy ad bd o o2 b (j + 1)) {C M : CS} {f : Nat → Int64} {g : Nat → UInt64} {H : Heap} {locs : List Loc} {ls : Array Slot} (hR : Rel C M) (hw : gw D (LA s) s.heap (CW cy ad C ++ (oL cy o f :: oD cy o2 g :: MW cy bd M)) H locs) (hl : lv_has ls 9 [(0, .ref b), (1, .ref (ad 92)), (2, .ref (bd 0)), (3, .ref o), (4, .ref o2), (5, .int (nI (4 * j)))]) : W p l e room_1 s m #[Value.ref b] below meth c H locs (200 + 4 * j) (9000 + 24 * j) (lw_Z below #[Value.ref b] s) (F0 m 1552 ls []) := by
  obtain ⟨X, hE, hX, hbl, hbA, hlt, hL⟩ := CX
  have hx := X.1
  have hb := X.2.1
  obtain ⟨hI, hR2⟩ := sim_balance hR
  refine lv_aload_n hx hb dL_law_1552 rfl (lv_at hl 1 rfl) ?_
  refine gcV_l (rest := []) X (c_X6_balance l D cy ad (oL cy o f :: oD cy o2 g :: MW cy bd M) C) gy_X6_balance gL_law_X6_balance ⟨rfl, rfl, Nat.le_of_ble_eq_true rfl, Nat.le_of_ble_eq_true rfl⟩ 92 rfl rfl rfl hl rfl (Nat.le_of_ble_eq_true rfl) dL_law_1553 ⟨by show 200 + 4 * j ≤ 603072; omega, by show 9000 + 24 * j ≤ 7202922; omega⟩ hw (fun r8x ur8x H locs hr8x hw => ?_)
  have hr8x : r8x = (F_X6_balance C) := hr8x
  have hw : gw D (LA s) s.heap (CW cy ad C ++ (oL cy o f :: oD cy o2 g :: MW cy bd M)) H locs := hw
  refine lv_aload_n hx hb dL_law_1556 rfl (lv_at hl 2 rfl) ?_
  have hw := gw_lr hw
  refine gcV_l (rest := [.long r8x]) X (c_X7_balance l D cy bd (CW cy ad C ++ [oL cy o f, oD cy o2 g]) M) gy_X7_balance gL_law_X7_balance ⟨rfl, rfl, Nat.le_of_ble_eq_true rfl, Nat.le_of_ble_eq_true rfl⟩ 0 rfl rfl rfl hl rfl (Nat.le_of_ble_eq_true rfl) dL_law_1557 ⟨by show 200 + 4 * j ≤ 603072; omega, by show 9000 + 24 * j ≤ 7202922; omega⟩ hw (fun r7 ur7 H locs hr7 hw => ?_)
  obtain ⟨hr7, hM⟩ := hr7
  have hM : ur7 = (F_X7_balance M).2 := hM
  subst hM
  have hr7 : r7 = (F_X7_balance M).1 := hr7
  have hw := gw_rl hw
  have hw : gw D (LA s) s.heap (CW cy ad C ++ (oL cy o f :: oD cy o2 g :: MW cy bd (F_X7_balance M).2)) H locs := hw
  have hcmp : r8x = r7 := hr8x.trans (hI.trans hr7.symm)
  refine W.lcmp hx hb dL_law_1560 ?_
  refine lv_if_eq (tgt := 1783) hx hb dL_law_1561 (by decide) (fun _ => ?_) (fun c9 => absurd (by rw [hcmp]; exact lg_same _) c9)
  refine lv_iinc (v := nI (4 * (j + 1))) (lv' := [(5, .int (nI (4 * (j + 1)))), (0, .ref b), (1, .ref (ad 92)), (2, .ref (bd 0)), (3, .ref o), (4, .ref o2)]) hx hb dL_law_1783 hl (k := 5) rfl (lw_up j) (by decide) rfl (fun ls hl => ?_)
  refine lv_goto (tgt := 28) hx hb dL_law_1786 (by decide) ?_
  refine W.widen (k := 200 + 4 * (j + 1)) (n := 9000 + 24 * (j + 1)) (by omega) (by omega) ?_
  exact ih _ _ _ _ _ _ _ hR2 hw (lv_sub hl [1, 2, 3, 4, 5, 0] rfl)
set_option maxHeartbeats 4000000 in
set_option maxRecDepth 100000 in
theorem law_standing {p : Program} {l : Launch} {e : Env} {s : State} {m : MethodId} {below : List Frame} {meth : Method} {c : Code} {D : va_G} {cy : Nat → ClassId} {ss : Nat → Nat} {ad bd : Nat → Nat} {o o2 b L : Nat} {xs : Nat → Int32} (CX : LX p l s m meth c D cy ss b L xs) {j : Nat} (hj : 4 * j + 4 ≤ L) (ih : LH p l e s m below meth c D cy ad bd o o2 b (j + 1)) {C M : CS} {f : Nat → Int64} {g : Nat → UInt64} {H : Heap} {locs : List Loc} {ls : Array Slot} (hR : Rel C M) (hw : gw D (LA s) s.heap (CW cy ad C ++ (oL cy o f :: oD cy o2 g :: MW cy bd M)) H locs) (hl : lv_has ls 9 [(0, .ref b), (1, .ref (ad 92)), (2, .ref (bd 0)), (3, .ref o), (4, .ref o2), (5, .int (nI (4 * j)))]) : W p l e room_1 s m #[Value.ref b] below meth c H locs (200 + 4 * j) (9000 + 24 * j) (lw_Z below #[Value.ref b] s) (F0 m 1566 ls []) := by
  obtain ⟨X, hE, hX, hbl, hbA, hlt, hL⟩ := CX
  have hx := X.1
  have hb := X.2.1
  obtain ⟨hS, hI, hR2⟩ := sim_standing hR
  refine lv_aload_n hx hb dL_law_1566 rfl (lv_at hl 1 rfl) ?_
  refine gcV_l (rest := []) X (c_X6_standing l D cy ad (oL cy o f :: oD cy o2 g :: MW cy bd M) C) gy_X6_standing gL_law_X6_standing ⟨rfl, rfl, Nat.le_of_ble_eq_true rfl, Nat.le_of_ble_eq_true rfl⟩ 92 rfl rfl rfl hl rfl (Nat.le_of_ble_eq_true rfl) dL_law_1567 ⟨by show 200 + 4 * j ≤ 603072; omega, by show 9000 + 24 * j ≤ 7202922; omega⟩ hw (fun r8x ur8x H locs hr8x hw => ?_)
  have hr8x : r8x = (F_X6_standing C) := hr8x
  have hw : gw D (LA s) s.heap (CW cy ad C ++ (oL cy o f :: oD cy o2 g :: MW cy bd M)) H locs := hw
  refine lv_aload_n hx hb dL_law_1570 rfl (lv_at hl 2 rfl) ?_
  have hw := gw_lr hw
  refine gcV_l (rest := [.long r8x]) X (c_X7_standing l D cy bd (CW cy ad C ++ [oL cy o f, oD cy o2 g]) M  hS) gy_X7_standing gL_law_X7_standing ⟨rfl, rfl, Nat.le_of_ble_eq_true rfl, Nat.le_of_ble_eq_true rfl⟩ 0 rfl rfl rfl hl rfl (Nat.le_of_ble_eq_true rfl) dL_law_1571 ⟨by show 200 + 4 * j ≤ 603072; omega, by show 9000 + 24 * j ≤ 7202922; omega⟩ hw (fun r7 ur7 H locs hr7 hw => ?_)
  obtain ⟨hr7, hM⟩ := hr7
  have hM : ur7 = (F_X7_standing M).2 := hM
  subst hM
  have hr7 : r7 = (F_X7_standing M).1 := hr7
  have hw := gw_rl hw
  have hw : gw D (LA s) s.heap (CW cy ad C ++ (oL cy o f :: oD cy o2 g :: MW cy bd (F_X7_standing M).2)) H locs := hw
  have hcmp : r8x = r7 := hr8x.trans (hI.trans hr7.symm)
  refine W.lcmp hx hb dL_law_1574 ?_
  refine lv_if_eq (tgt := 1783) hx hb dL_law_1575 (by decide) (fun _ => ?_) (fun c9 => absurd (by rw [hcmp]; exact lg_same _) c9)
  refine lv_iinc (v := nI (4 * (j + 1))) (lv' := [(5, .int (nI (4 * (j + 1)))), (0, .ref b), (1, .ref (ad 92)), (2, .ref (bd 0)), (3, .ref o), (4, .ref o2)]) hx hb dL_law_1783 hl (k := 5) rfl (lw_up j) (by decide) rfl (fun ls hl => ?_)
  refine lv_goto (tgt := 28) hx hb dL_law_1786 (by decide) ?_
  refine W.widen (k := 200 + 4 * (j + 1)) (n := 9000 + 24 * (j + 1)) (by omega) (by omega) ?_
  exact ih _ _ _ _ _ _ _ hR2 hw (lv_sub hl [1, 2, 3, 4, 5, 0] rfl)
set_option maxHeartbeats 4000000 in
set_option maxRecDepth 100000 in
theorem law_append {p : Program} {l : Launch} {e : Env} {s : State} {m : MethodId} {below : List Frame} {meth : Method} {c : Code} {D : va_G} {cy : Nat → ClassId} {ss : Nat → Nat} {ad bd : Nat → Nat} {o o2 b L : Nat} {xs : Nat → Int32} (CX : LX p l s m meth c D cy ss b L xs) {j : Nat} (hj : 4 * j + 4 ≤ L) (ih : LH p l e s m below meth c D cy ad bd o o2 b (j + 1)) {C M : CS} {f : Nat → Int64} {g : Nat → UInt64} {H : Heap} {locs : List Loc} {ls : Array Slot} (hR : Rel C M) (hw : gw D (LA s) s.heap (CW cy ad C ++ (oL cy o f :: oD cy o2 g :: MW cy bd M)) H locs) (hl : lv_has ls 9 [(0, .ref b), (1, .ref (ad 92)), (2, .ref (bd 0)), (3, .ref o), (4, .ref o2), (5, .int (nI (4 * j)))]) : W p l e room_1 s m #[Value.ref b] below meth c H locs (200 + 4 * j) (9000 + 24 * j) (lw_Z below #[Value.ref b] s) (F0 m 1580 ls []) := by
  obtain ⟨X, hE, hX, hbl, hbA, hlt, hL⟩ := CX
  have hx := X.1
  have hb := X.2.1
  obtain ⟨hS, hI, hR2⟩ := sim_append hR ((xs (nI (4 * j) + 1).toNatClampNeg).toUInt32 % 65536).toInt32 ⟨_, Nat.mod_lt _ (by decide), pk_char _⟩
  refine lv_aload_n hx hb dL_law_1580 rfl (lv_at hl 1 rfl) ?_
  refine lv_aload_n hx hb dL_law_1581 rfl (lv_at hl 0 rfl) ?_
  refine lv_iload hx hb dL_law_1582 (lv_at hl 5 rfl) ?_
  refine lv_iconst (v := 1) hx hb dL_law_1584 (by decide) ?_
  refine lv_iadd hx hb dL_law_1585 ?_
  refine va_sld hx hb hX hbl hbA hw.2.2 (lw_ix 1 hj hL (by decide)) dL_law_1586 ?_
  refine lv_i2c (v := ((xs (nI (4 * j) + 1).toNatClampNeg).toUInt32 % 65536).toInt32) hx hb dL_law_1587 rfl ?_
  refine lv_aload_n hx hb dL_law_1588 rfl (lv_at hl 3 rfl) ?_
  refine gwS_i (rest := []) X hE (c_L_append l hlt D cy ss ad o (oD cy o2 g :: MW cy bd M) C f (((xs (nI (4 * j) + 1).toNatClampNeg).toUInt32 % 65536).toInt32)) gy_L_append gL_law_L_append ⟨rfl, rfl, Nat.le_of_ble_eq_true rfl, Nat.le_of_ble_eq_true rfl⟩ rfl hl rfl (Nat.le_of_ble_eq_true rfl) dL_law_1589 ⟨by show 200 + 4 * j + 2 ≤ 603072; omega, by show 9000 + 24 * j + 12 ≤ 7202922; omega⟩ hw (fun r6 u6 H locs hk hw => ?_)
  obtain ⟨uC, uO⟩ := u6
  obtain ⟨hk, hC, hout⟩ := hk
  have hC : uC = (F_X6_append C (((xs (nI (4 * j) + 1).toNatClampNeg).toUInt32 % 65536).toInt32)).2 := hC
  subst hC
  have hw : gw D (LA s) s.heap (CW cy ad (F_X6_append C (((xs (nI (4 * j) + 1).toNatClampNeg).toUInt32 % 65536).toInt32)).2 ++ (oL cy o uO :: oD cy o2 g :: MW cy bd M)) H locs := hw
  refine lv_istore (lv' := [(6, .int r6), (0, .ref b), (1, .ref (ad 92)), (2, .ref (bd 0)), (3, .ref o), (4, .ref o2), (5, .int (nI (4 * j)))]) hx hb dL_law_1592 hl (by decide) rfl (fun ls hl => ?_)
  refine lv_aload_n hx hb dL_law_1594 rfl (lv_at hl 3 rfl) ?_
  refine lv_aload_n hx hb dL_law_1595 rfl (lv_at hl 1 rfl) ?_
  refine lv_iload hx hb dL_law_1596 (lv_at hl 6 rfl) ?_
  refine lv_iconst (v := 1) hx hb dL_law_1598 (by decide) ?_
  refine lv_iadd hx hb dL_law_1599 ?_
  refine va_sld hx hb hX hbl hbA hw.2.2 (lw_ix 1 hj hL (by decide)) dL_law_1600 ?_
  refine lv_i2c (v := ((xs (nI (4 * j) + 1).toNatClampNeg).toUInt32 % 65536).toInt32) hx hb dL_law_1601 rfl ?_
  have hw := gw_lr hw
  refine gcV_i (rest := []) X (c_X7_append l D cy bd (CW cy ad (F_X6_append C (((xs (nI (4 * j) + 1).toNatClampNeg).toUInt32 % 65536).toInt32)).2 ++ [oL cy o uO, oD cy o2 g]) M (((xs (nI (4 * j) + 1).toNatClampNeg).toUInt32 % 65536).toInt32) hS) gy_X7_append gL_law_X7_append ⟨rfl, rfl, Nat.le_of_ble_eq_true rfl, Nat.le_of_ble_eq_true rfl⟩ 0 rfl rfl rfl hl rfl (Nat.le_of_ble_eq_true rfl) dL_law_1602 ⟨by show 200 + 4 * j + 2 ≤ 603072; omega, by show 9000 + 24 * j + 12 ≤ 7202922; omega⟩ hw (fun r7 ur7 H locs hr7 hw => ?_)
  obtain ⟨hr7, hM⟩ := hr7
  have hM : ur7 = (F_X7_append M (((xs (nI (4 * j) + 1).toNatClampNeg).toUInt32 % 65536).toInt32)).2 := hM
  subst hM
  have hr7 : r7 = (F_X7_append M (((xs (nI (4 * j) + 1).toNatClampNeg).toUInt32 % 65536).toInt32)).1 := hr7
  have hw := gw_rl hw
  have hw : gw D (LA s) s.heap (CW cy ad (F_X6_append C (((xs (nI (4 * j) + 1).toNatClampNeg).toUInt32 % 65536).toInt32)).2 ++ (oL cy o uO :: oD cy o2 g :: MW cy bd (F_X7_append M (((xs (nI (4 * j) + 1).toNatClampNeg).toUInt32 % 65536).toInt32)).2)) H locs := hw
  have hb7 := hr7
  refine lv_istore (lv' := [(7, .int r7), (6, .int r6), (0, .ref b), (1, .ref (ad 92)), (2, .ref (bd 0)), (3, .ref o), (4, .ref o2), (5, .int (nI (4 * j)))]) hx hb dL_law_1605 hl (by decide) rfl (fun ls hl => ?_)
  refine lv_aload_n hx hb dL_law_1607 rfl (lv_at hl 4 rfl) ?_
  have hw := gw_lr hw
  refine gcV_i (rest := []) X (c_X7_thrown l D cy bd (CW cy ad (F_X6_append C (((xs (nI (4 * j) + 1).toNatClampNeg).toUInt32 % 65536).toInt32)).2 ++ [oL cy o uO, oD cy o2 g]) (F_X7_append M (((xs (nI (4 * j) + 1).toNatClampNeg).toUInt32 % 65536).toInt32)).2) gy_X7_thrown gL_law_X7_thrown ⟨rfl, rfl, Nat.le_of_ble_eq_true rfl, Nat.le_of_ble_eq_true rfl⟩ 0 rfl rfl rfl hl rfl (Nat.le_of_ble_eq_true rfl) dL_law_1608 ⟨by show 200 + 4 * j + 2 ≤ 603072; omega, by show 9000 + 24 * j + 12 ≤ 7202922; omega⟩ hw (fun r9x ur9x H locs hr9x hw => ?_)
  have hr9x : r9x = (F_X7_thrown (F_X7_append M (((xs (nI (4 * j) + 1).toNatClampNeg).toUInt32 % 65536).toInt32)).2) := hr9x
  have hw := gw_rl hw
  have hw : gw D (LA s) s.heap (CW cy ad (F_X6_append C (((xs (nI (4 * j) + 1).toNatClampNeg).toUInt32 % 65536).toInt32)).2 ++ (oL cy o uO :: oD cy o2 g :: MW cy bd (F_X7_append M (((xs (nI (4 * j) + 1).toNatClampNeg).toUInt32 % 65536).toInt32)).2)) H locs := hw
  have hthr : r9x = r6 := by rw [hr9x, hk]; exact (F_X7_thrown.eq_1 _).trans (simI_k hI)
  refine lv_iload hx hb dL_law_1611 (lv_at hl 1 rfl) ?_
  refine lv_icmp_eq (tgt := 1618) hx hb dL_law_1613 (by decide) (fun _ => ?_) (fun c9 => absurd (hthr) c9)
  refine lv_iload hx hb dL_law_1618 (lv_at hl 1 rfl) ?_
  refine lv_if_ne (tgt := 1635) hx hb dL_law_1620 (by decide) (fun c6 => ?_) (fun c6 => ?_)
  · skip
    refine lv_goto (tgt := 1783) hx hb dL_law_1635 (by decide) ?_
    refine lv_iinc (v := nI (4 * (j + 1))) (lv' := [(5, .int (nI (4 * (j + 1)))), (7, .int r7), (6, .int r6), (0, .ref b), (1, .ref (ad 92)), (2, .ref (bd 0)), (3, .ref o), (4, .ref o2)]) hx hb dL_law_1783 hl (k := 7) rfl (lw_up j) (by decide) rfl (fun ls hl => ?_)
    refine lv_goto (tgt := 28) hx hb dL_law_1786 (by decide) ?_
    refine W.widen (k := 200 + 4 * (j + 1)) (n := 9000 + 24 * (j + 1)) (by omega) (by omega) ?_
    exact ih _ _ _ _ _ _ _ hR2 hw (lv_sub hl [3, 4, 5, 6, 7, 0] rfl)
  · skip
    have hoo := hout.trans (simI_o hI (hk.symm.trans c6) vp_updL f (fun v : Int32 => v.toInt64))
    refine lv_aload_n hx hb dL_law_1623 rfl (lv_at hl 5 rfl) ?_
    refine lv_iconst (v := 0) hx hb dL_law_1624 (by decide) ?_
    refine g_laldk (k := 0) rfl X hw 102 rfl (vk rfl) dL_law_1625 ?_
    refine lv_iload hx hb dL_law_1626 (lv_at hl 0 rfl) ?_
    refine lv_i2l (v := r7.toInt64) hx hb dL_law_1628 rfl ?_
    refine W.lcmp hx hb dL_law_1629 ?_
    refine lv_if_eq (tgt := 1635) hx hb dL_law_1630 (by decide) (fun _ => ?_) (fun c9 => absurd (by rw [hoo, hb7]; exact lg_same _) c9)
    refine lv_goto (tgt := 1783) hx hb dL_law_1635 (by decide) ?_
    refine lv_iinc (v := nI (4 * (j + 1))) (lv' := [(5, .int (nI (4 * (j + 1)))), (7, .int r7), (6, .int r6), (0, .ref b), (1, .ref (ad 92)), (2, .ref (bd 0)), (3, .ref o), (4, .ref o2)]) hx hb dL_law_1783 hl (k := 7) rfl (lw_up j) (by decide) rfl (fun ls hl => ?_)
    refine lv_goto (tgt := 28) hx hb dL_law_1786 (by decide) ?_
    refine W.widen (k := 200 + 4 * (j + 1)) (n := 9000 + 24 * (j + 1)) (by omega) (by omega) ?_
    exact ih _ _ _ _ _ _ _ hR2 hw (lv_sub hl [3, 4, 5, 6, 7, 0] rfl)
set_option maxHeartbeats 4000000 in
set_option maxRecDepth 100000 in
theorem law_read {p : Program} {l : Launch} {e : Env} {s : State} {m : MethodId} {below : List Frame} {meth : Method} {c : Code} {D : va_G} {cy : Nat → ClassId} {ss : Nat → Nat} {ad bd : Nat → Nat} {o o2 b L : Nat} {xs : Nat → Int32} (CX : LX p l s m meth c D cy ss b L xs) {j : Nat} (hj : 4 * j + 4 ≤ L) (ih : LH p l e s m below meth c D cy ad bd o o2 b (j + 1)) {C M : CS} {f : Nat → Int64} {g : Nat → UInt64} {H : Heap} {locs : List Loc} {ls : Array Slot} (hR : Rel C M) (hw : gw D (LA s) s.heap (CW cy ad C ++ (oL cy o f :: oD cy o2 g :: MW cy bd M)) H locs) (hl : lv_has ls 9 [(0, .ref b), (1, .ref (ad 92)), (2, .ref (bd 0)), (3, .ref o), (4, .ref o2), (5, .int (nI (4 * j)))]) : W p l e room_1 s m #[Value.ref b] below meth c H locs (200 + 4 * j) (9000 + 24 * j) (lw_Z below #[Value.ref b] s) (F0 m 1638 ls []) := by
  obtain ⟨X, hE, hX, hbl, hbA, hlt, hL⟩ := CX
  have hx := X.1
  have hb := X.2.1
  obtain ⟨hSr, hS, hI, hR2⟩ := sim_read hR
  refine lv_aload_n hx hb dL_law_1638 rfl (lv_at hl 1 rfl) ?_
  refine lv_aload_n hx hb dL_law_1639 rfl (lv_at hl 3 rfl) ?_
  refine gwS_i (rest := []) X hE (c_L_read l hlt D cy ss ad o (oD cy o2 g :: MW cy bd M) C f  hSr) gy_L_read gL_law_L_read ⟨rfl, rfl, Nat.le_of_ble_eq_true rfl, Nat.le_of_ble_eq_true rfl⟩ rfl hl rfl (Nat.le_of_ble_eq_true rfl) dL_law_1640 ⟨by show 200 + 4 * j + 1 ≤ 603072; omega, by show 9000 + 24 * j + 6 ≤ 7202922; omega⟩ hw (fun r6 u6 H locs hk hw => ?_)
  obtain ⟨uC, uO⟩ := u6
  obtain ⟨hk, hC, hout⟩ := hk
  have hC : uC = (F_X6_read C).2 := hC
  subst hC
  have hw : gw D (LA s) s.heap (CW cy ad (F_X6_read C).2 ++ (oL cy o uO :: oD cy o2 g :: MW cy bd M)) H locs := hw
  refine lv_istore (lv' := [(6, .int r6), (0, .ref b), (1, .ref (ad 92)), (2, .ref (bd 0)), (3, .ref o), (4, .ref o2), (5, .int (nI (4 * j)))]) hx hb dL_law_1643 hl (by decide) rfl (fun ls hl => ?_)
  refine lv_aload_n hx hb dL_law_1645 rfl (lv_at hl 3 rfl) ?_
  have hw := gw_lr hw
  refine gcV_i (rest := []) X (c_X7_read l D cy bd (CW cy ad (F_X6_read C).2 ++ [oL cy o uO, oD cy o2 g]) M  hS) gy_X7_read gL_law_X7_read ⟨rfl, rfl, Nat.le_of_ble_eq_true rfl, Nat.le_of_ble_eq_true rfl⟩ 0 rfl rfl rfl hl rfl (Nat.le_of_ble_eq_true rfl) dL_law_1646 ⟨by show 200 + 4 * j + 1 ≤ 603072; omega, by show 9000 + 24 * j + 6 ≤ 7202922; omega⟩ hw (fun r7 ur7 H locs hr7 hw => ?_)
  obtain ⟨hr7, hM⟩ := hr7
  have hM : ur7 = (F_X7_read M).2 := hM
  subst hM
  have hr7 : r7 = (F_X7_read M).1 := hr7
  have hw := gw_rl hw
  have hw : gw D (LA s) s.heap (CW cy ad (F_X6_read C).2 ++ (oL cy o uO :: oD cy o2 g :: MW cy bd (F_X7_read M).2)) H locs := hw
  have hb7 := hr7
  refine lv_istore (lv' := [(7, .int r7), (6, .int r6), (0, .ref b), (1, .ref (ad 92)), (2, .ref (bd 0)), (3, .ref o), (4, .ref o2), (5, .int (nI (4 * j)))]) hx hb dL_law_1649 hl (by decide) rfl (fun ls hl => ?_)
  refine lv_aload_n hx hb dL_law_1651 rfl (lv_at hl 4 rfl) ?_
  have hw := gw_lr hw
  refine gcV_i (rest := []) X (c_X7_thrown l D cy bd (CW cy ad (F_X6_read C).2 ++ [oL cy o uO, oD cy o2 g]) (F_X7_read M).2) gy_X7_thrown gL_law_X7_thrown ⟨rfl, rfl, Nat.le_of_ble_eq_true rfl, Nat.le_of_ble_eq_true rfl⟩ 0 rfl rfl rfl hl rfl (Nat.le_of_ble_eq_true rfl) dL_law_1652 ⟨by show 200 + 4 * j + 1 ≤ 603072; omega, by show 9000 + 24 * j + 6 ≤ 7202922; omega⟩ hw (fun r9x ur9x H locs hr9x hw => ?_)
  have hr9x : r9x = (F_X7_thrown (F_X7_read M).2) := hr9x
  have hw := gw_rl hw
  have hw : gw D (LA s) s.heap (CW cy ad (F_X6_read C).2 ++ (oL cy o uO :: oD cy o2 g :: MW cy bd (F_X7_read M).2)) H locs := hw
  have hthr : r9x = r6 := by rw [hr9x, hk]; exact (F_X7_thrown.eq_1 _).trans (simI_k hI)
  refine lv_iload hx hb dL_law_1655 (lv_at hl 1 rfl) ?_
  refine lv_icmp_eq (tgt := 1662) hx hb dL_law_1657 (by decide) (fun _ => ?_) (fun c9 => absurd (hthr) c9)
  refine lv_iload hx hb dL_law_1662 (lv_at hl 1 rfl) ?_
  refine lv_if_ne (tgt := 1679) hx hb dL_law_1664 (by decide) (fun c6 => ?_) (fun c6 => ?_)
  · skip
    refine lv_goto (tgt := 1783) hx hb dL_law_1679 (by decide) ?_
    refine lv_iinc (v := nI (4 * (j + 1))) (lv' := [(5, .int (nI (4 * (j + 1)))), (7, .int r7), (6, .int r6), (0, .ref b), (1, .ref (ad 92)), (2, .ref (bd 0)), (3, .ref o), (4, .ref o2)]) hx hb dL_law_1783 hl (k := 7) rfl (lw_up j) (by decide) rfl (fun ls hl => ?_)
    refine lv_goto (tgt := 28) hx hb dL_law_1786 (by decide) ?_
    refine W.widen (k := 200 + 4 * (j + 1)) (n := 9000 + 24 * (j + 1)) (by omega) (by omega) ?_
    exact ih _ _ _ _ _ _ _ hR2 hw (lv_sub hl [3, 4, 5, 6, 7, 0] rfl)
  · skip
    have hoo := hout.trans (simI_o hI (hk.symm.trans c6) vp_updL f (fun v : Int32 => v.toInt64))
    refine lv_aload_n hx hb dL_law_1667 rfl (lv_at hl 5 rfl) ?_
    refine lv_iconst (v := 0) hx hb dL_law_1668 (by decide) ?_
    refine g_laldk (k := 0) rfl X hw 102 rfl (vk rfl) dL_law_1669 ?_
    refine lv_iload hx hb dL_law_1670 (lv_at hl 0 rfl) ?_
    refine lv_i2l (v := r7.toInt64) hx hb dL_law_1672 rfl ?_
    refine W.lcmp hx hb dL_law_1673 ?_
    refine lv_if_eq (tgt := 1679) hx hb dL_law_1674 (by decide) (fun _ => ?_) (fun c9 => absurd (by rw [hoo, hb7]; exact lg_same _) c9)
    refine lv_goto (tgt := 1783) hx hb dL_law_1679 (by decide) ?_
    refine lv_iinc (v := nI (4 * (j + 1))) (lv' := [(5, .int (nI (4 * (j + 1)))), (7, .int r7), (6, .int r6), (0, .ref b), (1, .ref (ad 92)), (2, .ref (bd 0)), (3, .ref o), (4, .ref o2)]) hx hb dL_law_1783 hl (k := 7) rfl (lw_up j) (by decide) rfl (fun ls hl => ?_)
    refine lv_goto (tgt := 28) hx hb dL_law_1786 (by decide) ?_
    refine W.widen (k := 200 + 4 * (j + 1)) (n := 9000 + 24 * (j + 1)) (by omega) (by omega) ?_
    exact ih _ _ _ _ _ _ _ hR2 hw (lv_sub hl [3, 4, 5, 6, 7, 0] rfl)
set_option maxHeartbeats 4000000 in
set_option maxRecDepth 100000 in
theorem law_errorPosition {p : Program} {l : Launch} {e : Env} {s : State} {m : MethodId} {below : List Frame} {meth : Method} {c : Code} {D : va_G} {cy : Nat → ClassId} {ss : Nat → Nat} {ad bd : Nat → Nat} {o o2 b L : Nat} {xs : Nat → Int32} (CX : LX p l s m meth c D cy ss b L xs) {j : Nat} (hj : 4 * j + 4 ≤ L) (ih : LH p l e s m below meth c D cy ad bd o o2 b (j + 1)) {C M : CS} {f : Nat → Int64} {g : Nat → UInt64} {H : Heap} {locs : List Loc} {ls : Array Slot} (hR : Rel C M) (hw : gw D (LA s) s.heap (CW cy ad C ++ (oL cy o f :: oD cy o2 g :: MW cy bd M)) H locs) (hl : lv_has ls 9 [(0, .ref b), (1, .ref (ad 92)), (2, .ref (bd 0)), (3, .ref o), (4, .ref o2), (5, .int (nI (4 * j)))]) : W p l e room_1 s m #[Value.ref b] below meth c H locs (200 + 4 * j) (9000 + 24 * j) (lw_Z below #[Value.ref b] s) (F0 m 1682 ls []) := by
  obtain ⟨X, hE, hX, hbl, hbA, hlt, hL⟩ := CX
  have hx := X.1
  have hb := X.2.1
  obtain ⟨hI, hR2⟩ := sim_errorPosition hR
  refine lv_aload_n hx hb dL_law_1682 rfl (lv_at hl 1 rfl) ?_
  refine lv_aload_n hx hb dL_law_1683 rfl (lv_at hl 3 rfl) ?_
  refine gwS_i (rest := []) X hE (c_L_errorPosition l hlt D cy ss ad o (oD cy o2 g :: MW cy bd M) C f) gy_L_errorPosition gL_law_L_errorPosition ⟨rfl, rfl, Nat.le_of_ble_eq_true rfl, Nat.le_of_ble_eq_true rfl⟩ rfl hl rfl (Nat.le_of_ble_eq_true rfl) dL_law_1684 ⟨by show 200 + 4 * j + 1 ≤ 603072; omega, by show 9000 + 24 * j + 6 ≤ 7202922; omega⟩ hw (fun r6 u6 H locs hk hw => ?_)
  obtain ⟨uO, hu0⟩ : ∃ z, z = u6 := ⟨_, rfl⟩
  obtain ⟨hk, hout⟩ := hk
  rw [← hu0] at hout hw
  have hw : gw D (LA s) s.heap (CW cy ad C ++ (oL cy o uO :: oD cy o2 g :: MW cy bd M)) H locs := hw
  refine lv_istore (lv' := [(6, .int r6), (0, .ref b), (1, .ref (ad 92)), (2, .ref (bd 0)), (3, .ref o), (4, .ref o2), (5, .int (nI (4 * j)))]) hx hb dL_law_1687 hl (by decide) rfl (fun ls hl => ?_)
  refine lv_aload_n hx hb dL_law_1689 rfl (lv_at hl 3 rfl) ?_
  have hw := gw_lr hw
  refine gcV_i (rest := []) X (c_X7_errorPosition l D cy bd (CW cy ad C ++ [oL cy o uO, oD cy o2 g]) M) gy_X7_errorPosition gL_law_X7_errorPosition ⟨rfl, rfl, Nat.le_of_ble_eq_true rfl, Nat.le_of_ble_eq_true rfl⟩ 0 rfl rfl rfl hl rfl (Nat.le_of_ble_eq_true rfl) dL_law_1690 ⟨by show 200 + 4 * j + 1 ≤ 603072; omega, by show 9000 + 24 * j + 6 ≤ 7202922; omega⟩ hw (fun r7 ur7 H locs hr7 hw => ?_)
  obtain ⟨hr7, hM⟩ := hr7
  have hM : ur7 = (F_X7_errorPosition M).2 := hM
  subst hM
  have hr7 : r7 = (F_X7_errorPosition M).1 := hr7
  have hw := gw_rl hw
  have hw : gw D (LA s) s.heap (CW cy ad C ++ (oL cy o uO :: oD cy o2 g :: MW cy bd (F_X7_errorPosition M).2)) H locs := hw
  have hb7 := hr7
  refine lv_istore (lv' := [(7, .int r7), (6, .int r6), (0, .ref b), (1, .ref (ad 92)), (2, .ref (bd 0)), (3, .ref o), (4, .ref o2), (5, .int (nI (4 * j)))]) hx hb dL_law_1693 hl (by decide) rfl (fun ls hl => ?_)
  refine lv_aload_n hx hb dL_law_1695 rfl (lv_at hl 4 rfl) ?_
  have hw := gw_lr hw
  refine gcV_i (rest := []) X (c_X7_thrown l D cy bd (CW cy ad C ++ [oL cy o uO, oD cy o2 g]) (F_X7_errorPosition M).2) gy_X7_thrown gL_law_X7_thrown ⟨rfl, rfl, Nat.le_of_ble_eq_true rfl, Nat.le_of_ble_eq_true rfl⟩ 0 rfl rfl rfl hl rfl (Nat.le_of_ble_eq_true rfl) dL_law_1696 ⟨by show 200 + 4 * j + 1 ≤ 603072; omega, by show 9000 + 24 * j + 6 ≤ 7202922; omega⟩ hw (fun r9x ur9x H locs hr9x hw => ?_)
  have hr9x : r9x = (F_X7_thrown (F_X7_errorPosition M).2) := hr9x
  have hw := gw_rl hw
  have hw : gw D (LA s) s.heap (CW cy ad C ++ (oL cy o uO :: oD cy o2 g :: MW cy bd (F_X7_errorPosition M).2)) H locs := hw
  have hthr : r9x = r6 := by rw [hr9x, hk]; exact (F_X7_thrown.eq_1 _).trans (simI_k hI)
  refine lv_iload hx hb dL_law_1699 (lv_at hl 1 rfl) ?_
  refine lv_icmp_eq (tgt := 1706) hx hb dL_law_1701 (by decide) (fun _ => ?_) (fun c9 => absurd (hthr) c9)
  refine lv_iload hx hb dL_law_1706 (lv_at hl 1 rfl) ?_
  refine lv_if_ne (tgt := 1723) hx hb dL_law_1708 (by decide) (fun c6 => ?_) (fun c6 => ?_)
  · skip
    refine lv_goto (tgt := 1783) hx hb dL_law_1723 (by decide) ?_
    refine lv_iinc (v := nI (4 * (j + 1))) (lv' := [(5, .int (nI (4 * (j + 1)))), (7, .int r7), (6, .int r6), (0, .ref b), (1, .ref (ad 92)), (2, .ref (bd 0)), (3, .ref o), (4, .ref o2)]) hx hb dL_law_1783 hl (k := 7) rfl (lw_up j) (by decide) rfl (fun ls hl => ?_)
    refine lv_goto (tgt := 28) hx hb dL_law_1786 (by decide) ?_
    refine W.widen (k := 200 + 4 * (j + 1)) (n := 9000 + 24 * (j + 1)) (by omega) (by omega) ?_
    exact ih _ _ _ _ _ _ _ hR2 hw (lv_sub hl [3, 4, 5, 6, 7, 0] rfl)
  · skip
    have hoo := hout.trans (simI_o hI (hk.symm.trans c6) vp_updL f (fun v : Int32 => v.toInt64))
    refine lv_aload_n hx hb dL_law_1711 rfl (lv_at hl 5 rfl) ?_
    refine lv_iconst (v := 0) hx hb dL_law_1712 (by decide) ?_
    refine g_laldk (k := 0) rfl X hw 102 rfl (vk rfl) dL_law_1713 ?_
    refine lv_iload hx hb dL_law_1714 (lv_at hl 0 rfl) ?_
    refine lv_i2l (v := r7.toInt64) hx hb dL_law_1716 rfl ?_
    refine W.lcmp hx hb dL_law_1717 ?_
    refine lv_if_eq (tgt := 1723) hx hb dL_law_1718 (by decide) (fun _ => ?_) (fun c9 => absurd (by rw [hoo, hb7]; exact lg_same _) c9)
    refine lv_goto (tgt := 1783) hx hb dL_law_1723 (by decide) ?_
    refine lv_iinc (v := nI (4 * (j + 1))) (lv' := [(5, .int (nI (4 * (j + 1)))), (7, .int r7), (6, .int r6), (0, .ref b), (1, .ref (ad 92)), (2, .ref (bd 0)), (3, .ref o), (4, .ref o2)]) hx hb dL_law_1783 hl (k := 7) rfl (lw_up j) (by decide) rfl (fun ls hl => ?_)
    refine lv_goto (tgt := 28) hx hb dL_law_1786 (by decide) ?_
    refine W.widen (k := 200 + 4 * (j + 1)) (n := 9000 + 24 * (j + 1)) (by omega) (by omega) ?_
    exact ih _ _ _ _ _ _ _ hR2 hw (lv_sub hl [3, 4, 5, 6, 7, 0] rfl)
set_option maxHeartbeats 4000000 in
set_option maxRecDepth 100000 in
theorem law_save {p : Program} {l : Launch} {e : Env} {s : State} {m : MethodId} {below : List Frame} {meth : Method} {c : Code} {D : va_G} {cy : Nat → ClassId} {ss : Nat → Nat} {ad bd : Nat → Nat} {o o2 b L : Nat} {xs : Nat → Int32} (CX : LX p l s m meth c D cy ss b L xs) {j : Nat} (hj : 4 * j + 4 ≤ L) (ih : LH p l e s m below meth c D cy ad bd o o2 b (j + 1)) {C M : CS} {f : Nat → Int64} {g : Nat → UInt64} {H : Heap} {locs : List Loc} {ls : Array Slot} (hR : Rel C M) (hw : gw D (LA s) s.heap (CW cy ad C ++ (oL cy o f :: oD cy o2 g :: MW cy bd M)) H locs) (hl : lv_has ls 9 [(0, .ref b), (1, .ref (ad 92)), (2, .ref (bd 0)), (3, .ref o), (4, .ref o2), (5, .int (nI (4 * j)))]) : W p l e room_1 s m #[Value.ref b] below meth c H locs (200 + 4 * j) (9000 + 24 * j) (lw_Z below #[Value.ref b] s) (F0 m 1726 ls []) := by
  obtain ⟨X, hE, hX, hbl, hbA, hlt, hL⟩ := CX
  have hx := X.1
  have hb := X.2.1
  obtain ⟨hS, hI, hR2⟩ := sim_save hR
  refine lv_aload_n hx hb dL_law_1726 rfl (lv_at hl 1 rfl) ?_
  refine gcV_i (rest := []) X (c_X6_save l D cy ad (oL cy o f :: oD cy o2 g :: MW cy bd M) C) gy_X6_save gL_law_X6_save ⟨rfl, rfl, Nat.le_of_ble_eq_true rfl, Nat.le_of_ble_eq_true rfl⟩ 92 rfl rfl rfl hl rfl (Nat.le_of_ble_eq_true rfl) dL_law_1727 ⟨by show 200 + 4 * j ≤ 603072; omega, by show 9000 + 24 * j ≤ 7202922; omega⟩ hw (fun r8x ur8x H locs hr8x hw => ?_)
  obtain ⟨hr8x, hC⟩ := hr8x
  have hC : ur8x = (F_X6_save C).2 := hC
  subst hC
  have hr8x : r8x = (F_X6_save C).1 := hr8x
  have hw : gw D (LA s) s.heap (CW cy ad (F_X6_save C).2 ++ (oL cy o f :: oD cy o2 g :: MW cy bd M)) H locs := hw
  refine lv_aload_n hx hb dL_law_1730 rfl (lv_at hl 2 rfl) ?_
  have hw := gw_lr hw
  refine gcV_i (rest := [.int r8x]) X (c_X7_save l D cy bd (CW cy ad (F_X6_save C).2 ++ [oL cy o f, oD cy o2 g]) M  hS) gy_X7_save gL_law_X7_save ⟨rfl, rfl, Nat.le_of_ble_eq_true rfl, Nat.le_of_ble_eq_true rfl⟩ 0 rfl rfl rfl hl rfl (Nat.le_of_ble_eq_true rfl) dL_law_1731 ⟨by show 200 + 4 * j ≤ 603072; omega, by show 9000 + 24 * j ≤ 7202922; omega⟩ hw (fun r7 ur7 H locs hr7 hw => ?_)
  obtain ⟨hr7, hM⟩ := hr7
  have hM : ur7 = (F_X7_save M).2 := hM
  subst hM
  have hr7 : r7 = (F_X7_save M).1 := hr7
  have hw := gw_rl hw
  have hw : gw D (LA s) s.heap (CW cy ad (F_X6_save C).2 ++ (oL cy o f :: oD cy o2 g :: MW cy bd (F_X7_save M).2)) H locs := hw
  have hcmp : r8x = r7 := hr8x.trans (hI.trans hr7.symm)
  refine lv_icmp_eq (tgt := 1783) hx hb dL_law_1734 (by decide) (fun _ => ?_) (fun c9 => absurd (hcmp) c9)
  refine lv_iinc (v := nI (4 * (j + 1))) (lv' := [(5, .int (nI (4 * (j + 1)))), (0, .ref b), (1, .ref (ad 92)), (2, .ref (bd 0)), (3, .ref o), (4, .ref o2)]) hx hb dL_law_1783 hl (k := 5) rfl (lw_up j) (by decide) rfl (fun ls hl => ?_)
  refine lv_goto (tgt := 28) hx hb dL_law_1786 (by decide) ?_
  refine W.widen (k := 200 + 4 * (j + 1)) (n := 9000 + 24 * (j + 1)) (by omega) (by omega) ?_
  exact ih _ _ _ _ _ _ _ hR2 hw (lv_sub hl [1, 2, 3, 4, 5, 0] rfl)
set_option maxHeartbeats 4000000 in
set_option maxRecDepth 100000 in
theorem law_restore {p : Program} {l : Launch} {e : Env} {s : State} {m : MethodId} {below : List Frame} {meth : Method} {c : Code} {D : va_G} {cy : Nat → ClassId} {ss : Nat → Nat} {ad bd : Nat → Nat} {o o2 b L : Nat} {xs : Nat → Int32} (CX : LX p l s m meth c D cy ss b L xs) {j : Nat} (hj : 4 * j + 4 ≤ L) (ih : LH p l e s m below meth c D cy ad bd o o2 b (j + 1)) {C M : CS} {f : Nat → Int64} {g : Nat → UInt64} {H : Heap} {locs : List Loc} {ls : Array Slot} (hR : Rel C M) (hw : gw D (LA s) s.heap (CW cy ad C ++ (oL cy o f :: oD cy o2 g :: MW cy bd M)) H locs) (hl : lv_has ls 9 [(0, .ref b), (1, .ref (ad 92)), (2, .ref (bd 0)), (3, .ref o), (4, .ref o2), (5, .int (nI (4 * j)))]) : W p l e room_1 s m #[Value.ref b] below meth c H locs (200 + 4 * j) (9000 + 24 * j) (lw_Z below #[Value.ref b] s) (F0 m 1739 ls []) := by
  obtain ⟨X, hE, hX, hbl, hbA, hlt, hL⟩ := CX
  have hx := X.1
  have hb := X.2.1
  obtain ⟨hS, hI, hR2⟩ := sim_restore hR
  refine lv_aload_n hx hb dL_law_1739 rfl (lv_at hl 1 rfl) ?_
  refine lv_aload_n hx hb dL_law_1740 rfl (lv_at hl 3 rfl) ?_
  refine gwS_i (rest := []) X hE (c_L_restore l hlt D cy ss ad o (oD cy o2 g :: MW cy bd M) C f) gy_L_restore gL_law_L_restore ⟨rfl, rfl, Nat.le_of_ble_eq_true rfl, Nat.le_of_ble_eq_true rfl⟩ rfl hl rfl (Nat.le_of_ble_eq_true rfl) dL_law_1741 ⟨by show 200 + 4 * j + 1 ≤ 603072; omega, by show 9000 + 24 * j + 6 ≤ 7202922; omega⟩ hw (fun r6 u6 H locs hk hw => ?_)
  obtain ⟨uC, uO⟩ := u6
  obtain ⟨hk, hC, hout⟩ := hk
  have hC : uC = (F_X6_restore C).2 := hC
  subst hC
  have hw : gw D (LA s) s.heap (CW cy ad (F_X6_restore C).2 ++ (oL cy o uO :: oD cy o2 g :: MW cy bd M)) H locs := hw
  refine lv_istore (lv' := [(6, .int r6), (0, .ref b), (1, .ref (ad 92)), (2, .ref (bd 0)), (3, .ref o), (4, .ref o2), (5, .int (nI (4 * j)))]) hx hb dL_law_1744 hl (by decide) rfl (fun ls hl => ?_)
  refine lv_aload_n hx hb dL_law_1746 rfl (lv_at hl 3 rfl) ?_
  have hw := gw_lr hw
  refine gcV_i (rest := []) X (c_X7_restore l D cy bd (CW cy ad (F_X6_restore C).2 ++ [oL cy o uO, oD cy o2 g]) M  hS) gy_X7_restore gL_law_X7_restore ⟨rfl, rfl, Nat.le_of_ble_eq_true rfl, Nat.le_of_ble_eq_true rfl⟩ 0 rfl rfl rfl hl rfl (Nat.le_of_ble_eq_true rfl) dL_law_1747 ⟨by show 200 + 4 * j + 1 ≤ 603072; omega, by show 9000 + 24 * j + 6 ≤ 7202922; omega⟩ hw (fun r7 ur7 H locs hr7 hw => ?_)
  obtain ⟨hr7, hM⟩ := hr7
  have hM : ur7 = (F_X7_restore M).2 := hM
  subst hM
  have hr7 : r7 = (F_X7_restore M).1 := hr7
  have hw := gw_rl hw
  have hw : gw D (LA s) s.heap (CW cy ad (F_X6_restore C).2 ++ (oL cy o uO :: oD cy o2 g :: MW cy bd (F_X7_restore M).2)) H locs := hw
  have hb7 := hr7
  refine lv_istore (lv' := [(7, .int r7), (6, .int r6), (0, .ref b), (1, .ref (ad 92)), (2, .ref (bd 0)), (3, .ref o), (4, .ref o2), (5, .int (nI (4 * j)))]) hx hb dL_law_1750 hl (by decide) rfl (fun ls hl => ?_)
  refine lv_aload_n hx hb dL_law_1752 rfl (lv_at hl 4 rfl) ?_
  have hw := gw_lr hw
  refine gcV_i (rest := []) X (c_X7_thrown l D cy bd (CW cy ad (F_X6_restore C).2 ++ [oL cy o uO, oD cy o2 g]) (F_X7_restore M).2) gy_X7_thrown gL_law_X7_thrown ⟨rfl, rfl, Nat.le_of_ble_eq_true rfl, Nat.le_of_ble_eq_true rfl⟩ 0 rfl rfl rfl hl rfl (Nat.le_of_ble_eq_true rfl) dL_law_1753 ⟨by show 200 + 4 * j + 1 ≤ 603072; omega, by show 9000 + 24 * j + 6 ≤ 7202922; omega⟩ hw (fun r9x ur9x H locs hr9x hw => ?_)
  have hr9x : r9x = (F_X7_thrown (F_X7_restore M).2) := hr9x
  have hw := gw_rl hw
  have hw : gw D (LA s) s.heap (CW cy ad (F_X6_restore C).2 ++ (oL cy o uO :: oD cy o2 g :: MW cy bd (F_X7_restore M).2)) H locs := hw
  have hthr : r9x = r6 := by rw [hr9x, hk]; exact (F_X7_thrown.eq_1 _).trans (simI_k hI)
  refine lv_iload hx hb dL_law_1756 (lv_at hl 1 rfl) ?_
  refine lv_icmp_eq (tgt := 1763) hx hb dL_law_1758 (by decide) (fun _ => ?_) (fun c9 => absurd (hthr) c9)
  refine lv_iload hx hb dL_law_1763 (lv_at hl 1 rfl) ?_
  refine lv_if_ne (tgt := 1780) hx hb dL_law_1765 (by decide) (fun c6 => ?_) (fun c6 => ?_)
  · skip
    refine lv_goto (tgt := 1783) hx hb dL_law_1780 (by decide) ?_
    refine lv_iinc (v := nI (4 * (j + 1))) (lv' := [(5, .int (nI (4 * (j + 1)))), (7, .int r7), (6, .int r6), (0, .ref b), (1, .ref (ad 92)), (2, .ref (bd 0)), (3, .ref o), (4, .ref o2)]) hx hb dL_law_1783 hl (k := 7) rfl (lw_up j) (by decide) rfl (fun ls hl => ?_)
    refine lv_goto (tgt := 28) hx hb dL_law_1786 (by decide) ?_
    refine W.widen (k := 200 + 4 * (j + 1)) (n := 9000 + 24 * (j + 1)) (by omega) (by omega) ?_
    exact ih _ _ _ _ _ _ _ hR2 hw (lv_sub hl [3, 4, 5, 6, 7, 0] rfl)
  · skip
    have hoo := hout.trans (simI_o hI (hk.symm.trans c6) vp_updL f (fun v : Int32 => v.toInt64))
    refine lv_aload_n hx hb dL_law_1768 rfl (lv_at hl 5 rfl) ?_
    refine lv_iconst (v := 0) hx hb dL_law_1769 (by decide) ?_
    refine g_laldk (k := 0) rfl X hw 102 rfl (vk rfl) dL_law_1770 ?_
    refine lv_iload hx hb dL_law_1771 (lv_at hl 0 rfl) ?_
    refine lv_i2l (v := r7.toInt64) hx hb dL_law_1773 rfl ?_
    refine W.lcmp hx hb dL_law_1774 ?_
    refine lv_if_eq (tgt := 1780) hx hb dL_law_1775 (by decide) (fun _ => ?_) (fun c9 => absurd (by rw [hoo, hb7]; exact lg_same _) c9)
    refine lv_goto (tgt := 1783) hx hb dL_law_1780 (by decide) ?_
    refine lv_iinc (v := nI (4 * (j + 1))) (lv' := [(5, .int (nI (4 * (j + 1)))), (7, .int r7), (6, .int r6), (0, .ref b), (1, .ref (ad 92)), (2, .ref (bd 0)), (3, .ref o), (4, .ref o2)]) hx hb dL_law_1783 hl (k := 7) rfl (lw_up j) (by decide) rfl (fun ls hl => ?_)
    refine lv_goto (tgt := 28) hx hb dL_law_1786 (by decide) ?_
    refine W.widen (k := 200 + 4 * (j + 1)) (n := 9000 + 24 * (j + 1)) (by omega) (by omega) ?_
    exact ih _ _ _ _ _ _ _ hR2 hw (lv_sub hl [3, 4, 5, 6, 7, 0] rfl)
