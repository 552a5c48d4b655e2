/-! the law from its entry -/
def adX (h : Nat) (u : (Nat → Nat) × (Nat → Nat) × (Nat → Nat)) (k : Nat) : Nat := [u.1 44, u.1 43, u.1 42, u.1 41, u.1 39, u.1 38, u.1 37, u.1 36, u.1 35, u.1 34, u.1 32, u.1 31, u.1 30, u.1 29, u.1 28, u.1 27, u.1 26, u.1 25, u.1 24, u.1 23, u.1 22, u.1 21, u.1 20, u.1 19, u.1 18, u.1 17, u.1 16, u.1 15, u.1 13, u.1 12, u.1 11, u.1 10, u.1 9, u.1 8, u.1 7, u.1 6, u.1 5, u.1 4, u.1 3, u.1 2, u.1 1, u.1 0, u.2.1 44, u.2.1 43, u.2.1 42, u.2.1 41, u.2.1 39, u.2.1 38, u.2.1 37, u.2.1 36, u.2.1 35, u.2.1 34, u.2.1 32, u.2.1 31, u.2.1 30, u.2.1 29, u.2.1 28, u.2.1 27, u.2.1 26, u.2.1 25, u.2.1 24, u.2.1 23, u.2.1 22, u.2.1 21, u.2.1 20, u.2.1 19, u.2.1 18, u.2.1 17, u.2.1 16, u.2.1 15, u.2.1 13, u.2.1 12, u.2.1 11, u.2.1 10, u.2.1 9, u.2.1 8, u.2.1 7, u.2.1 6, u.2.1 5, u.2.1 4, u.2.1 3, u.2.1 2, u.2.1 1, u.2.1 0, u.2.2 9, u.2.2 8, u.2.2 7, u.2.2 6, u.2.2 5, u.2.2 4, u.2.2 3, u.2.2 2, h, u.2.2 0, u.1 40, u.1 33, u.1 14, u.2.2 1, u.2.1 40, u.2.1 33, u.2.1 14, u.2.2 10].getD k 0
def pmX : List Nat := [99, 98, 97, 96, 94, 93, 92, 91, 90, 89, 87, 86, 85, 84, 83, 82, 81, 80, 79, 78, 77, 76, 75, 74, 73, 72, 71, 70, 68, 67, 66, 65, 64, 63, 62, 61, 60, 59, 58, 57, 56, 55, 53, 52, 51, 50, 48, 47, 46, 45, 44, 43, 41, 40, 39, 38, 37, 36, 35, 34, 33, 32, 31, 30, 29, 28, 27, 26, 25, 24, 22, 21, 20, 19, 18, 17, 16, 15, 14, 13, 12, 11, 10, 9, 7, 6, 5, 4, 3, 2, 1, 0, 101, 100, 95, 88, 69, 54, 49, 42, 23, 8]
/-- a fresh object's state, its groupings as the state G says -/
def CXg (G : CS) : CS := (fun k => if k < 21 then G.1 k else if k < 42 then G.1 (k - 21) else fun _ => 0, fun k => if k < 9 then G.2.1 k else if k < 18 then G.2.1 (k - 9) else if k = 22 then -1 else 0, fun _ => G.2.2 0)
def XWg (cy : Nat → ClassId) (h : Nat) (G : CS) (u : (Nat → Nat) × (Nat → Nat) × (Nat → Nat)) : va_W := ((u.2.2 2), .inl (cy 0, 14, .inl (fun _ => 0))) :: (((u.2.2 3), .inr (6, [.ref (u.2.2 2)])) :: (((u.2.2 4), .inl (cy 0, 14, .inl (fun _ => 0))) :: (((u.2.2 5), .inr (6, [.ref (u.2.2 4)])) :: (((u.2.2 6), .inl (cy 0, 14, .inl (fun _ => 0))) :: (((u.2.2 7), .inr (6, [.ref (u.2.2 6)])) :: (((u.2.2 8), .inl (cy 0, 40, .inl (fun _ => 0))) :: (((u.2.2 9), .inr (6, [.ref (u.2.2 8)])) :: (((u.2.2 10), .inr (7, [.ref (u.2.2 9), .int 0, .int 0, .ref (u.2.2 7), .ref (u.2.2 5), .ref (u.2.2 3), .int 0])) :: (GW0 cy u.2.1 (u.2.2 1) G ++ (GW0 cy u.1 (u.2.2 0) G ++ ((h, .inr (8, [.ref (u.2.2 0), .ref (u.2.2 1), .ref (u.2.2 10), .int 0, .int (-1)])) :: [])))))))))))
set_option maxHeartbeats 4000000 in
set_option maxRecDepth 100000 in
theorem pmX_ok (cy : Nat → ClassId) (h : Nat) (G : CS) (u : (Nat → Nat) × (Nat → Nat) × (Nat → Nat)) : (CW cy (adX h u) (CXg G)).map some = pmX.map (fun i => (XWg cy h G u)[i]?) := by
  rfl
theorem pmX_nd : va_nd pmX = true := by decide +kernel
theorem C1_eq : C1 = F_X1_clear C00 := by
  unfold C1 F_X1_clear_g F_X2_clear_g F_X1_clear F_X2_clear
  rfl
/-- both sides are alike at the start -/
theorem rel_start : Rel (CXg C1) (F_X7_starts M00) := by
  rw [(pz_starts M00).2, C1_eq]
  generalize hG : F_X1_clear C00 = G
  have g0 : ∀ k, k < 8 → G.1 0 k = 10 := fun k hk => by rw [← hG]; exact cl_0 _ hk
  have g1 : ∀ k, k < 8 → G.1 1 k = 0 := fun k hk => by rw [← hG]; exact cl_1 _ hk
  have g20 : ∀ k, k < 3 → G.1 20 k = 0 := fun k hk => by rw [← hG]; exact cl_20 _ hk
  have gI : ∀ k, k < 9 → G.2.1 k = nI 0 := fun k hk => by rw [← hG]; exact cl_I _ hk
  have gL : G.2.2 0 = 0 := by rw [← hG]; exact cl_L _
  clear hG
  refine ⟨⟨0, ?_⟩, ⟨0, Nat.zero_le _, rfl, rfl, fun i hi => absurd hi (by omega), rfl, rfl⟩, fun hh => absurd rfl hh⟩
  have eS : (CXg G).2.2 0 = 0 := gL
  rw [eS]
  exact RelN.st g0 g1 g20 (fun k hk => (if_pos hk : (CXg G).2.1 k = G.2.1 k).trans (gI k hk)) (M00.1 0) (fun x hx => rfl)
set_option maxHeartbeats 4000000 in
set_option maxRecDepth 100000 in
theorem lw_env {s : State} {b : Nat} (hts : ∀ w ∈ lw_tbl, w.before #[Value.ref b] s = true) (hg : ∀ w ∈ flatC (Jvm.Cond.and given_1 narrow_1), w.before #[Value.ref b] s = true) : ∃ ss : Nat → Nat, gEnv ss (LA s) s s.heap := by
  obtain ⟨a0, _, _, _, ha0, _⟩ := Cond.exactly_spec (hg (.exactly (.string RX6 259) "java/lang/String") (by decide +kernel))
  obtain ⟨a1, _, _, _, ha1, _⟩ := Cond.exactly_spec (hg (.exactly (.string RX6 261) "java/lang/String") (by decide +kernel))
  obtain ⟨a2, _, _, _, ha2, _⟩ := Cond.exactly_spec (hg (.exactly (.string RX6 86) "java/lang/String") (by decide +kernel))
  obtain ⟨a3, _, _, _, ha3, _⟩ := Cond.exactly_spec (hg (.exactly (.string RX6 271) "java/lang/String") (by decide +kernel))
  obtain ⟨a4, _, _, _, ha4, _⟩ := Cond.exactly_spec (hg (.exactly (.string RX6 265) "java/lang/String") (by decide +kernel))
  obtain ⟨a5, _, _, _, ha5, _⟩ := Cond.exactly_spec (hg (.exactly (.string RX6 273) "java/lang/String") (by decide +kernel))
  obtain ⟨a6, _, _, _, ha6, _⟩ := Cond.exactly_spec (hg (.exactly (.string RX6 178) "java/lang/String") (by decide +kernel))
  obtain ⟨a7, _, _, _, ha7, _⟩ := Cond.exactly_spec (hg (.exactly (.string RX6 204) "java/lang/String") (by decide +kernel))
  obtain ⟨a8, _, _, _, ha8, _⟩ := Cond.exactly_spec (hg (.exactly (.string RX6 224) "java/lang/String") (by decide +kernel))
  obtain ⟨a9, _, _, _, ha9, _⟩ := Cond.exactly_spec (hg (.exactly (.string RX6 238) "java/lang/String") (by decide +kernel))
  obtain ⟨a10, _, _, _, ha10, _⟩ := Cond.exactly_spec (hg (.exactly (.string RX6 245) "java/lang/String") (by decide +kernel))
  obtain ⟨a11, _, _, _, ha11, _⟩ := Cond.exactly_spec (hg (.exactly (.string RX6 257) "java/lang/String") (by decide +kernel))
  refine ⟨fun k => [a0, a1, a2, a3, a4, a5, a6, a7, a8, a9, a10, a11].getD k 0, ?_, ?_, ⟨vk_R.of (hts (.stringRef RX6 259 "no such key") (by decide +kernel)) ha0, vk_R.of (hts (.stringRef RX6 261 "out of range") (by decide +kernel)) ha1, vk_R.of (hts (.stringRef RX6 86 "no more records can be kept") (by decide +kernel)) ha2, vk_R.of (hts (.stringRef RX6 271 "no such burst") (by decide +kernel)) ha3, vk_R.of (hts (.stringRef RX6 265 "there is none") (by decide +kernel)) ha4, vk_R.of (hts (.stringRef RX6 273 "the burst is closed") (by decide +kernel)) ha5, vk_R.of (hts (.stringRef RX6 178 "no burst of the key") (by decide +kernel)) ha6, vk_R.of (hts (.stringRef RX6 204 "no such firing") (by decide +kernel)) ha7, vk_R.of (hts (.stringRef RX6 224 "the input is full") (by decide +kernel)) ha8, vk_R.of (hts (.stringRef RX6 238 "the input is not a text") (by decide +kernel)) ha9, vk_R.of (hts (.stringRef RX6 245 "an entry cannot be carried out") (by decide +kernel)) ha10, vk_R.of (hts (.stringRef RX6 257 "nothing was saved") (by decide +kernel)) ha11⟩, ⟨va_Nw.of rfl (hts _ (by decide +kernel)), va_Nw.of rfl (hts _ (by decide +kernel)), va_Nw.of rfl (hts _ (by decide +kernel)), va_Nw.of rfl (hts _ (by decide +kernel)), va_Nw.of rfl (hts _ (by decide +kernel)), va_Nw.of rfl (hts _ (by decide +kernel)), va_Nw.of rfl (hts _ (by decide +kernel)), va_Nw.of rfl (hts _ (by decide +kernel)), va_Nc.of (hg _ (by decide +kernel)), va_Nc.of (hg _ (by decide +kernel)), va_Nc.of (hg _ (by decide +kernel)), va_Nc.of (hg _ (by decide +kernel)), va_Nc.of (hg _ (by decide +kernel)), va_Nc.of (hg _ (by decide +kernel))⟩⟩
  · exact vx_Zqof (hts _ (by decide +kernel)) (hts _ (by decide +kernel)) (hg _ (by decide +kernel)) (fun a h => Nat.not_le.mpr h)
  · exact vx_Zqof (hts _ (by decide +kernel)) (hts _ (by decide +kernel)) (hg _ (by decide +kernel)) (fun a h => Nat.not_le.mpr h)
set_option maxHeartbeats 4000000 in
set_option maxRecDepth 100000 in
theorem lw_known {s : State} {b : Nat} (hts : ∀ w ∈ lw_tbl, w.before #[Value.ref b] s = true) : ∃ (D : va_G) (cy : Nat → ClassId), va_K D vwCl (gTys cy) s := by
  obtain ⟨c0, i0, k0⟩ := u_known (C := RJ0) (T := TJ0) (N := 2) (n := 4) hts inJ0 (hts (.instantiable RJ0 4) (by decide +kernel))
  obtain ⟨c1, i1, k1⟩ := u_known (C := RJx00060) (T := TJx00060) (N := 6) (n := 6) hts inJx00060 (hts (.instantiable RJx00060 6) (by decide +kernel))
  obtain ⟨c2, i2, k2⟩ := u_known (C := RX0) (T := TX0) (N := 10) (n := 10) hts inX0 (hts (.instantiable RX0 10) (by decide +kernel))
  obtain ⟨c3, i3, k3⟩ := u_known (C := RX1) (T := TX1) (N := 10) (n := 10) hts inX1 (hts (.instantiable RX1 10) (by decide +kernel))
  obtain ⟨c4, i4, k4⟩ := u_known (C := RX2) (T := TX2) (N := 10) (n := 10) hts inX2 (hts (.instantiable RX2 10) (by decide +kernel))
  obtain ⟨c5, i5, k5⟩ := u_known (C := RX3) (T := TX3) (N := 4) (n := 4) hts inX3 (hts (.instantiable RX3 4) (by decide +kernel))
  obtain ⟨c6, i6, k6⟩ := u_known (C := RX4) (T := TX4) (N := 1) (n := 1) hts inX4 (hts (.instantiable RX4 1) (by decide +kernel))
  obtain ⟨c7, i7, k7⟩ := u_known (C := RX5) (T := TX5) (N := 7) (n := 7) hts inX5 (hts (.instantiable RX5 7) (by decide +kernel))
  obtain ⟨c8, i8, k8⟩ := u_known (C := RX6) (T := TX6) (N := 5) (n := 5) hts inX6 (hts (.instantiable RX6 5) (by decide +kernel))
  obtain ⟨c9, i9, k9⟩ := u_known (C := RX7) (T := TX7) (N := 16) (n := 16) hts inX7 (hts (.instantiable RX7 16) (by decide +kernel))
  obtain ⟨ai, bi, ri⟩ := gArr (hts (.arrayClass .int) (by decide +kernel))
  obtain ⟨ac, bc, rc⟩ := gArr (hts (.arrayClass .char) (by decide +kernel))
  obtain ⟨al, bl, rl⟩ := gArr (hts (.arrayClass .long) (by decide +kernel))
  obtain ⟨ad, bd, rd⟩ := gArr (hts (.arrayClass .double) (by decide +kernel))
  refine ⟨(fun k => [c0, c1, c2, c3, c4, c5, c6, c7, c8, c9].getD k c0, fun k => [i0, i1, i2, i3, i4, i5, i6, i7, i8, i9].getD k i0), fun k => [ai, ac, al, ad].getD k ai, fun k q hq => ?_, fun k q hq => ?_⟩
  · match k, hq with
    | 0, hq => cases hq; exact k0
    | 1, hq => cases hq; exact k1
    | 2, hq => cases hq; exact k2
    | 3, hq => cases hq; exact k3
    | 4, hq => cases hq; exact k4
    | 5, hq => cases hq; exact k5
    | 6, hq => cases hq; exact k6
    | 7, hq => cases hq; exact k7
    | 8, hq => cases hq; exact k8
    | 9, hq => cases hq; exact k9
    | k + 10, hq => first | cases hq | simp [vwCl] at hq
  · match k, hq with
    | 0, hq => cases hq; exact ⟨bi, ri⟩
    | 1, hq => cases hq; exact ⟨bc, rc⟩
    | 2, hq => cases hq; exact ⟨bl, rl⟩
    | 3, hq => cases hq; exact ⟨bd, rd⟩
    | k + 4, hq => first | cases hq | simp [gTys] at hq
theorem lw_nest {s : State} {b : Nat} (hts : ∀ w ∈ lw_tbl, w.before #[Value.ref b] s = true) : gNest s :=
  ⟨va_Nw.of rfl (hts _ (by decide +kernel)), va_Nw.of rfl (hts _ (by decide +kernel)), va_Nw.of rfl (hts _ (by decide +kernel)), va_Nw.of rfl (hts _ (by decide +kernel))⟩
theorem lw_flags {l : Launch} (h : l.flags = flags0) : l.stackTraces = false := by
  unfold Launch.stackTraces
  rw [h]
  first | rfl | decide | simp [flags0]
set_option maxHeartbeats 4000000 in
set_option maxRecDepth 100000 in
theorem start_open (hSR : SimRd) {p : Program} {e : Env} {s : State} {m : MethodId} {below : List Frame} {meth : Method} {c : Code} (l : Launch) (hflags : l.flags = flags0) {b L : Nat} {xs : Nat → Int32} (hL : L ≤ 2048) (C0 : lw_At p s m meth c b L xs) : W p l e room_1 s m #[Value.ref b] below meth c s.heap [] 0 0 (lw_Z below #[Value.ref b] s) (entryFrame m ([Value.ref b] : List Value).toArray 9) := by
  obtain ⟨hx, hb, hr, hml, hown, hts0, hX, hbl, hlocks, hgv⟩ := id C0
  have hts : ∀ w ∈ wsL_law, w.before #[Value.ref b] s = true := fun w h => hts0 w (wsL_law_in w h)
  have hA : ∀ q : Nat, s.heap.size ≤ q → LA s q := fun _ h => h
  have hbA : ¬ LA s b := Nat.not_le.mpr hbl
  obtain ⟨D, cy, hK⟩ := lw_known hts0
  obtain ⟨ss, hE⟩ := lw_env hts0 (flat_of_before _ hgv)
  have hN : gNest s := lw_nest hts0
  have X : gX p s m #[Value.ref b] meth c cL_law RL 9 wsL_law D cy (LA s) := ⟨hx, hb, hlocks, hml, hown, hts, hK, hA⟩
  have CX : LX p l s m meth c D cy ss b L xs := ⟨X, hE, hX, hbl, hbA, lw_flags hflags, hL⟩
  have hw : gw D (LA s) s.heap [] s.heap [] := ⟨fun k q h => by simp at h, ⟨fun i j p q h => by simp at h, fun k q h => by simp at h⟩, va_S.rf⟩
  have hl := lv_entry ([.ref b]) (n := 9) (Nat.le_of_ble_eq_true rfl)
  rw [lg_entry_eq]
  generalize (lg_sl ([.ref b]) ++ List.replicate (9 - (lg_sl ([.ref b])).length) Slot.unset).toArray = ls at hl ⊢
  have hl : lv_has ls 9 [(0, .ref b)] := hl
  refine g_new (ci := 8) (fs := [.null, .null, .null, .int 0, .int 0]) (C := RX6) (T := TX6) (N := 5) X inlX6 tyX6 tyX6_ok (List.mem_of_getElem? (i := 0) rfl) (List.mem_of_getElem? (i := 1) rfl) (List.mem_of_getElem? (i := 2) rfl) hw rfl (by decide) (Nat.le_of_ble_eq_true rfl) (Nat.le_of_ble_eq_true rfl) dL_law_0 (fun h1 H hw => ?_)
  refine lv_dup hx hb dL_law_3 rfl ?_
  refine gk_I (rest := [.ref h1]) X hN (c_X6_init l D cy h1 []) gy_X6_init gL_law_X6_init (List.mem_of_getElem? (i := 2) rfl) (List.mem_of_getElem? (i := 8) rfl) (List.mem_of_getElem? (i := 9) rfl) rfl ⟨rfl, rfl, Nat.le_of_ble_eq_true rfl, Nat.le_of_ble_eq_true rfl⟩ rfl hl rfl (Nat.le_of_ble_eq_true rfl) dL_law_4 ⟨Nat.le_of_ble_eq_true rfl, Nat.le_of_ble_eq_true rfl⟩ hw (fun u H locs _ hw => ?_)
  have hw : gw D (LA s) s.heap (XWg cy h1 C1 u ++ []) H locs := by
    rw [List.append_nil]
    exact hw
  have hw9 := gw_perm (L' := CW cy (adX h1 u) (CXg C1)) pmX (pmX_ok cy h1 C1 u) pmX_nd hw rfl
  clear hw
  have hRel := rel_start
  generalize CXg C1 = CC at hw9 hRel
  have e92 : adX h1 u 92 = h1 := rfl
  generalize adX h1 u = ad at hw9 e92
  subst e92
  refine lv_astore_n (lv' := [(1, .ref (ad 92)), (0, .ref b)]) hx hb dL_law_7 rfl hl (by decide) rfl (fun ls hl => ?_)
  refine g_new (ci := 9) (fs := [.int 0, .null, .long 0, .null, .long 0, .null, .long 0, .int 0, .null, .int 0, .int 0, .int 0, .int 0, .int 0, .int 0, .int 0]) (C := RX7) (T := TX7) (N := 16) X inlX7 tyX7 tyX7_ok (List.mem_of_getElem? (i := 3) rfl) (List.mem_of_getElem? (i := 4) rfl) (List.mem_of_getElem? (i := 5) rfl) hw9 rfl (by decide) (Nat.le_of_ble_eq_true rfl) (Nat.le_of_ble_eq_true rfl) dL_law_8 (fun h2 H hw => ?_)
  refine lv_dup hx hb dL_law_11 rfl ?_
  refine gk_I (rest := [.ref h2]) X hN (c_X7_init (pz_starts M00).1 l D cy h2 (CW cy ad CC ++ [])) gy_X7_init gL_law_X7_init (List.mem_of_getElem? (i := 5) rfl) (List.mem_of_getElem? (i := 127) rfl) (List.mem_of_getElem? (i := 128) rfl) rfl ⟨rfl, rfl, Nat.le_of_ble_eq_true rfl, Nat.le_of_ble_eq_true rfl⟩ rfl hl rfl (Nat.le_of_ble_eq_true rfl) dL_law_12 ⟨Nat.le_of_ble_eq_true rfl, Nat.le_of_ble_eq_true rfl⟩ hw (fun bd H locs hbd hw8 => ?_)
  clear hw
  have hbd : bd 0 = h2 := hbd.1
  have hw7 : gw D (LA s) s.heap (MW cy bd (F_X7_starts M00) ++ (CW cy ad CC ++ [])) H locs := hw8
  clear hw8
  subst hbd
  generalize F_X7_starts M00 = MM at hw7 hRel
  refine lv_astore_n (lv' := [(2, .ref (bd 0)), (1, .ref (ad 92)), (0, .ref b)]) hx hb dL_law_15 rfl hl (by decide) rfl (fun ls hl => ?_)
  refine lv_iconst (v := 1) hx hb dL_law_16 (by decide) ?_
  refine g_newa X 2 (ty := .long) (a0 := (1, .inr (.inl (fun _ => 0)))) (N' := 1) rfl rfl (fun _ h => by cases h) (List.mem_of_getElem? (i := 6) rfl) hw7 (fun _ => rfl) (by decide) (by decide) (by decide) (Nat.le_of_ble_eq_true rfl) (Nat.le_of_ble_eq_true rfl) dL_law_17 (fun o H hw => ?_)
  refine lv_astore_n (lv' := [(3, .ref o), (2, .ref (bd 0)), (1, .ref (ad 92)), (0, .ref b)]) hx hb dL_law_19 rfl hl (by decide) rfl (fun ls hl => ?_)
  refine lv_iconst (v := 1) hx hb dL_law_20 (by decide) ?_
  refine g_newa X 3 (ty := .double) (a0 := (1, .inr (.inr (.inr (.inl (fun _ => 0)))))) (N' := 1) rfl rfl (fun _ h => by cases h) (List.mem_of_getElem? (i := 7) rfl) hw (fun _ => rfl) (by decide) (by decide) (by decide) (Nat.le_of_ble_eq_true rfl) (Nat.le_of_ble_eq_true rfl) dL_law_21 (fun o2 H hw => ?_)
  refine lv_astore (lv' := [(4, .ref o2), (3, .ref o), (2, .ref (bd 0)), (1, .ref (ad 92)), (0, .ref b)]) hx hb dL_law_23 hl (by decide) rfl (fun ls hl => ?_)
  refine lv_iconst (v := 0) hx hb dL_law_25 (by decide) ?_
  refine lv_istore (lv' := [(5, .int 0), (4, .ref o2), (3, .ref o), (2, .ref (bd 0)), (1, .ref (ad 92)), (0, .ref b)]) hx hb dL_law_26 hl (by decide) rfl (fun ls hl => ?_)
  have hw : gw D (LA s) s.heap ([oD cy o2 (fun _ => 0), oL cy o (fun _ => 0)] ++ (MW cy bd MM ++ (CW cy ad CC ++ []))) H locs := hw
  have hw := gw_perm (L' := [oL cy o (fun _ => 0), oD cy o2 (fun _ => 0)]) [1, 0] rfl rfl hw rfl
  have hw : gw D (LA s) s.heap ((oL cy o (fun _ => 0) :: oD cy o2 (fun _ => 0) :: MW cy bd MM) ++ (CW cy ad CC ++ [])) H locs := hw
  have hw := gw_swap hw
  rw [List.append_nil] at hw
  refine W.widen (k := 200 + 4 * 0) (n := 9000 + 24 * 0) (Nat.le_of_ble_eq_true rfl) (Nat.le_of_ble_eq_true rfl) ?_
  exact law_loop hSR CX hr hlocks (L + 4) 0 (by omega) (by omega) CC MM (fun _ => 0) (fun _ => 0) H _ ls hRel hw (lv_sub hl [5, 4, 3, 2, 1, 0] rfl)
