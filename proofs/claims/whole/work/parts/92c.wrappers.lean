theorem gy_L_setGap : gYW yL_setGap RL cL_setGap 5 [(0, 10, 13, 13), (0, 10, 17, 15)] wsL_setGap 4 := ⟨⟨_, rfl⟩, rfl, by decide +kernel, by decide +kernel, by decide +kernel⟩
abbrev rmL_setGap : Room := { frames := 8, cells := 2, slots := 12, locals := 245 }
set_option maxHeartbeats 4000000 in
set_option maxRecDepth 100000 in
theorem c_L_setGap (l : Launch) (hlt : l.stackTraces = false) (D : va_G) (cy : Nat → ClassId) (ss : Nat → Nat) (ad : Nat → Nat) (o : Nat) (rest : va_W) (C : CS) (f : Nat → Int64) (q1 : Int32) (q2 : Int32) : GWi l yL_setGap wsL_setGap rmL_setGap D cy ss [.ref (ad 92), .int q1, .int q2, .ref o] (CW cy ad C ++ ((o, .inl (cy 2, 1, .inr (.inl f))) :: rest)) (fun (r : Int32) (u : CS × (Nat → Int64)) => r = wrC ["java/lang/IndexOutOfBoundsException", "java/lang/IllegalArgumentException"] (F_X6_setGap C q1 q2).1 ∧ u.1 = (F_X6_setGap C q1 q2).2 ∧ u.2 = wrO vp_updL f (fun v : Int32 => v.toInt64) (F_X6_setGap C q1 q2).1) (fun u => CW cy ad u.1 ++ ((o, .inl (cy 2, 1, .inr (.inl u.2))) :: rest)) 2 12 := by
  refine GWi.intro cL_setGap 5 RL [(0, 10, 13, 13), (0, 10, 17, 15)] (by decide) rfl rfl (Nat.le_of_ble_eq_true rfl) ?_
  intro p e s m args below meth c A Q ls X hE htab hret hl hw
  have hx := X.1
  have hb := X.2.1
  have hl : lv_has ls 5 [(0, .ref (ad 92)), (1, .int q1), (2, .int q2), (3, .ref o)] := hl
  refine lv_aload_n hx hb dL_setGap_0 rfl (lv_at hl 3 rfl) ?_
  refine lv_iconst (v := 0) hx hb dL_setGap_1 (by decide) ?_
  refine lv_aload_n hx hb dL_setGap_2 rfl (lv_at hl 0 rfl) ?_
  refine lv_iload_n hx hb dL_setGap_3 rfl (lv_at hl 1 rfl) ?_
  refine lv_iload_n hx hb dL_setGap_4 rfl (lv_at hl 2 rfl) ?_
  refine gxV_i (rest := [.int 0, .ref o]) X hE (c_X6_setGap l hlt D cy ss ad ((o, .inl (cy 2, 1, .inr (.inl f))) :: rest) C q1 q2) gy_X6_setGap gL_setGap_X6_setGap ⟨rfl, rfl, Nat.le_of_ble_eq_true rfl, Nat.le_of_ble_eq_true rfl⟩ 92 rfl rfl rfl hl rfl (Nat.le_of_ble_eq_true rfl) dL_setGap_5 ⟨Nat.le_of_ble_eq_true rfl, Nat.le_of_ble_eq_true rfl⟩ hw (fun E ce q9 u H locs hp hw h1 h2 h3 => ?_) (fun r u H locs hr hw => ?_)
  · obtain ⟨hp, hm⟩ := hp
    rcases List.mem_cons.mp hm with rfl | hm
    · skip
      refine vx_catch (own := RL) (name := "java/lang/IndexOutOfBoundsException") X.2.2.2.2.1 [] ⟨0, 10, 13, 13⟩ [⟨0, 10, 17, 15⟩] htab (fun z hz => absurd hz List.not_mem_nil) rfl (by decide) (X.2.2.2.2.2.1 (Cond.classLink RL 13 "java/lang/IndexOutOfBoundsException") (List.mem_of_getElem? (i := 1) rfl)) ((hE.2.2.2.2.2.2.1).use rfl) h1 h2 h3 ?_
      refine lv_astore (lv' := [(4, .ref q9), (0, .ref (ad 92)), (1, .int q1), (2, .int q2), (3, .ref o)]) hx hb dL_setGap_13 hl (by decide) rfl (fun ls hl => ?_)
      refine lv_iconst (v := 1) hx hb dL_setGap_15 (by decide) ?_
      exact hret _ _ (u, f) _ _ _ _ _ dL_setGap_16 ⟨by rw [hp]; exact (by decide : (1 : Int32) = wrK ["java/lang/IndexOutOfBoundsException", "java/lang/IllegalArgumentException"] "java/lang/IndexOutOfBoundsException"), by rw [hp], by rw [hp]; rfl⟩ hw (Nat.le_of_ble_eq_true rfl) (Nat.le_of_ble_eq_true rfl)
    rcases List.mem_singleton.mp hm with rfl
    refine vx_catch (own := RL) (name := "java/lang/IllegalArgumentException") X.2.2.2.2.1 [⟨0, 10, 13, 13⟩] ⟨0, 10, 17, 15⟩ [] htab (fun z hz => by rcases List.mem_singleton.mp hz with rfl; exact Or.inr ⟨by decide, _, X.2.2.2.2.2.1 (Cond.classLink RL 13 "java/lang/IndexOutOfBoundsException") (List.mem_of_getElem? (i := 1) rfl), hE.2.2.2.2.2.2.2.2.2.2.2.1⟩) rfl (by decide) (X.2.2.2.2.2.1 (Cond.classLink RL 15 "java/lang/IllegalArgumentException") (List.mem_of_getElem? (i := 2) rfl)) ((hE.2.2.2.2.2.2.2.1).use rfl) h1 h2 h3 ?_
    refine lv_astore (lv' := [(4, .ref q9), (0, .ref (ad 92)), (1, .int q1), (2, .int q2), (3, .ref o)]) hx hb dL_setGap_17 hl (by decide) rfl (fun ls hl => ?_)
    refine lv_iconst (v := 2) hx hb dL_setGap_19 (by decide) ?_
    exact hret _ _ (u, f) _ _ _ _ _ dL_setGap_20 ⟨by rw [hp]; exact (by decide : (2 : Int32) = wrK ["java/lang/IndexOutOfBoundsException", "java/lang/IllegalArgumentException"] "java/lang/IllegalArgumentException"), by rw [hp], by rw [hp]; rfl⟩ hw (Nat.le_of_ble_eq_true rfl) (Nat.le_of_ble_eq_true rfl)
  · skip
    refine lv_i2l (v := r.toInt64) hx hb dL_setGap_8 rfl ?_
    refine g_lastk (k := 0) (w' := CW cy ad u ++ ((o, .inl (cy 2, 1, .inr (.inl (vp_updL f 0 r.toInt64)))) :: rest)) rfl X hw 102 rfl (vk rfl) rfl dL_setGap_9 (fun H locs hw => ?_)
    refine lv_goto (tgt := 21) hx hb dL_setGap_10 (by decide) ?_
    refine lv_iconst (v := 0) hx hb dL_setGap_21 (by decide) ?_
    exact hret _ _ (u, (vp_updL f 0 r.toInt64)) _ _ _ _ _ dL_setGap_22 ⟨by rw [hr]; rfl, by rw [hr], by rw [hr]; rfl⟩ hw (Nat.le_of_ble_eq_true rfl) (Nat.le_of_ble_eq_true rfl)
theorem gy_L_setFold : gYW yL_setFold RL cL_setFold 5 [(0, 10, 13, 13), (0, 10, 17, 15)] wsL_setFold 4 := ⟨⟨_, rfl⟩, rfl, by decide +kernel, by decide +kernel, by decide +kernel⟩
abbrev rmL_setFold : Room := { frames := 8, cells := 2, slots := 12, locals := 245 }
set_option maxHeartbeats 4000000 in
set_option maxRecDepth 100000 in
theorem c_L_setFold (l : Launch) (hlt : l.stackTraces = false) (D : va_G) (cy : Nat → ClassId) (ss : Nat → Nat) (ad : Nat → Nat) (o : Nat) (rest : va_W) (C : CS) (f : Nat → Int64) (q1 : Int32) (q2 : Int32) : GWi l yL_setFold wsL_setFold rmL_setFold D cy ss [.ref (ad 92), .int q1, .int q2, .ref o] (CW cy ad C ++ ((o, .inl (cy 2, 1, .inr (.inl f))) :: rest)) (fun (r : Int32) (u : CS × (Nat → Int64)) => r = wrC ["java/lang/IndexOutOfBoundsException", "java/lang/IllegalArgumentException"] (F_X6_setFold C q1 q2).1 ∧ u.1 = (F_X6_setFold C q1 q2).2 ∧ u.2 = wrO vp_updL f (fun v : Int32 => v.toInt64) (F_X6_setFold C q1 q2).1) (fun u => CW cy ad u.1 ++ ((o, .inl (cy 2, 1, .inr (.inl u.2))) :: rest)) 2 12 := by
  refine GWi.intro cL_setFold 5 RL [(0, 10, 13, 13), (0, 10, 17, 15)] (by decide) rfl rfl (Nat.le_of_ble_eq_true rfl) ?_
  intro p e s m args below meth c A Q ls X hE htab hret hl hw
  have hx := X.1
  have hb := X.2.1
  have hl : lv_has ls 5 [(0, .ref (ad 92)), (1, .int q1), (2, .int q2), (3, .ref o)] := hl
  refine lv_aload_n hx hb dL_setFold_0 rfl (lv_at hl 3 rfl) ?_
  refine lv_iconst (v := 0) hx hb dL_setFold_1 (by decide) ?_
  refine lv_aload_n hx hb dL_setFold_2 rfl (lv_at hl 0 rfl) ?_
  refine lv_iload_n hx hb dL_setFold_3 rfl (lv_at hl 1 rfl) ?_
  refine lv_iload_n hx hb dL_setFold_4 rfl (lv_at hl 2 rfl) ?_
  refine gxV_i (rest := [.int 0, .ref o]) X hE (c_X6_setFold l hlt D cy ss ad ((o, .inl (cy 2, 1, .inr (.inl f))) :: rest) C q1 q2) gy_X6_setFold gL_setFold_X6_setFold ⟨rfl, rfl, Nat.le_of_ble_eq_true rfl, Nat.le_of_ble_eq_true rfl⟩ 92 rfl rfl rfl hl rfl (Nat.le_of_ble_eq_true rfl) dL_setFold_5 ⟨Nat.le_of_ble_eq_true rfl, Nat.le_of_ble_eq_true rfl⟩ hw (fun E ce q9 u H locs hp hw h1 h2 h3 => ?_) (fun r u H locs hr hw => ?_)
  · obtain ⟨hp, hm⟩ := hp
    rcases List.mem_cons.mp hm with rfl | hm
    · skip
      refine vx_catch (own := RL) (name := "java/lang/IndexOutOfBoundsException") X.2.2.2.2.1 [] ⟨0, 10, 13, 13⟩ [⟨0, 10, 17, 15⟩] htab (fun z hz => absurd hz List.not_mem_nil) rfl (by decide) (X.2.2.2.2.2.1 (Cond.classLink RL 13 "java/lang/IndexOutOfBoundsException") (List.mem_of_getElem? (i := 1) rfl)) ((hE.2.2.2.2.2.2.1).use rfl) h1 h2 h3 ?_
      refine lv_astore (lv' := [(4, .ref q9), (0, .ref (ad 92)), (1, .int q1), (2, .int q2), (3, .ref o)]) hx hb dL_setFold_13 hl (by decide) rfl (fun ls hl => ?_)
      refine lv_iconst (v := 1) hx hb dL_setFold_15 (by decide) ?_
      exact hret _ _ (u, f) _ _ _ _ _ dL_setFold_16 ⟨by rw [hp]; exact (by decide : (1 : Int32) = wrK ["java/lang/IndexOutOfBoundsException", "java/lang/IllegalArgumentException"] "java/lang/IndexOutOfBoundsException"), by rw [hp], by rw [hp]; rfl⟩ hw (Nat.le_of_ble_eq_true rfl) (Nat.le_of_ble_eq_true rfl)
    rcases List.mem_singleton.mp hm with rfl
    refine vx_catch (own := RL) (name := "java/lang/IllegalArgumentException") X.2.2.2.2.1 [⟨0, 10, 13, 13⟩] ⟨0, 10, 17, 15⟩ [] htab (fun z hz => by rcases List.mem_singleton.mp hz with rfl; exact Or.inr ⟨by decide, _, X.2.2.2.2.2.1 (Cond.classLink RL 13 "java/lang/IndexOutOfBoundsException") (List.mem_of_getElem? (i := 1) rfl), hE.2.2.2.2.2.2.2.2.2.2.2.1⟩) rfl (by decide) (X.2.2.2.2.2.1 (Cond.classLink RL 15 "java/lang/IllegalArgumentException") (List.mem_of_getElem? (i := 2) rfl)) ((hE.2.2.2.2.2.2.2.1).use rfl) h1 h2 h3 ?_
    refine lv_astore (lv' := [(4, .ref q9), (0, .ref (ad 92)), (1, .int q1), (2, .int q2), (3, .ref o)]) hx hb dL_setFold_17 hl (by decide) rfl (fun ls hl => ?_)
    refine lv_iconst (v := 2) hx hb dL_setFold_19 (by decide) ?_
    exact hret _ _ (u, f) _ _ _ _ _ dL_setFold_20 ⟨by rw [hp]; exact (by decide : (2 : Int32) = wrK ["java/lang/IndexOutOfBoundsException", "java/lang/IllegalArgumentException"] "java/lang/IllegalArgumentException"), by rw [hp], by rw [hp]; rfl⟩ hw (Nat.le_of_ble_eq_true rfl) (Nat.le_of_ble_eq_true rfl)
  · skip
    refine lv_i2l (v := r.toInt64) hx hb dL_setFold_8 rfl ?_
    refine g_lastk (k := 0) (w' := CW cy ad u ++ ((o, .inl (cy 2, 1, .inr (.inl (vp_updL f 0 r.toInt64)))) :: rest)) rfl X hw 102 rfl (vk rfl) rfl dL_setFold_9 (fun H locs hw => ?_)
    refine lv_goto (tgt := 21) hx hb dL_setFold_10 (by decide) ?_
    refine lv_iconst (v := 0) hx hb dL_setFold_21 (by decide) ?_
    exact hret _ _ (u, (vp_updL f 0 r.toInt64)) _ _ _ _ _ dL_setFold_22 ⟨by rw [hr]; rfl, by rw [hr], by rw [hr]; rfl⟩ hw (Nat.le_of_ble_eq_true rfl) (Nat.le_of_ble_eq_true rfl)
theorem gy_L_setLateness : gYW yL_setLateness RL cL_setLateness 4 [(0, 9, 12, 15)] wsL_setLateness 3 := ⟨⟨_, rfl⟩, rfl, by decide +kernel, by decide +kernel, by decide +kernel⟩
abbrev rmL_setLateness : Room := { frames := 8, cells := 1, slots := 6, locals := 244 }
set_option maxHeartbeats 4000000 in
set_option maxRecDepth 100000 in
theorem c_L_setLateness (l : Launch) (hlt : l.stackTraces = false) (D : va_G) (cy : Nat → ClassId) (ss : Nat → Nat) (ad : Nat → Nat) (o : Nat) (rest : va_W) (C : CS) (f : Nat → Int64) (q1 : Int32) : GWi l yL_setLateness wsL_setLateness rmL_setLateness D cy ss [.ref (ad 92), .int q1, .ref o] (CW cy ad C ++ ((o, .inl (cy 2, 1, .inr (.inl f))) :: rest)) (fun (r : Int32) (u : CS × (Nat → Int64)) => r = wrC ["java/lang/IllegalArgumentException"] (F_X6_setLateness C q1).1 ∧ u.1 = (F_X6_setLateness C q1).2 ∧ u.2 = wrO vp_updL f (fun v : Int32 => v.toInt64) (F_X6_setLateness C q1).1) (fun u => CW cy ad u.1 ++ ((o, .inl (cy 2, 1, .inr (.inl u.2))) :: rest)) 1 6 := by
  refine GWi.intro cL_setLateness 4 RL [(0, 9, 12, 15)] (by decide) rfl rfl (Nat.le_of_ble_eq_true rfl) ?_
  intro p e s m args below meth c A Q ls X hE htab hret hl hw
  have hx := X.1
  have hb := X.2.1
  have hl : lv_has ls 4 [(0, .ref (ad 92)), (1, .int q1), (2, .ref o)] := hl
  refine lv_aload_n hx hb dL_setLateness_0 rfl (lv_at hl 2 rfl) ?_
  refine lv_iconst (v := 0) hx hb dL_setLateness_1 (by decide) ?_
  refine lv_aload_n hx hb dL_setLateness_2 rfl (lv_at hl 0 rfl) ?_
  refine lv_iload_n hx hb dL_setLateness_3 rfl (lv_at hl 1 rfl) ?_
  refine gxV_i (rest := [.int 0, .ref o]) X hE (c_X6_setLateness l hlt D cy ss ad ((o, .inl (cy 2, 1, .inr (.inl f))) :: rest) C q1) gy_X6_setLateness gL_setLateness_X6_setLateness ⟨rfl, rfl, Nat.le_of_ble_eq_true rfl, Nat.le_of_ble_eq_true rfl⟩ 92 rfl rfl rfl hl rfl (Nat.le_of_ble_eq_true rfl) dL_setLateness_4 ⟨Nat.le_of_ble_eq_true rfl, Nat.le_of_ble_eq_true rfl⟩ hw (fun E ce q9 u H locs hp hw h1 h2 h3 => ?_) (fun r u H locs hr hw => ?_)
  · obtain ⟨hp, hm⟩ := hp
    rcases List.mem_singleton.mp hm with rfl
    refine vx_catch (own := RL) (name := "java/lang/IllegalArgumentException") X.2.2.2.2.1 [] ⟨0, 9, 12, 15⟩ [] htab (fun z hz => absurd hz List.not_mem_nil) rfl (by decide) (X.2.2.2.2.2.1 (Cond.classLink RL 15 "java/lang/IllegalArgumentException") (List.mem_of_getElem? (i := 1) rfl)) ((hE.2.2.2.2.2.2.2.1).use rfl) h1 h2 h3 ?_
    refine lv_astore_n (lv' := [(3, .ref q9), (0, .ref (ad 92)), (1, .int q1), (2, .ref o)]) hx hb dL_setLateness_12 rfl hl (by decide) rfl (fun ls hl => ?_)
    refine lv_iconst (v := 1) hx hb dL_setLateness_13 (by decide) ?_
    exact hret _ _ (u, f) _ _ _ _ _ dL_setLateness_14 ⟨by rw [hp]; exact (by decide : (1 : Int32) = wrK ["java/lang/IllegalArgumentException"] "java/lang/IllegalArgumentException"), by rw [hp], by rw [hp]; rfl⟩ hw (Nat.le_of_ble_eq_true rfl) (Nat.le_of_ble_eq_true rfl)
  · skip
    refine lv_i2l (v := r.toInt64) hx hb dL_setLateness_7 rfl ?_
    refine g_lastk (k := 0) (w' := CW cy ad u ++ ((o, .inl (cy 2, 1, .inr (.inl (vp_updL f 0 r.toInt64)))) :: rest)) rfl X hw 102 rfl (vk rfl) rfl dL_setLateness_8 (fun H locs hw => ?_)
    refine lv_goto (tgt := 15) hx hb dL_setLateness_9 (by decide) ?_
    refine lv_iconst (v := 0) hx hb dL_setLateness_15 (by decide) ?_
    exact hret _ _ (u, (vp_updL f 0 r.toInt64)) _ _ _ _ _ dL_setLateness_16 ⟨by rw [hr]; rfl, by rw [hr], by rw [hr]; rfl⟩ hw (Nat.le_of_ble_eq_true rfl) (Nat.le_of_ble_eq_true rfl)
theorem gy_L_setTrigger : gYW yL_setTrigger RL cL_setTrigger 4 [(0, 9, 12, 15)] wsL_setTrigger 3 := ⟨⟨_, rfl⟩, rfl, by decide +kernel, by decide +kernel, by decide +kernel⟩
abbrev rmL_setTrigger : Room := { frames := 8, cells := 1, slots := 6, locals := 244 }
set_option maxHeartbeats 4000000 in
set_option maxRecDepth 100000 in
theorem c_L_setTrigger (l : Launch) (hlt : l.stackTraces = false) (D : va_G) (cy : Nat → ClassId) (ss : Nat → Nat) (ad : Nat → Nat) (o : Nat) (rest : va_W) (C : CS) (f : Nat → Int64) (q1 : Int32) : GWi l yL_setTrigger wsL_setTrigger rmL_setTrigger D cy ss [.ref (ad 92), .int q1, .ref o] (CW cy ad C ++ ((o, .inl (cy 2, 1, .inr (.inl f))) :: rest)) (fun (r : Int32) (u : CS × (Nat → Int64)) => r = wrC ["java/lang/IllegalArgumentException"] (F_X6_setTrigger C q1).1 ∧ u.1 = (F_X6_setTrigger C q1).2 ∧ u.2 = wrO vp_updL f (fun v : Int32 => v.toInt64) (F_X6_setTrigger C q1).1) (fun u => CW cy ad u.1 ++ ((o, .inl (cy 2, 1, .inr (.inl u.2))) :: rest)) 1 6 := by
  refine GWi.intro cL_setTrigger 4 RL [(0, 9, 12, 15)] (by decide) rfl rfl (Nat.le_of_ble_eq_true rfl) ?_
  intro p e s m args below meth c A Q ls X hE htab hret hl hw
  have hx := X.1
  have hb := X.2.1
  have hl : lv_has ls 4 [(0, .ref (ad 92)), (1, .int q1), (2, .ref o)] := hl
  refine lv_aload_n hx hb dL_setTrigger_0 rfl (lv_at hl 2 rfl) ?_
  refine lv_iconst (v := 0) hx hb dL_setTrigger_1 (by decide) ?_
  refine lv_aload_n hx hb dL_setTrigger_2 rfl (lv_at hl 0 rfl) ?_
  refine lv_iload_n hx hb dL_setTrigger_3 rfl (lv_at hl 1 rfl) ?_
  refine gxV_i (rest := [.int 0, .ref o]) X hE (c_X6_setTrigger l hlt D cy ss ad ((o, .inl (cy 2, 1, .inr (.inl f))) :: rest) C q1) gy_X6_setTrigger gL_setTrigger_X6_setTrigger ⟨rfl, rfl, Nat.le_of_ble_eq_true rfl, Nat.le_of_ble_eq_true rfl⟩ 92 rfl rfl rfl hl rfl (Nat.le_of_ble_eq_true rfl) dL_setTrigger_4 ⟨Nat.le_of_ble_eq_true rfl, Nat.le_of_ble_eq_true rfl⟩ hw (fun E ce q9 u H locs hp hw h1 h2 h3 => ?_) (fun r u H locs hr hw => ?_)
  · obtain ⟨hp, hm⟩ := hp
    rcases List.mem_singleton.mp hm with rfl
    refine vx_catch (own := RL) (name := "java/lang/IllegalArgumentException") X.2.2.2.2.1 [] ⟨0, 9, 12, 15⟩ [] htab (fun z hz => absurd hz List.not_mem_nil) rfl (by decide) (X.2.2.2.2.2.1 (Cond.classLink RL 15 "java/lang/IllegalArgumentException") (List.mem_of_getElem? (i := 1) rfl)) ((hE.2.2.2.2.2.2.2.1).use rfl) h1 h2 h3 ?_
    refine lv_astore_n (lv' := [(3, .ref q9), (0, .ref (ad 92)), (1, .int q1), (2, .ref o)]) hx hb dL_setTrigger_12 rfl hl (by decide) rfl (fun ls hl => ?_)
    refine lv_iconst (v := 1) hx hb dL_setTrigger_13 (by decide) ?_
    exact hret _ _ (u, f) _ _ _ _ _ dL_setTrigger_14 ⟨by rw [hp]; exact (by decide : (1 : Int32) = wrK ["java/lang/IllegalArgumentException"] "java/lang/IllegalArgumentException"), by rw [hp], by rw [hp]; rfl⟩ hw (Nat.le_of_ble_eq_true rfl) (Nat.le_of_ble_eq_true rfl)
  · skip
    refine lv_i2l (v := r.toInt64) hx hb dL_setTrigger_7 rfl ?_
    refine g_lastk (k := 0) (w' := CW cy ad u ++ ((o, .inl (cy 2, 1, .inr (.inl (vp_updL f 0 r.toInt64)))) :: rest)) rfl X hw 102 rfl (vk rfl) rfl dL_setTrigger_8 (fun H locs hw => ?_)
    refine lv_goto (tgt := 15) hx hb dL_setTrigger_9 (by decide) ?_
    refine lv_iconst (v := 0) hx hb dL_setTrigger_15 (by decide) ?_
    exact hret _ _ (u, (vp_updL f 0 r.toInt64)) _ _ _ _ _ dL_setTrigger_16 ⟨by rw [hr]; rfl, by rw [hr], by rw [hr]; rfl⟩ hw (Nat.le_of_ble_eq_true rfl) (Nat.le_of_ble_eq_true rfl)
theorem gy_L_add : gYW yL_add RL cL_add 6 [(0, 12, 15, 13), (0, 12, 19, 15), (0, 12, 23, 31)] wsL_add 5 := ⟨⟨_, rfl⟩, rfl, by decide +kernel, by decide +kernel, by decide +kernel⟩
abbrev rmL_add : Room := { frames := 8, cells := 3, slots := 18, locals := 245 }
set_option maxHeartbeats 4000000 in
set_option maxRecDepth 100000 in
theorem c_L_add (l : Launch) (hlt : l.stackTraces = false) (D : va_G) (cy : Nat → ClassId) (ss : Nat → Nat) (ad : Nat → Nat) (o : Nat) (rest : va_W) (C : CS) (f : Nat → Int64) (q1 : Int32) (q2 : Int32) (q3 : Int32) : GWi l yL_add wsL_add rmL_add D cy ss [.ref (ad 92), .int q1, .int q2, .int q3, .ref o] (CW cy ad C ++ ((o, .inl (cy 2, 1, .inr (.inl f))) :: rest)) (fun (r : Int32) (u : CS × (Nat → Int64)) => r = wrC ["java/lang/IndexOutOfBoundsException", "java/lang/IllegalArgumentException", "java/lang/IllegalStateException"] (F_X6_add C q1 q2 q3).1 ∧ u.1 = (F_X6_add C q1 q2 q3).2 ∧ u.2 = wrO vp_updL f (fun v : Int32 => v.toInt64) (F_X6_add C q1 q2 q3).1) (fun u => CW cy ad u.1 ++ ((o, .inl (cy 2, 1, .inr (.inl u.2))) :: rest)) 3 18 := by
  refine GWi.intro cL_add 6 RL [(0, 12, 15, 13), (0, 12, 19, 15), (0, 12, 23, 31)] (by decide) rfl rfl (Nat.le_of_ble_eq_true rfl) ?_
  intro p e s m args below meth c A Q ls X hE htab hret hl hw
  have hx := X.1
  have hb := X.2.1
  have hl : lv_has ls 6 [(0, .ref (ad 92)), (1, .int q1), (2, .int q2), (3, .int q3), (4, .ref o)] := hl
  refine lv_aload hx hb dL_add_0 (lv_at hl 4 rfl) ?_
  refine lv_iconst (v := 0) hx hb dL_add_2 (by decide) ?_
  refine lv_aload_n hx hb dL_add_3 rfl (lv_at hl 0 rfl) ?_
  refine lv_iload_n hx hb dL_add_4 rfl (lv_at hl 1 rfl) ?_
  refine lv_iload_n hx hb dL_add_5 rfl (lv_at hl 2 rfl) ?_
  refine lv_iload_n hx hb dL_add_6 rfl (lv_at hl 3 rfl) ?_
  refine gxV_i (rest := [.int 0, .ref o]) X hE (c_X6_add l hlt D cy ss ad ((o, .inl (cy 2, 1, .inr (.inl f))) :: rest) C q1 q2 q3) gy_X6_add gL_add_X6_add ⟨rfl, rfl, Nat.le_of_ble_eq_true rfl, Nat.le_of_ble_eq_true rfl⟩ 92 rfl rfl rfl hl rfl (Nat.le_of_ble_eq_true rfl) dL_add_7 ⟨Nat.le_of_ble_eq_true rfl, Nat.le_of_ble_eq_true rfl⟩ hw (fun E ce q9 u H locs hp hw h1 h2 h3 => ?_) (fun r u H locs hr hw => ?_)
  · obtain ⟨hp, hm⟩ := hp
    rcases List.mem_cons.mp hm with rfl | hm
    · skip
      refine vx_catch (own := RL) (name := "java/lang/IndexOutOfBoundsException") X.2.2.2.2.1 [] ⟨0, 12, 15, 13⟩ [⟨0, 12, 19, 15⟩, ⟨0, 12, 23, 31⟩] htab (fun z hz => absurd hz List.not_mem_nil) rfl (by decide) (X.2.2.2.2.2.1 (Cond.classLink RL 13 "java/lang/IndexOutOfBoundsException") (List.mem_of_getElem? (i := 1) rfl)) ((hE.2.2.2.2.2.2.1).use rfl) h1 h2 h3 ?_
      refine lv_astore (lv' := [(5, .ref q9), (0, .ref (ad 92)), (1, .int q1), (2, .int q2), (3, .int q3), (4, .ref o)]) hx hb dL_add_15 hl (by decide) rfl (fun ls hl => ?_)
      refine lv_iconst (v := 1) hx hb dL_add_17 (by decide) ?_
      exact hret _ _ (u, f) _ _ _ _ _ dL_add_18 ⟨by rw [hp]; exact (by decide : (1 : Int32) = wrK ["java/lang/IndexOutOfBoundsException", "java/lang/IllegalArgumentException", "java/lang/IllegalStateException"] "java/lang/IndexOutOfBoundsException"), by rw [hp], by rw [hp]; rfl⟩ hw (Nat.le_of_ble_eq_true rfl) (Nat.le_of_ble_eq_true rfl)
    rcases List.mem_cons.mp hm with rfl | hm
    · skip
      refine vx_catch (own := RL) (name := "java/lang/IllegalArgumentException") X.2.2.2.2.1 [⟨0, 12, 15, 13⟩] ⟨0, 12, 19, 15⟩ [⟨0, 12, 23, 31⟩] htab (fun z hz => by rcases List.mem_singleton.mp hz with rfl; exact Or.inr ⟨by decide, _, X.2.2.2.2.2.1 (Cond.classLink RL 13 "java/lang/IndexOutOfBoundsException") (List.mem_of_getElem? (i := 1) rfl), hE.2.2.2.2.2.2.2.2.2.2.2.1⟩) rfl (by decide) (X.2.2.2.2.2.1 (Cond.classLink RL 15 "java/lang/IllegalArgumentException") (List.mem_of_getElem? (i := 2) rfl)) ((hE.2.2.2.2.2.2.2.1).use rfl) h1 h2 h3 ?_
      refine lv_astore (lv' := [(5, .ref q9), (0, .ref (ad 92)), (1, .int q1), (2, .int q2), (3, .int q3), (4, .ref o)]) hx hb dL_add_19 hl (by decide) rfl (fun ls hl => ?_)
      refine lv_iconst (v := 2) hx hb dL_add_21 (by decide) ?_
      exact hret _ _ (u, f) _ _ _ _ _ dL_add_22 ⟨by rw [hp]; exact (by decide : (2 : Int32) = wrK ["java/lang/IndexOutOfBoundsException", "java/lang/IllegalArgumentException", "java/lang/IllegalStateException"] "java/lang/IllegalArgumentException"), by rw [hp], by rw [hp]; rfl⟩ hw (Nat.le_of_ble_eq_true rfl) (Nat.le_of_ble_eq_true rfl)
    rcases List.mem_singleton.mp hm with rfl
    refine vx_catch (own := RL) (name := "java/lang/IllegalStateException") X.2.2.2.2.1 [⟨0, 12, 15, 13⟩, ⟨0, 12, 19, 15⟩] ⟨0, 12, 23, 31⟩ [] htab (fun z hz => by rcases List.mem_cons.mp hz with rfl | hz; exact Or.inr ⟨by decide, _, X.2.2.2.2.2.1 (Cond.classLink RL 13 "java/lang/IndexOutOfBoundsException") (List.mem_of_getElem? (i := 1) rfl), hE.2.2.2.2.2.2.2.2.2.2.2.2.1⟩; rcases List.mem_singleton.mp hz with rfl; exact Or.inr ⟨by decide, _, X.2.2.2.2.2.1 (Cond.classLink RL 15 "java/lang/IllegalArgumentException") (List.mem_of_getElem? (i := 2) rfl), hE.2.2.2.2.2.2.2.2.2.2.2.2.2.1⟩) rfl (by decide) (X.2.2.2.2.2.1 (Cond.classLink RL 31 "java/lang/IllegalStateException") (List.mem_of_getElem? (i := 3) rfl)) ((hE.2.2.2.2.2.2.2.2.1).use rfl) h1 h2 h3 ?_
    refine lv_astore (lv' := [(5, .ref q9), (0, .ref (ad 92)), (1, .int q1), (2, .int q2), (3, .int q3), (4, .ref o)]) hx hb dL_add_23 hl (by decide) rfl (fun ls hl => ?_)
    refine lv_iconst (v := 3) hx hb dL_add_25 (by decide) ?_
    exact hret _ _ (u, f) _ _ _ _ _ dL_add_26 ⟨by rw [hp]; exact (by decide : (3 : Int32) = wrK ["java/lang/IndexOutOfBoundsException", "java/lang/IllegalArgumentException", "java/lang/IllegalStateException"] "java/lang/IllegalStateException"), by rw [hp], by rw [hp]; rfl⟩ hw (Nat.le_of_ble_eq_true rfl) (Nat.le_of_ble_eq_true rfl)
  · skip
    refine lv_i2l (v := r.toInt64) hx hb dL_add_10 rfl ?_
    refine g_lastk (k := 0) (w' := CW cy ad u ++ ((o, .inl (cy 2, 1, .inr (.inl (vp_updL f 0 r.toInt64)))) :: rest)) rfl X hw 102 rfl (vk rfl) rfl dL_add_11 (fun H locs hw => ?_)
    refine lv_goto (tgt := 27) hx hb dL_add_12 (by decide) ?_
    refine lv_iconst (v := 0) hx hb dL_add_27 (by decide) ?_
    exact hret _ _ (u, (vp_updL f 0 r.toInt64)) _ _ _ _ _ dL_add_28 ⟨by rw [hr]; rfl, by rw [hr], by rw [hr]; rfl⟩ hw (Nat.le_of_ble_eq_true rfl) (Nat.le_of_ble_eq_true rfl)
theorem gy_L_advance : gYW yL_advance RL cL_advance 4 [(0, 9, 12, 15)] wsL_advance 3 := ⟨⟨_, rfl⟩, rfl, by decide +kernel, by decide +kernel, by decide +kernel⟩
abbrev rmL_advance : Room := { frames := 8, cells := 1, slots := 6, locals := 243 }
set_option maxHeartbeats 4000000 in
set_option maxRecDepth 100000 in
theorem c_L_advance (l : Launch) (hlt : l.stackTraces = false) (D : va_G) (cy : Nat → ClassId) (ss : Nat → Nat) (ad : Nat → Nat) (o : Nat) (rest : va_W) (C : CS) (f : Nat → Int64) (q1 : Int32) : GWi l yL_advance wsL_advance rmL_advance D cy ss [.ref (ad 92), .int q1, .ref o] (CW cy ad C ++ ((o, .inl (cy 2, 1, .inr (.inl f))) :: rest)) (fun (r : Int32) (u : CS × (Nat → Int64)) => r = wrC ["java/lang/IllegalArgumentException"] (F_X6_advance C q1).1 ∧ u.1 = (F_X6_advance C q1).2 ∧ u.2 = wrO vp_updL f (fun v : Int32 => v.toInt64) (F_X6_advance C q1).1) (fun u => CW cy ad u.1 ++ ((o, .inl (cy 2, 1, .inr (.inl u.2))) :: rest)) 1 6 := by
  refine GWi.intro cL_advance 4 RL [(0, 9, 12, 15)] (by decide) rfl rfl (Nat.le_of_ble_eq_true rfl) ?_
  intro p e s m args below meth c A Q ls X hE htab hret hl hw
  have hx := X.1
  have hb := X.2.1
  have hl : lv_has ls 4 [(0, .ref (ad 92)), (1, .int q1), (2, .ref o)] := hl
  refine lv_aload_n hx hb dL_advance_0 rfl (lv_at hl 2 rfl) ?_
  refine lv_iconst (v := 0) hx hb dL_advance_1 (by decide) ?_
  refine lv_aload_n hx hb dL_advance_2 rfl (lv_at hl 0 rfl) ?_
  refine lv_iload_n hx hb dL_advance_3 rfl (lv_at hl 1 rfl) ?_
  refine gxV_i (rest := [.int 0, .ref o]) X hE (c_X6_advance l hlt D cy ss ad ((o, .inl (cy 2, 1, .inr (.inl f))) :: rest) C q1) gy_X6_advance gL_advance_X6_advance ⟨rfl, rfl, Nat.le_of_ble_eq_true rfl, Nat.le_of_ble_eq_true rfl⟩ 92 rfl rfl rfl hl rfl (Nat.le_of_ble_eq_true rfl) dL_advance_4 ⟨Nat.le_of_ble_eq_true rfl, Nat.le_of_ble_eq_true rfl⟩ hw (fun E ce q9 u H locs hp hw h1 h2 h3 => ?_) (fun r u H locs hr hw => ?_)
  · obtain ⟨hp, hm⟩ := hp
    rcases List.mem_singleton.mp hm with rfl
    refine vx_catch (own := RL) (name := "java/lang/IllegalArgumentException") X.2.2.2.2.1 [] ⟨0, 9, 12, 15⟩ [] htab (fun z hz => absurd hz List.not_mem_nil) rfl (by decide) (X.2.2.2.2.2.1 (Cond.classLink RL 15 "java/lang/IllegalArgumentException") (List.mem_of_getElem? (i := 1) rfl)) ((hE.2.2.2.2.2.2.2.1).use rfl) h1 h2 h3 ?_
    refine lv_astore_n (lv' := [(3, .ref q9), (0, .ref (ad 92)), (1, .int q1), (2, .ref o)]) hx hb dL_advance_12 rfl hl (by decide) rfl (fun ls hl => ?_)
    refine lv_iconst (v := 1) hx hb dL_advance_13 (by decide) ?_
    exact hret _ _ (u, f) _ _ _ _ _ dL_advance_14 ⟨by rw [hp]; exact (by decide : (1 : Int32) = wrK ["java/lang/IllegalArgumentException"] "java/lang/IllegalArgumentException"), by rw [hp], by rw [hp]; rfl⟩ hw (Nat.le_of_ble_eq_true rfl) (Nat.le_of_ble_eq_true rfl)
  · skip
    refine lv_i2l (v := r.toInt64) hx hb dL_advance_7 rfl ?_
    refine g_lastk (k := 0) (w' := CW cy ad u ++ ((o, .inl (cy 2, 1, .inr (.inl (vp_updL f 0 r.toInt64)))) :: rest)) rfl X hw 102 rfl (vk rfl) rfl dL_advance_8 (fun H locs hw => ?_)
    refine lv_goto (tgt := 15) hx hb dL_advance_9 (by decide) ?_
    refine lv_iconst (v := 0) hx hb dL_advance_15 (by decide) ?_
    exact hret _ _ (u, (vp_updL f 0 r.toInt64)) _ _ _ _ _ dL_advance_16 ⟨by rw [hr]; rfl, by rw [hr], by rw [hr]; rfl⟩ hw (Nat.le_of_ble_eq_true rfl) (Nat.le_of_ble_eq_true rfl)
theorem gy_L_burst : gYW yL_burst RL cL_burst 5 [(0, 10, 13, 13), (0, 10, 17, 15)] wsL_burst 4 := ⟨⟨_, rfl⟩, rfl, by decide +kernel, by decide +kernel, by decide +kernel⟩
abbrev rmL_burst : Room := { frames := 8, cells := 2, slots := 12, locals := 244 }
set_option maxHeartbeats 4000000 in
set_option maxRecDepth 100000 in
theorem c_L_burst (l : Launch) (hlt : l.stackTraces = false) (D : va_G) (cy : Nat → ClassId) (ss : Nat → Nat) (ad : Nat → Nat) (o : Nat) (rest : va_W) (C : CS) (f : Nat → Int64) (q1 : Int32) (q2 : Int32) : GWi l yL_burst wsL_burst rmL_burst D cy ss [.ref (ad 92), .int q1, .int q2, .ref o] (CW cy ad C ++ ((o, .inl (cy 2, 1, .inr (.inl f))) :: rest)) (fun (r : Int32) (u : (Nat → Int64)) => r = wrC ["java/lang/IndexOutOfBoundsException", "java/lang/IllegalArgumentException"] (F_X6_burst C q1 q2) ∧ u = wrO vp_updL f (fun v : Int32 => v.toInt64) (F_X6_burst C q1 q2)) (fun u => CW cy ad C ++ ((o, .inl (cy 2, 1, .inr (.inl u))) :: rest)) 2 12 := by
  refine GWi.intro cL_burst 5 RL [(0, 10, 13, 13), (0, 10, 17, 15)] (by decide) rfl rfl (Nat.le_of_ble_eq_true rfl) ?_
  intro p e s m args below meth c A Q ls X hE htab hret hl hw
  have hx := X.1
  have hb := X.2.1
  have hl : lv_has ls 5 [(0, .ref (ad 92)), (1, .int q1), (2, .int q2), (3, .ref o)] := hl
  refine lv_aload_n hx hb dL_burst_0 rfl (lv_at hl 3 rfl) ?_
  refine lv_iconst (v := 0) hx hb dL_burst_1 (by decide) ?_
  refine lv_aload_n hx hb dL_burst_2 rfl (lv_at hl 0 rfl) ?_
  refine lv_iload_n hx hb dL_burst_3 rfl (lv_at hl 1 rfl) ?_
  refine lv_iload_n hx hb dL_burst_4 rfl (lv_at hl 2 rfl) ?_
  refine gxV_i (rest := [.int 0, .ref o]) X hE (c_X6_burst l hlt D cy ss ad ((o, .inl (cy 2, 1, .inr (.inl f))) :: rest) C q1 q2) gy_X6_burst gL_burst_X6_burst ⟨rfl, rfl, Nat.le_of_ble_eq_true rfl, Nat.le_of_ble_eq_true rfl⟩ 92 rfl rfl rfl hl rfl (Nat.le_of_ble_eq_true rfl) dL_burst_5 ⟨Nat.le_of_ble_eq_true rfl, Nat.le_of_ble_eq_true rfl⟩ hw (fun E ce q9 u H locs hp hw h1 h2 h3 => ?_) (fun r u H locs hr hw => ?_)
  · obtain ⟨hp, hm⟩ := hp
    rcases List.mem_cons.mp hm with rfl | hm
    · skip
      refine vx_catch (own := RL) (name := "java/lang/IndexOutOfBoundsException") X.2.2.2.2.1 [] ⟨0, 10, 13, 13⟩ [⟨0, 10, 17, 15⟩] htab (fun z hz => absurd hz List.not_mem_nil) rfl (by decide) (X.2.2.2.2.2.1 (Cond.classLink RL 13 "java/lang/IndexOutOfBoundsException") (List.mem_of_getElem? (i := 1) rfl)) ((hE.2.2.2.2.2.2.1).use rfl) h1 h2 h3 ?_
      refine lv_astore (lv' := [(4, .ref q9), (0, .ref (ad 92)), (1, .int q1), (2, .int q2), (3, .ref o)]) hx hb dL_burst_13 hl (by decide) rfl (fun ls hl => ?_)
      refine lv_iconst (v := 1) hx hb dL_burst_15 (by decide) ?_
      exact hret _ _ f _ _ _ _ _ dL_burst_16 ⟨by rw [hp]; exact (by decide : (1 : Int32) = wrK ["java/lang/IndexOutOfBoundsException", "java/lang/IllegalArgumentException"] "java/lang/IndexOutOfBoundsException"), by rw [hp]; rfl⟩ hw (Nat.le_of_ble_eq_true rfl) (Nat.le_of_ble_eq_true rfl)
    rcases List.mem_singleton.mp hm with rfl
    refine vx_catch (own := RL) (name := "java/lang/IllegalArgumentException") X.2.2.2.2.1 [⟨0, 10, 13, 13⟩] ⟨0, 10, 17, 15⟩ [] htab (fun z hz => by rcases List.mem_singleton.mp hz with rfl; exact Or.inr ⟨by decide, _, X.2.2.2.2.2.1 (Cond.classLink RL 13 "java/lang/IndexOutOfBoundsException") (List.mem_of_getElem? (i := 1) rfl), hE.2.2.2.2.2.2.2.2.2.2.2.1⟩) rfl (by decide) (X.2.2.2.2.2.1 (Cond.classLink RL 15 "java/lang/IllegalArgumentException") (List.mem_of_getElem? (i := 2) rfl)) ((hE.2.2.2.2.2.2.2.1).use rfl) h1 h2 h3 ?_
    refine lv_astore (lv' := [(4, .ref q9), (0, .ref (ad 92)), (1, .int q1), (2, .int q2), (3, .ref o)]) hx hb dL_burst_17 hl (by decide) rfl (fun ls hl => ?_)
    refine lv_iconst (v := 2) hx hb dL_burst_19 (by decide) ?_
    exact hret _ _ f _ _ _ _ _ dL_burst_20 ⟨by rw [hp]; exact (by decide : (2 : Int32) = wrK ["java/lang/IndexOutOfBoundsException", "java/lang/IllegalArgumentException"] "java/lang/IllegalArgumentException"), by rw [hp]; rfl⟩ hw (Nat.le_of_ble_eq_true rfl) (Nat.le_of_ble_eq_true rfl)
  · skip
    refine lv_i2l (v := r.toInt64) hx hb dL_burst_8 rfl ?_
    refine g_lastk (k := 0) (w' := CW cy ad C ++ ((o, .inl (cy 2, 1, .inr (.inl (vp_updL f 0 r.toInt64)))) :: rest)) rfl X hw 102 rfl (vk rfl) rfl dL_burst_9 (fun H locs hw => ?_)
    refine lv_goto (tgt := 21) hx hb dL_burst_10 (by decide) ?_
    refine lv_iconst (v := 0) hx hb dL_burst_21 (by decide) ?_
    exact hret _ _ (vp_updL f 0 r.toInt64) _ _ _ _ _ dL_burst_22 ⟨by rw [hr]; rfl, by rw [hr]; rfl⟩ hw (Nat.le_of_ble_eq_true rfl) (Nat.le_of_ble_eq_true rfl)
theorem gy_L_isClosed : gYW yL_isClosed RL cL_isClosed 4 [(0, 16, 19, 13)] wsL_isClosed 3 := ⟨⟨_, rfl⟩, rfl, by decide +kernel, by decide +kernel, by decide +kernel⟩
abbrev rmL_isClosed : Room := { frames := 8, cells := 1, slots := 6, locals := 242 }
set_option maxHeartbeats 4000000 in
set_option maxRecDepth 100000 in
theorem c_L_isClosed (l : Launch) (hlt : l.stackTraces = false) (D : va_G) (cy : Nat → ClassId) (ss : Nat → Nat) (ad : Nat → Nat) (o : Nat) (rest : va_W) (C : CS) (f : Nat → Int64) (q1 : Int32) : GWi l yL_isClosed wsL_isClosed rmL_isClosed D cy ss [.ref (ad 92), .int q1, .ref o] (CW cy ad C ++ ((o, .inl (cy 2, 1, .inr (.inl f))) :: rest)) (fun (r : Int32) (u : (Nat → Int64)) => r = wrC ["java/lang/IndexOutOfBoundsException"] (F_X6_isClosed C q1) ∧ u = wrO vp_updL f (fun v : Int32 => if v = 0 then (0 : Int64) else 1) (F_X6_isClosed C q1)) (fun u => CW cy ad C ++ ((o, .inl (cy 2, 1, .inr (.inl u))) :: rest)) 1 6 := by
  refine GWi.intro cL_isClosed 4 RL [(0, 16, 19, 13)] (by decide) rfl rfl (Nat.le_of_ble_eq_true rfl) ?_
  intro p e s m args below meth c A Q ls X hE htab hret hl hw
  have hx := X.1
  have hb := X.2.1
  have hl : lv_has ls 4 [(0, .ref (ad 92)), (1, .int q1), (2, .ref o)] := hl
  refine lv_aload_n hx hb dL_isClosed_0 rfl (lv_at hl 2 rfl) ?_
  refine lv_iconst (v := 0) hx hb dL_isClosed_1 (by decide) ?_
  refine lv_aload_n hx hb dL_isClosed_2 rfl (lv_at hl 0 rfl) ?_
  refine lv_iload_n hx hb dL_isClosed_3 rfl (lv_at hl 1 rfl) ?_
  refine gxV_i (rest := [.int 0, .ref o]) X hE (c_X6_isClosed l hlt D cy ss ad ((o, .inl (cy 2, 1, .inr (.inl f))) :: rest) C q1) gy_X6_isClosed gL_isClosed_X6_isClosed ⟨rfl, rfl, Nat.le_of_ble_eq_true rfl, Nat.le_of_ble_eq_true rfl⟩ 92 rfl rfl rfl hl rfl (Nat.le_of_ble_eq_true rfl) dL_isClosed_4 ⟨Nat.le_of_ble_eq_true rfl, Nat.le_of_ble_eq_true rfl⟩ hw (fun E ce q9 u H locs hp hw h1 h2 h3 => ?_) (fun r u H locs hr hw => ?_)
  · obtain ⟨hp, hm⟩ := hp
    rcases List.mem_singleton.mp hm with rfl
    refine vx_catch (own := RL) (name := "java/lang/IndexOutOfBoundsException") X.2.2.2.2.1 [] ⟨0, 16, 19, 13⟩ [] htab (fun z hz => absurd hz List.not_mem_nil) rfl (by decide) (X.2.2.2.2.2.1 (Cond.classLink RL 13 "java/lang/IndexOutOfBoundsException") (List.mem_of_getElem? (i := 1) rfl)) ((hE.2.2.2.2.2.2.1).use rfl) h1 h2 h3 ?_
    refine lv_astore_n (lv' := [(3, .ref q9), (0, .ref (ad 92)), (1, .int q1), (2, .ref o)]) hx hb dL_isClosed_19 rfl hl (by decide) rfl (fun ls hl => ?_)
    refine lv_iconst (v := 1) hx hb dL_isClosed_20 (by decide) ?_
    exact hret _ _ f _ _ _ _ _ dL_isClosed_21 ⟨by rw [hp]; exact (by decide : (1 : Int32) = wrK ["java/lang/IndexOutOfBoundsException"] "java/lang/IndexOutOfBoundsException"), by rw [hp]; rfl⟩ hw (Nat.le_of_ble_eq_true rfl) (Nat.le_of_ble_eq_true rfl)
  · skip
    obtain ⟨hr, zr⟩ := hr
    refine lv_if_eq (tgt := 14) hx hb dL_isClosed_7 (by decide) (fun c1 => ?_) (fun c1 => ?_)
    · skip
      refine lv_lconst (v := 0) hx hb dL_isClosed_14 (by decide) ?_
      refine g_lastk (k := 0) (w' := CW cy ad C ++ ((o, .inl (cy 2, 1, .inr (.inl (vp_updL f 0 0)))) :: rest)) rfl X hw 102 rfl (vk rfl) rfl dL_isClosed_15 (fun H locs hw => ?_)
      refine lv_goto (tgt := 22) hx hb dL_isClosed_16 (by decide) ?_
      refine lv_iconst (v := 0) hx hb dL_isClosed_22 (by decide) ?_
      exact hret _ _ (vp_updL f 0 0) _ _ _ _ _ dL_isClosed_23 ⟨by rw [hr]; rfl, by rw [hr]; rw [c1]; rfl⟩ hw (Nat.le_of_ble_eq_true rfl) (Nat.le_of_ble_eq_true rfl)
    · skip
      refine lv_lconst (v := 1) hx hb dL_isClosed_10 (by decide) ?_
      refine lv_goto (tgt := 15) hx hb dL_isClosed_11 (by decide) ?_
      refine g_lastk (k := 0) (w' := CW cy ad C ++ ((o, .inl (cy 2, 1, .inr (.inl (vp_updL f 0 1)))) :: rest)) rfl X hw 102 rfl (vk rfl) rfl dL_isClosed_15 (fun H locs hw => ?_)
      refine lv_goto (tgt := 22) hx hb dL_isClosed_16 (by decide) ?_
      refine lv_iconst (v := 0) hx hb dL_isClosed_22 (by decide) ?_
      exact hret _ _ (vp_updL f 0 1) _ _ _ _ _ dL_isClosed_23 ⟨by rw [hr]; rfl, by rw [hr]; exact congrArg (fun z => vp_updL f 0 z) (if_neg c1).symm⟩ hw (Nat.le_of_ble_eq_true rfl) (Nat.le_of_ble_eq_true rfl)
theorem gy_L_isDirty : gYW yL_isDirty RL cL_isDirty 4 [(0, 16, 19, 13)] wsL_isDirty 3 := ⟨⟨_, rfl⟩, rfl, by decide +kernel, by decide +kernel, by decide +kernel⟩
abbrev rmL_isDirty : Room := { frames := 8, cells := 1, slots := 6, locals := 242 }
set_option maxHeartbeats 4000000 in
set_option maxRecDepth 100000 in
theorem c_L_isDirty (l : Launch) (hlt : l.stackTraces = false) (D : va_G) (cy : Nat → ClassId) (ss : Nat → Nat) (ad : Nat → Nat) (o : Nat) (rest : va_W) (C : CS) (f : Nat → Int64) (q1 : Int32) : GWi l yL_isDirty wsL_isDirty rmL_isDirty D cy ss [.ref (ad 92), .int q1, .ref o] (CW cy ad C ++ ((o, .inl (cy 2, 1, .inr (.inl f))) :: rest)) (fun (r : Int32) (u : (Nat → Int64)) => r = wrC ["java/lang/IndexOutOfBoundsException"] (F_X6_isDirty C q1) ∧ u = wrO vp_updL f (fun v : Int32 => if v = 0 then (0 : Int64) else 1) (F_X6_isDirty C q1)) (fun u => CW cy ad C ++ ((o, .inl (cy 2, 1, .inr (.inl u))) :: rest)) 1 6 := by
  refine GWi.intro cL_isDirty 4 RL [(0, 16, 19, 13)] (by decide) rfl rfl (Nat.le_of_ble_eq_true rfl) ?_
  intro p e s m args below meth c A Q ls X hE htab hret hl hw
  have hx := X.1
  have hb := X.2.1
  have hl : lv_has ls 4 [(0, .ref (ad 92)), (1, .int q1), (2, .ref o)] := hl
  refine lv_aload_n hx hb dL_isDirty_0 rfl (lv_at hl 2 rfl) ?_
  refine lv_iconst (v := 0) hx hb dL_isDirty_1 (by decide) ?_
  refine lv_aload_n hx hb dL_isDirty_2 rfl (lv_at hl 0 rfl) ?_
  refine lv_iload_n hx hb dL_isDirty_3 rfl (lv_at hl 1 rfl) ?_
  refine gxV_i (rest := [.int 0, .ref o]) X hE (c_X6_isDirty l hlt D cy ss ad ((o, .inl (cy 2, 1, .inr (.inl f))) :: rest) C q1) gy_X6_isDirty gL_isDirty_X6_isDirty ⟨rfl, rfl, Nat.le_of_ble_eq_true rfl, Nat.le_of_ble_eq_true rfl⟩ 92 rfl rfl rfl hl rfl (Nat.le_of_ble_eq_true rfl) dL_isDirty_4 ⟨Nat.le_of_ble_eq_true rfl, Nat.le_of_ble_eq_true rfl⟩ hw (fun E ce q9 u H locs hp hw h1 h2 h3 => ?_) (fun r u H locs hr hw => ?_)
  · obtain ⟨hp, hm⟩ := hp
    rcases List.mem_singleton.mp hm with rfl
    refine vx_catch (own := RL) (name := "java/lang/IndexOutOfBoundsException") X.2.2.2.2.1 [] ⟨0, 16, 19, 13⟩ [] htab (fun z hz => absurd hz List.not_mem_nil) rfl (by decide) (X.2.2.2.2.2.1 (Cond.classLink RL 13 "java/lang/IndexOutOfBoundsException") (List.mem_of_getElem? (i := 1) rfl)) ((hE.2.2.2.2.2.2.1).use rfl) h1 h2 h3 ?_
    refine lv_astore_n (lv' := [(3, .ref q9), (0, .ref (ad 92)), (1, .int q1), (2, .ref o)]) hx hb dL_isDirty_19 rfl hl (by decide) rfl (fun ls hl => ?_)
    refine lv_iconst (v := 1) hx hb dL_isDirty_20 (by decide) ?_
    exact hret _ _ f _ _ _ _ _ dL_isDirty_21 ⟨by rw [hp]; exact (by decide : (1 : Int32) = wrK ["java/lang/IndexOutOfBoundsException"] "java/lang/IndexOutOfBoundsException"), by rw [hp]; rfl⟩ hw (Nat.le_of_ble_eq_true rfl) (Nat.le_of_ble_eq_true rfl)
  · skip
    obtain ⟨hr, zr⟩ := hr
    refine lv_if_eq (tgt := 14) hx hb dL_isDirty_7 (by decide) (fun c1 => ?_) (fun c1 => ?_)
    · skip
      refine lv_lconst (v := 0) hx hb dL_isDirty_14 (by decide) ?_
      refine g_lastk (k := 0) (w' := CW cy ad C ++ ((o, .inl (cy 2, 1, .inr (.inl (vp_updL f 0 0)))) :: rest)) rfl X hw 102 rfl (vk rfl) rfl dL_isDirty_15 (fun H locs hw => ?_)
      refine lv_goto (tgt := 22) hx hb dL_isDirty_16 (by decide) ?_
      refine lv_iconst (v := 0) hx hb dL_isDirty_22 (by decide) ?_
      exact hret _ _ (vp_updL f 0 0) _ _ _ _ _ dL_isDirty_23 ⟨by rw [hr]; rfl, by rw [hr]; rw [c1]; rfl⟩ hw (Nat.le_of_ble_eq_true rfl) (Nat.le_of_ble_eq_true rfl)
    · skip
      refine lv_lconst (v := 1) hx hb dL_isDirty_10 (by decide) ?_
      refine lv_goto (tgt := 15) hx hb dL_isDirty_11 (by decide) ?_
      refine g_lastk (k := 0) (w' := CW cy ad C ++ ((o, .inl (cy 2, 1, .inr (.inl (vp_updL f 0 1)))) :: rest)) rfl X hw 102 rfl (vk rfl) rfl dL_isDirty_15 (fun H locs hw => ?_)
      refine lv_goto (tgt := 22) hx hb dL_isDirty_16 (by decide) ?_
      refine lv_iconst (v := 0) hx hb dL_isDirty_22 (by decide) ?_
      exact hret _ _ (vp_updL f 0 1) _ _ _ _ _ dL_isDirty_23 ⟨by rw [hr]; rfl, by rw [hr]; exact congrArg (fun z => vp_updL f 0 z) (if_neg c1).symm⟩ hw (Nat.le_of_ble_eq_true rfl) (Nat.le_of_ble_eq_true rfl)
theorem gy_L_burstAt : gYW yL_burstAt RL cL_burstAt 5 [(0, 10, 13, 13), (0, 10, 17, 49)] wsL_burstAt 4 := ⟨⟨_, rfl⟩, rfl, by decide +kernel, by decide +kernel, by decide +kernel⟩
abbrev rmL_burstAt : Room := { frames := 8, cells := 2, slots := 12, locals := 242 }
set_option maxHeartbeats 4000000 in
set_option maxRecDepth 100000 in
theorem c_L_burstAt (l : Launch) (hlt : l.stackTraces = false) (D : va_G) (cy : Nat → ClassId) (ss : Nat → Nat) (ad : Nat → Nat) (o : Nat) (rest : va_W) (C : CS) (f : Nat → Int64) (q1 : Int32) (q2 : Int32) : GWi l yL_burstAt wsL_burstAt rmL_burstAt D cy ss [.ref (ad 92), .int q1, .int q2, .ref o] (CW cy ad C ++ ((o, .inl (cy 2, 1, .inr (.inl f))) :: rest)) (fun (r : Int32) (u : (Nat → Int64)) => r = wrC ["java/lang/IndexOutOfBoundsException", "java/util/NoSuchElementException"] (F_X6_burstAt C q1 q2) ∧ u = wrO vp_updL f (fun v : Int32 => v.toInt64) (F_X6_burstAt C q1 q2)) (fun u => CW cy ad C ++ ((o, .inl (cy 2, 1, .inr (.inl u))) :: rest)) 2 12 := by
  refine GWi.intro cL_burstAt 5 RL [(0, 10, 13, 13), (0, 10, 17, 49)] (by decide) rfl rfl (Nat.le_of_ble_eq_true rfl) ?_
  intro p e s m args below meth c A Q ls X hE htab hret hl hw
  have hx := X.1
  have hb := X.2.1
  have hl : lv_has ls 5 [(0, .ref (ad 92)), (1, .int q1), (2, .int q2), (3, .ref o)] := hl
  refine lv_aload_n hx hb dL_burstAt_0 rfl (lv_at hl 3 rfl) ?_
  refine lv_iconst (v := 0) hx hb dL_burstAt_1 (by decide) ?_
  refine lv_aload_n hx hb dL_burstAt_2 rfl (lv_at hl 0 rfl) ?_
  refine lv_iload_n hx hb dL_burstAt_3 rfl (lv_at hl 1 rfl) ?_
  refine lv_iload_n hx hb dL_burstAt_4 rfl (lv_at hl 2 rfl) ?_
  refine gxV_i (rest := [.int 0, .ref o]) X hE (c_X6_burstAt l hlt D cy ss ad ((o, .inl (cy 2, 1, .inr (.inl f))) :: rest) C q1 q2) gy_X6_burstAt gL_burstAt_X6_burstAt ⟨rfl, rfl, Nat.le_of_ble_eq_true rfl, Nat.le_of_ble_eq_true rfl⟩ 92 rfl rfl rfl hl rfl (Nat.le_of_ble_eq_true rfl) dL_burstAt_5 ⟨Nat.le_of_ble_eq_true rfl, Nat.le_of_ble_eq_true rfl⟩ hw (fun E ce q9 u H locs hp hw h1 h2 h3 => ?_) (fun r u H locs hr hw => ?_)
  · obtain ⟨hp, hm⟩ := hp
    rcases List.mem_cons.mp hm with rfl | hm
    · skip
      refine vx_catch (own := RL) (name := "java/lang/IndexOutOfBoundsException") X.2.2.2.2.1 [] ⟨0, 10, 13, 13⟩ [⟨0, 10, 17, 49⟩] htab (fun z hz => absurd hz List.not_mem_nil) rfl (by decide) (X.2.2.2.2.2.1 (Cond.classLink RL 13 "java/lang/IndexOutOfBoundsException") (List.mem_of_getElem? (i := 1) rfl)) ((hE.2.2.2.2.2.2.1).use rfl) h1 h2 h3 ?_
      refine lv_astore (lv' := [(4, .ref q9), (0, .ref (ad 92)), (1, .int q1), (2, .int q2), (3, .ref o)]) hx hb dL_burstAt_13 hl (by decide) rfl (fun ls hl => ?_)
      refine lv_iconst (v := 1) hx hb dL_burstAt_15 (by decide) ?_
      exact hret _ _ f _ _ _ _ _ dL_burstAt_16 ⟨by rw [hp]; exact (by decide : (1 : Int32) = wrK ["java/lang/IndexOutOfBoundsException", "java/util/NoSuchElementException"] "java/lang/IndexOutOfBoundsException"), by rw [hp]; rfl⟩ hw (Nat.le_of_ble_eq_true rfl) (Nat.le_of_ble_eq_true rfl)
    rcases List.mem_singleton.mp hm with rfl
    refine vx_catch (own := RL) (name := "java/util/NoSuchElementException") X.2.2.2.2.1 [⟨0, 10, 13, 13⟩] ⟨0, 10, 17, 49⟩ [] htab (fun z hz => by rcases List.mem_singleton.mp hz with rfl; exact Or.inr ⟨by decide, _, X.2.2.2.2.2.1 (Cond.classLink RL 13 "java/lang/IndexOutOfBoundsException") (List.mem_of_getElem? (i := 1) rfl), hE.2.2.2.2.2.2.2.2.2.2.2.2.2.2.1⟩) rfl (by decide) (X.2.2.2.2.2.1 (Cond.classLink RL 49 "java/util/NoSuchElementException") (List.mem_of_getElem? (i := 2) rfl)) ((hE.2.2.2.2.2.2.2.2.2.1).use rfl) h1 h2 h3 ?_
    refine lv_astore (lv' := [(4, .ref q9), (0, .ref (ad 92)), (1, .int q1), (2, .int q2), (3, .ref o)]) hx hb dL_burstAt_17 hl (by decide) rfl (fun ls hl => ?_)
    refine lv_iconst (v := 2) hx hb dL_burstAt_19 (by decide) ?_
    exact hret _ _ f _ _ _ _ _ dL_burstAt_20 ⟨by rw [hp]; exact (by decide : (2 : Int32) = wrK ["java/lang/IndexOutOfBoundsException", "java/util/NoSuchElementException"] "java/util/NoSuchElementException"), by rw [hp]; rfl⟩ hw (Nat.le_of_ble_eq_true rfl) (Nat.le_of_ble_eq_true rfl)
  · skip
    refine lv_i2l (v := r.toInt64) hx hb dL_burstAt_8 rfl ?_
    refine g_lastk (k := 0) (w' := CW cy ad C ++ ((o, .inl (cy 2, 1, .inr (.inl (vp_updL f 0 r.toInt64)))) :: rest)) rfl X hw 102 rfl (vk rfl) rfl dL_burstAt_9 (fun H locs hw => ?_)
    refine lv_goto (tgt := 21) hx hb dL_burstAt_10 (by decide) ?_
    refine lv_iconst (v := 0) hx hb dL_burstAt_21 (by decide) ?_
    exact hret _ _ (vp_updL f 0 r.toInt64) _ _ _ _ _ dL_burstAt_22 ⟨by rw [hr]; rfl, by rw [hr]; rfl⟩ hw (Nat.le_of_ble_eq_true rfl) (Nat.le_of_ble_eq_true rfl)
theorem gy_L_joined : gYW yL_joined RL cL_joined 5 [(0, 10, 13, 13), (0, 10, 17, 15), (0, 10, 21, 49)] wsL_joined 4 := ⟨⟨_, rfl⟩, rfl, by decide +kernel, by decide +kernel, by decide +kernel⟩
abbrev rmL_joined : Room := { frames := 8, cells := 3, slots := 18, locals := 244 }
set_option maxHeartbeats 4000000 in
set_option maxRecDepth 100000 in
theorem c_L_joined (l : Launch) (hlt : l.stackTraces = false) (D : va_G) (cy : Nat → ClassId) (ss : Nat → Nat) (ad : Nat → Nat) (o : Nat) (rest : va_W) (C : CS) (f : Nat → Int64) (q1 : Int32) (q2 : Int32) : GWi l yL_joined wsL_joined rmL_joined D cy ss [.ref (ad 92), .int q1, .int q2, .ref o] (CW cy ad C ++ ((o, .inl (cy 2, 1, .inr (.inl f))) :: rest)) (fun (r : Int32) (u : (Nat → Int64)) => r = wrC ["java/lang/IndexOutOfBoundsException", "java/lang/IllegalArgumentException", "java/util/NoSuchElementException"] (F_X6_joined C q1 q2) ∧ u = wrO vp_updL f (fun v : Int32 => v.toInt64) (F_X6_joined C q1 q2)) (fun u => CW cy ad C ++ ((o, .inl (cy 2, 1, .inr (.inl u))) :: rest)) 3 18 := by
  refine GWi.intro cL_joined 5 RL [(0, 10, 13, 13), (0, 10, 17, 15), (0, 10, 21, 49)] (by decide) rfl rfl (Nat.le_of_ble_eq_true rfl) ?_
  intro p e s m args below meth c A Q ls X hE htab hret hl hw
  have hx := X.1
  have hb := X.2.1
  have hl : lv_has ls 5 [(0, .ref (ad 92)), (1, .int q1), (2, .int q2), (3, .ref o)] := hl
  refine lv_aload_n hx hb dL_joined_0 rfl (lv_at hl 3 rfl) ?_
  refine lv_iconst (v := 0) hx hb dL_joined_1 (by decide) ?_
  refine lv_aload_n hx hb dL_joined_2 rfl (lv_at hl 0 rfl) ?_
  refine lv_iload_n hx hb dL_joined_3 rfl (lv_at hl 1 rfl) ?_
  refine lv_iload_n hx hb dL_joined_4 rfl (lv_at hl 2 rfl) ?_
  refine gxV_i (rest := [.int 0, .ref o]) X hE (c_X6_joined l hlt D cy ss ad ((o, .inl (cy 2, 1, .inr (.inl f))) :: rest) C q1 q2) gy_X6_joined gL_joined_X6_joined ⟨rfl, rfl, Nat.le_of_ble_eq_true rfl, Nat.le_of_ble_eq_true rfl⟩ 92 rfl rfl rfl hl rfl (Nat.le_of_ble_eq_true rfl) dL_joined_5 ⟨Nat.le_of_ble_eq_true rfl, Nat.le_of_ble_eq_true rfl⟩ hw (fun E ce q9 u H locs hp hw h1 h2 h3 => ?_) (fun r u H locs hr hw => ?_)
  · obtain ⟨hp, hm⟩ := hp
    rcases List.mem_cons.mp hm with rfl | hm
    · skip
      refine vx_catch (own := RL) (name := "java/lang/IndexOutOfBoundsException") X.2.2.2.2.1 [] ⟨0, 10, 13, 13⟩ [⟨0, 10, 17, 15⟩, ⟨0, 10, 21, 49⟩] htab (fun z hz => absurd hz List.not_mem_nil) rfl (by decide) (X.2.2.2.2.2.1 (Cond.classLink RL 13 "java/lang/IndexOutOfBoundsException") (List.mem_of_getElem? (i := 1) rfl)) ((hE.2.2.2.2.2.2.1).use rfl) h1 h2 h3 ?_
      refine lv_astore (lv' := [(4, .ref q9), (0, .ref (ad 92)), (1, .int q1), (2, .int q2), (3, .ref o)]) hx hb dL_joined_13 hl (by decide) rfl (fun ls hl => ?_)
      refine lv_iconst (v := 1) hx hb dL_joined_15 (by decide) ?_
      exact hret _ _ f _ _ _ _ _ dL_joined_16 ⟨by rw [hp]; exact (by decide : (1 : Int32) = wrK ["java/lang/IndexOutOfBoundsException", "java/lang/IllegalArgumentException", "java/util/NoSuchElementException"] "java/lang/IndexOutOfBoundsException"), by rw [hp]; rfl⟩ hw (Nat.le_of_ble_eq_true rfl) (Nat.le_of_ble_eq_true rfl)
    rcases List.mem_cons.mp hm with rfl | hm
    · skip
      refine vx_catch (own := RL) (name := "java/lang/IllegalArgumentException") X.2.2.2.2.1 [⟨0, 10, 13, 13⟩] ⟨0, 10, 17, 15⟩ [⟨0, 10, 21, 49⟩] htab (fun z hz => by rcases List.mem_singleton.mp hz with rfl; exact Or.inr ⟨by decide, _, X.2.2.2.2.2.1 (Cond.classLink RL 13 "java/lang/IndexOutOfBoundsException") (List.mem_of_getElem? (i := 1) rfl), hE.2.2.2.2.2.2.2.2.2.2.2.1⟩) rfl (by decide) (X.2.2.2.2.2.1 (Cond.classLink RL 15 "java/lang/IllegalArgumentException") (List.mem_of_getElem? (i := 2) rfl)) ((hE.2.2.2.2.2.2.2.1).use rfl) h1 h2 h3 ?_
      refine lv_astore (lv' := [(4, .ref q9), (0, .ref (ad 92)), (1, .int q1), (2, .int q2), (3, .ref o)]) hx hb dL_joined_17 hl (by decide) rfl (fun ls hl => ?_)
      refine lv_iconst (v := 2) hx hb dL_joined_19 (by decide) ?_
      exact hret _ _ f _ _ _ _ _ dL_joined_20 ⟨by rw [hp]; exact (by decide : (2 : Int32) = wrK ["java/lang/IndexOutOfBoundsException", "java/lang/IllegalArgumentException", "java/util/NoSuchElementException"] "java/lang/IllegalArgumentException"), by rw [hp]; rfl⟩ hw (Nat.le_of_ble_eq_true rfl) (Nat.le_of_ble_eq_true rfl)
    rcases List.mem_singleton.mp hm with rfl
    refine vx_catch (own := RL) (name := "java/util/NoSuchElementException") X.2.2.2.2.1 [⟨0, 10, 13, 13⟩, ⟨0, 10, 17, 15⟩] ⟨0, 10, 21, 49⟩ [] htab (fun z hz => by rcases List.mem_cons.mp hz with rfl | hz; exact Or.inr ⟨by decide, _, X.2.2.2.2.2.1 (Cond.classLink RL 13 "java/lang/IndexOutOfBoundsException") (List.mem_of_getElem? (i := 1) rfl), hE.2.2.2.2.2.2.2.2.2.2.2.2.2.2.1⟩; rcases List.mem_singleton.mp hz with rfl; exact Or.inr ⟨by decide, _, X.2.2.2.2.2.1 (Cond.classLink RL 15 "java/lang/IllegalArgumentException") (List.mem_of_getElem? (i := 2) rfl), hE.2.2.2.2.2.2.2.2.2.2.2.2.2.2.2.1⟩) rfl (by decide) (X.2.2.2.2.2.1 (Cond.classLink RL 49 "java/util/NoSuchElementException") (List.mem_of_getElem? (i := 3) rfl)) ((hE.2.2.2.2.2.2.2.2.2.1).use rfl) h1 h2 h3 ?_
    refine lv_astore (lv' := [(4, .ref q9), (0, .ref (ad 92)), (1, .int q1), (2, .int q2), (3, .ref o)]) hx hb dL_joined_21 hl (by decide) rfl (fun ls hl => ?_)
    refine lv_iconst (v := 3) hx hb dL_joined_23 (by decide) ?_
    exact hret _ _ f _ _ _ _ _ dL_joined_24 ⟨by rw [hp]; exact (by decide : (3 : Int32) = wrK ["java/lang/IndexOutOfBoundsException", "java/lang/IllegalArgumentException", "java/util/NoSuchElementException"] "java/util/NoSuchElementException"), by rw [hp]; rfl⟩ hw (Nat.le_of_ble_eq_true rfl) (Nat.le_of_ble_eq_true rfl)
  · skip
    refine lv_i2l (v := r.toInt64) hx hb dL_joined_8 rfl ?_
    refine g_lastk (k := 0) (w' := CW cy ad C ++ ((o, .inl (cy 2, 1, .inr (.inl (vp_updL f 0 r.toInt64)))) :: rest)) rfl X hw 102 rfl (vk rfl) rfl dL_joined_9 (fun H locs hw => ?_)
    refine lv_goto (tgt := 25) hx hb dL_joined_10 (by decide) ?_
    refine lv_iconst (v := 0) hx hb dL_joined_25 (by decide) ?_
    exact hret _ _ (vp_updL f 0 r.toInt64) _ _ _ _ _ dL_joined_26 ⟨by rw [hr]; rfl, by rw [hr]; rfl⟩ hw (Nat.le_of_ble_eq_true rfl) (Nat.le_of_ble_eq_true rfl)
theorem gy_L_record : gYW yL_record RL cL_record 6 [(0, 12, 15, 13), (0, 12, 19, 49)] wsL_record 5 := ⟨⟨_, rfl⟩, rfl, by decide +kernel, by decide +kernel, by decide +kernel⟩
abbrev rmL_record : Room := { frames := 8, cells := 2, slots := 12, locals := 245 }
set_option maxHeartbeats 4000000 in
set_option maxRecDepth 100000 in
theorem c_L_record (l : Launch) (hlt : l.stackTraces = false) (D : va_G) (cy : Nat → ClassId) (ss : Nat → Nat) (ad : Nat → Nat) (o : Nat) (rest : va_W) (C : CS) (f : Nat → Int64) (q1 : Int32) (q2 : Int32) (q3 : Int32) : GWi l yL_record wsL_record rmL_record D cy ss [.ref (ad 92), .int q1, .int q2, .int q3, .ref o] (CW cy ad C ++ ((o, .inl (cy 2, 1, .inr (.inl f))) :: rest)) (fun (r : Int32) (u : (Nat → Int64)) => r = wrC ["java/lang/IndexOutOfBoundsException", "java/util/NoSuchElementException"] (F_X6_record C q1 q2 q3) ∧ u = wrO vp_updL f (fun v : Int32 => v.toInt64) (F_X6_record C q1 q2 q3)) (fun u => CW cy ad C ++ ((o, .inl (cy 2, 1, .inr (.inl u))) :: rest)) 2 12 := by
  refine GWi.intro cL_record 6 RL [(0, 12, 15, 13), (0, 12, 19, 49)] (by decide) rfl rfl (Nat.le_of_ble_eq_true rfl) ?_
  intro p e s m args below meth c A Q ls X hE htab hret hl hw
  have hx := X.1
  have hb := X.2.1
  have hl : lv_has ls 6 [(0, .ref (ad 92)), (1, .int q1), (2, .int q2), (3, .int q3), (4, .ref o)] := hl
  refine lv_aload hx hb dL_record_0 (lv_at hl 4 rfl) ?_
  refine lv_iconst (v := 0) hx hb dL_record_2 (by decide) ?_
  refine lv_aload_n hx hb dL_record_3 rfl (lv_at hl 0 rfl) ?_
  refine lv_iload_n hx hb dL_record_4 rfl (lv_at hl 1 rfl) ?_
  refine lv_iload_n hx hb dL_record_5 rfl (lv_at hl 2 rfl) ?_
  refine lv_iload_n hx hb dL_record_6 rfl (lv_at hl 3 rfl) ?_
  refine gxV_i (rest := [.int 0, .ref o]) X hE (c_X6_record l hlt D cy ss ad ((o, .inl (cy 2, 1, .inr (.inl f))) :: rest) C q1 q2 q3) gy_X6_record gL_record_X6_record ⟨rfl, rfl, Nat.le_of_ble_eq_true rfl, Nat.le_of_ble_eq_true rfl⟩ 92 rfl rfl rfl hl rfl (Nat.le_of_ble_eq_true rfl) dL_record_7 ⟨Nat.le_of_ble_eq_true rfl, Nat.le_of_ble_eq_true rfl⟩ hw (fun E ce q9 u H locs hp hw h1 h2 h3 => ?_) (fun r u H locs hr hw => ?_)
  · obtain ⟨hp, hm⟩ := hp
    rcases List.mem_cons.mp hm with rfl | hm
    · skip
      refine vx_catch (own := RL) (name := "java/lang/IndexOutOfBoundsException") X.2.2.2.2.1 [] ⟨0, 12, 15, 13⟩ [⟨0, 12, 19, 49⟩] htab (fun z hz => absurd hz List.not_mem_nil) rfl (by decide) (X.2.2.2.2.2.1 (Cond.classLink RL 13 "java/lang/IndexOutOfBoundsException") (List.mem_of_getElem? (i := 1) rfl)) ((hE.2.2.2.2.2.2.1).use rfl) h1 h2 h3 ?_
      refine lv_astore (lv' := [(5, .ref q9), (0, .ref (ad 92)), (1, .int q1), (2, .int q2), (3, .int q3), (4, .ref o)]) hx hb dL_record_15 hl (by decide) rfl (fun ls hl => ?_)
      refine lv_iconst (v := 1) hx hb dL_record_17 (by decide) ?_
      exact hret _ _ f _ _ _ _ _ dL_record_18 ⟨by rw [hp]; exact (by decide : (1 : Int32) = wrK ["java/lang/IndexOutOfBoundsException", "java/util/NoSuchElementException"] "java/lang/IndexOutOfBoundsException"), by rw [hp]; rfl⟩ hw (Nat.le_of_ble_eq_true rfl) (Nat.le_of_ble_eq_true rfl)
    rcases List.mem_singleton.mp hm with rfl
    refine vx_catch (own := RL) (name := "java/util/NoSuchElementException") X.2.2.2.2.1 [⟨0, 12, 15, 13⟩] ⟨0, 12, 19, 49⟩ [] htab (fun z hz => by rcases List.mem_singleton.mp hz with rfl; exact Or.inr ⟨by decide, _, X.2.2.2.2.2.1 (Cond.classLink RL 13 "java/lang/IndexOutOfBoundsException") (List.mem_of_getElem? (i := 1) rfl), hE.2.2.2.2.2.2.2.2.2.2.2.2.2.2.1⟩) rfl (by decide) (X.2.2.2.2.2.1 (Cond.classLink RL 49 "java/util/NoSuchElementException") (List.mem_of_getElem? (i := 2) rfl)) ((hE.2.2.2.2.2.2.2.2.2.1).use rfl) h1 h2 h3 ?_
    refine lv_astore (lv' := [(5, .ref q9), (0, .ref (ad 92)), (1, .int q1), (2, .int q2), (3, .int q3), (4, .ref o)]) hx hb dL_record_19 hl (by decide) rfl (fun ls hl => ?_)
    refine lv_iconst (v := 2) hx hb dL_record_21 (by decide) ?_
    exact hret _ _ f _ _ _ _ _ dL_record_22 ⟨by rw [hp]; exact (by decide : (2 : Int32) = wrK ["java/lang/IndexOutOfBoundsException", "java/util/NoSuchElementException"] "java/util/NoSuchElementException"), by rw [hp]; rfl⟩ hw (Nat.le_of_ble_eq_true rfl) (Nat.le_of_ble_eq_true rfl)
  · skip
    refine lv_i2l (v := r.toInt64) hx hb dL_record_10 rfl ?_
    refine g_lastk (k := 0) (w' := CW cy ad C ++ ((o, .inl (cy 2, 1, .inr (.inl (vp_updL f 0 r.toInt64)))) :: rest)) rfl X hw 102 rfl (vk rfl) rfl dL_record_11 (fun H locs hw => ?_)
    refine lv_goto (tgt := 23) hx hb dL_record_12 (by decide) ?_
    refine lv_iconst (v := 0) hx hb dL_record_23 (by decide) ?_
    exact hret _ _ (vp_updL f 0 r.toInt64) _ _ _ _ _ dL_record_24 ⟨by rw [hr]; rfl, by rw [hr]; rfl⟩ hw (Nat.le_of_ble_eq_true rfl) (Nat.le_of_ble_eq_true rfl)
theorem gy_L_closesAt : gYW yL_closesAt RL cL_closesAt 4 [(0, 9, 12, 13), (0, 9, 15, 31)] wsL_closesAt 3 := ⟨⟨_, rfl⟩, rfl, by decide +kernel, by decide +kernel, by decide +kernel⟩
abbrev rmL_closesAt : Room := { frames := 8, cells := 2, slots := 12, locals := 242 }
set_option maxHeartbeats 4000000 in
set_option maxRecDepth 100000 in
theorem c_L_closesAt (l : Launch) (hlt : l.stackTraces = false) (D : va_G) (cy : Nat → ClassId) (ss : Nat → Nat) (ad : Nat → Nat) (o : Nat) (rest : va_W) (C : CS) (f : Nat → Int64) (q1 : Int32) : GWi l yL_closesAt wsL_closesAt rmL_closesAt D cy ss [.ref (ad 92), .int q1, .ref o] (CW cy ad C ++ ((o, .inl (cy 2, 1, .inr (.inl f))) :: rest)) (fun (r : Int32) (u : (Nat → Int64)) => r = wrC ["java/lang/IndexOutOfBoundsException", "java/lang/IllegalStateException"] (F_X6_closesAt C q1) ∧ u = wrO vp_updL f (fun v : Int32 => v.toInt64) (F_X6_closesAt C q1)) (fun u => CW cy ad C ++ ((o, .inl (cy 2, 1, .inr (.inl u))) :: rest)) 2 12 := by
  refine GWi.intro cL_closesAt 4 RL [(0, 9, 12, 13), (0, 9, 15, 31)] (by decide) rfl rfl (Nat.le_of_ble_eq_true rfl) ?_
  intro p e s m args below meth c A Q ls X hE htab hret hl hw
  have hx := X.1
  have hb := X.2.1
  have hl : lv_has ls 4 [(0, .ref (ad 92)), (1, .int q1), (2, .ref o)] := hl
  refine lv_aload_n hx hb dL_closesAt_0 rfl (lv_at hl 2 rfl) ?_
  refine lv_iconst (v := 0) hx hb dL_closesAt_1 (by decide) ?_
  refine lv_aload_n hx hb dL_closesAt_2 rfl (lv_at hl 0 rfl) ?_
  refine lv_iload_n hx hb dL_closesAt_3 rfl (lv_at hl 1 rfl) ?_
  refine gxV_i (rest := [.int 0, .ref o]) X hE (c_X6_closesAt l hlt D cy ss ad ((o, .inl (cy 2, 1, .inr (.inl f))) :: rest) C q1) gy_X6_closesAt gL_closesAt_X6_closesAt ⟨rfl, rfl, Nat.le_of_ble_eq_true rfl, Nat.le_of_ble_eq_true rfl⟩ 92 rfl rfl rfl hl rfl (Nat.le_of_ble_eq_true rfl) dL_closesAt_4 ⟨Nat.le_of_ble_eq_true rfl, Nat.le_of_ble_eq_true rfl⟩ hw (fun E ce q9 u H locs hp hw h1 h2 h3 => ?_) (fun r u H locs hr hw => ?_)
  · obtain ⟨hp, hm⟩ := hp
    rcases List.mem_cons.mp hm with rfl | hm
    · skip
      refine vx_catch (own := RL) (name := "java/lang/IndexOutOfBoundsException") X.2.2.2.2.1 [] ⟨0, 9, 12, 13⟩ [⟨0, 9, 15, 31⟩] htab (fun z hz => absurd hz List.not_mem_nil) rfl (by decide) (X.2.2.2.2.2.1 (Cond.classLink RL 13 "java/lang/IndexOutOfBoundsException") (List.mem_of_getElem? (i := 1) rfl)) ((hE.2.2.2.2.2.2.1).use rfl) h1 h2 h3 ?_
      refine lv_astore_n (lv' := [(3, .ref q9), (0, .ref (ad 92)), (1, .int q1), (2, .ref o)]) hx hb dL_closesAt_12 rfl hl (by decide) rfl (fun ls hl => ?_)
      refine lv_iconst (v := 1) hx hb dL_closesAt_13 (by decide) ?_
      exact hret _ _ f _ _ _ _ _ dL_closesAt_14 ⟨by rw [hp]; exact (by decide : (1 : Int32) = wrK ["java/lang/IndexOutOfBoundsException", "java/lang/IllegalStateException"] "java/lang/IndexOutOfBoundsException"), by rw [hp]; rfl⟩ hw (Nat.le_of_ble_eq_true rfl) (Nat.le_of_ble_eq_true rfl)
    rcases List.mem_singleton.mp hm with rfl
    refine vx_catch (own := RL) (name := "java/lang/IllegalStateException") X.2.2.2.2.1 [⟨0, 9, 12, 13⟩] ⟨0, 9, 15, 31⟩ [] htab (fun z hz => by rcases List.mem_singleton.mp hz with rfl; exact Or.inr ⟨by decide, _, X.2.2.2.2.2.1 (Cond.classLink RL 13 "java/lang/IndexOutOfBoundsException") (List.mem_of_getElem? (i := 1) rfl), hE.2.2.2.2.2.2.2.2.2.2.2.2.1⟩) rfl (by decide) (X.2.2.2.2.2.1 (Cond.classLink RL 31 "java/lang/IllegalStateException") (List.mem_of_getElem? (i := 2) rfl)) ((hE.2.2.2.2.2.2.2.2.1).use rfl) h1 h2 h3 ?_
    refine lv_astore_n (lv' := [(3, .ref q9), (0, .ref (ad 92)), (1, .int q1), (2, .ref o)]) hx hb dL_closesAt_15 rfl hl (by decide) rfl (fun ls hl => ?_)
    refine lv_iconst (v := 2) hx hb dL_closesAt_16 (by decide) ?_
    exact hret _ _ f _ _ _ _ _ dL_closesAt_17 ⟨by rw [hp]; exact (by decide : (2 : Int32) = wrK ["java/lang/IndexOutOfBoundsException", "java/lang/IllegalStateException"] "java/lang/IllegalStateException"), by rw [hp]; rfl⟩ hw (Nat.le_of_ble_eq_true rfl) (Nat.le_of_ble_eq_true rfl)
  · skip
    refine lv_i2l (v := r.toInt64) hx hb dL_closesAt_7 rfl ?_
    refine g_lastk (k := 0) (w' := CW cy ad C ++ ((o, .inl (cy 2, 1, .inr (.inl (vp_updL f 0 r.toInt64)))) :: rest)) rfl X hw 102 rfl (vk rfl) rfl dL_closesAt_8 (fun H locs hw => ?_)
    refine lv_goto (tgt := 18) hx hb dL_closesAt_9 (by decide) ?_
    refine lv_iconst (v := 0) hx hb dL_closesAt_18 (by decide) ?_
    exact hret _ _ (vp_updL f 0 r.toInt64) _ _ _ _ _ dL_closesAt_19 ⟨by rw [hr]; rfl, by rw [hr]; rfl⟩ hw (Nat.le_of_ble_eq_true rfl) (Nat.le_of_ble_eq_true rfl)
theorem gy_L_nextClosing : gYW yL_nextClosing RL cL_nextClosing 3 [(0, 8, 11, 49)] wsL_nextClosing 2 := ⟨⟨_, rfl⟩, rfl, by decide +kernel, by decide +kernel, by decide +kernel⟩
abbrev rmL_nextClosing : Room := { frames := 8, cells := 1, slots := 6, locals := 240 }
set_option maxHeartbeats 4000000 in
set_option maxRecDepth 100000 in
theorem c_L_nextClosing (l : Launch) (hlt : l.stackTraces = false) (D : va_G) (cy : Nat → ClassId) (ss : Nat → Nat) (ad : Nat → Nat) (o : Nat) (rest : va_W) (C : CS) (f : Nat → Int64) : GWi l yL_nextClosing wsL_nextClosing rmL_nextClosing D cy ss [.ref (ad 92), .ref o] (CW cy ad C ++ ((o, .inl (cy 2, 1, .inr (.inl f))) :: rest)) (fun (r : Int32) (u : (Nat → Int64)) => r = wrC ["java/util/NoSuchElementException"] (F_X6_nextClosing C) ∧ u = wrO vp_updL f (fun v : Int32 => v.toInt64) (F_X6_nextClosing C)) (fun u => CW cy ad C ++ ((o, .inl (cy 2, 1, .inr (.inl u))) :: rest)) 1 6 := by
  refine GWi.intro cL_nextClosing 3 RL [(0, 8, 11, 49)] (by decide) rfl rfl (Nat.le_of_ble_eq_true rfl) ?_
  intro p e s m args below meth c A Q ls X hE htab hret hl hw
  have hx := X.1
  have hb := X.2.1
  have hl : lv_has ls 3 [(0, .ref (ad 92)), (1, .ref o)] := hl
  refine lv_aload_n hx hb dL_nextClosing_0 rfl (lv_at hl 1 rfl) ?_
  refine lv_iconst (v := 0) hx hb dL_nextClosing_1 (by decide) ?_
  refine lv_aload_n hx hb dL_nextClosing_2 rfl (lv_at hl 0 rfl) ?_
  refine gxV_i (rest := [.int 0, .ref o]) X hE (c_X6_nextClosing l hlt D cy ss ad ((o, .inl (cy 2, 1, .inr (.inl f))) :: rest) C) gy_X6_nextClosing gL_nextClosing_X6_nextClosing ⟨rfl, rfl, Nat.le_of_ble_eq_true rfl, Nat.le_of_ble_eq_true rfl⟩ 92 rfl rfl rfl hl rfl (Nat.le_of_ble_eq_true rfl) dL_nextClosing_3 ⟨Nat.le_of_ble_eq_true rfl, Nat.le_of_ble_eq_true rfl⟩ hw (fun E ce q9 u H locs hp hw h1 h2 h3 => ?_) (fun r u H locs hr hw => ?_)
  · obtain ⟨hp, hm⟩ := hp
    rcases List.mem_singleton.mp hm with rfl
    refine vx_catch (own := RL) (name := "java/util/NoSuchElementException") X.2.2.2.2.1 [] ⟨0, 8, 11, 49⟩ [] htab (fun z hz => absurd hz List.not_mem_nil) rfl (by decide) (X.2.2.2.2.2.1 (Cond.classLink RL 49 "java/util/NoSuchElementException") (List.mem_of_getElem? (i := 1) rfl)) ((hE.2.2.2.2.2.2.2.2.2.1).use rfl) h1 h2 h3 ?_
    refine lv_astore_n (lv' := [(2, .ref q9), (0, .ref (ad 92)), (1, .ref o)]) hx hb dL_nextClosing_11 rfl hl (by decide) rfl (fun ls hl => ?_)
    refine lv_iconst (v := 1) hx hb dL_nextClosing_12 (by decide) ?_
    exact hret _ _ f _ _ _ _ _ dL_nextClosing_13 ⟨by rw [hp]; exact (by decide : (1 : Int32) = wrK ["java/util/NoSuchElementException"] "java/util/NoSuchElementException"), by rw [hp]; rfl⟩ hw (Nat.le_of_ble_eq_true rfl) (Nat.le_of_ble_eq_true rfl)
  · skip
    refine lv_i2l (v := r.toInt64) hx hb dL_nextClosing_6 rfl ?_
    refine g_lastk (k := 0) (w' := CW cy ad C ++ ((o, .inl (cy 2, 1, .inr (.inl (vp_updL f 0 r.toInt64)))) :: rest)) rfl X hw 102 rfl (vk rfl) rfl dL_nextClosing_7 (fun H locs hw => ?_)
    refine lv_goto (tgt := 14) hx hb dL_nextClosing_8 (by decide) ?_
    refine lv_iconst (v := 0) hx hb dL_nextClosing_14 (by decide) ?_
    exact hret _ _ (vp_updL f 0 r.toInt64) _ _ _ _ _ dL_nextClosing_15 ⟨by rw [hr]; rfl, by rw [hr]; rfl⟩ hw (Nat.le_of_ble_eq_true rfl) (Nat.le_of_ble_eq_true rfl)
theorem gy_L_averageLength : gYW yL_averageLength RL cL_averageLength 4 [(0, 8, 11, 13), (0, 8, 14, 69)] wsL_averageLength 3 := ⟨⟨_, rfl⟩, rfl, by decide +kernel, by decide +kernel, by decide +kernel⟩
abbrev rmL_averageLength : Room := { frames := 8, cells := 2, slots := 12, locals := 242 }
set_option maxHeartbeats 4000000 in
set_option maxRecDepth 100000 in
theorem c_L_averageLength (l : Launch) (hlt : l.stackTraces = false) (D : va_G) (cy : Nat → ClassId) (ss : Nat → Nat) (ad : Nat → Nat) (z0 : Nat × va_E) (o : Nat) (rest : va_W) (C : CS) (f : Nat → UInt64) (q1 : Int32) : GWi l yL_averageLength wsL_averageLength rmL_averageLength D cy ss [.ref (ad 92), .int q1, .ref o] (CW cy ad C ++ (z0 :: (o, .inl (cy 3, 1, .inr (.inr (.inr (.inl f))))) :: rest)) (fun (r : Int32) (u : (Nat → UInt64)) => r = wrC ["java/lang/IndexOutOfBoundsException", "java/lang/ArithmeticException"] (F_X6_averageLength C q1) ∧ u = wrO vf_upd f (fun v : UInt64 => v) (F_X6_averageLength C q1)) (fun u => CW cy ad C ++ (z0 :: (o, .inl (cy 3, 1, .inr (.inr (.inr (.inl u))))) :: rest)) 2 12 := by
  refine GWi.intro cL_averageLength 4 RL [(0, 8, 11, 13), (0, 8, 14, 69)] (by decide) rfl rfl (Nat.le_of_ble_eq_true rfl) ?_
  intro p e s m args below meth c A Q ls X hE htab hret hl hw
  have hx := X.1
  have hb := X.2.1
  have hl : lv_has ls 4 [(0, .ref (ad 92)), (1, .int q1), (2, .ref o)] := hl
  refine lv_aload_n hx hb dL_averageLength_0 rfl (lv_at hl 2 rfl) ?_
  refine lv_iconst (v := 0) hx hb dL_averageLength_1 (by decide) ?_
  refine lv_aload_n hx hb dL_averageLength_2 rfl (lv_at hl 0 rfl) ?_
  refine lv_iload_n hx hb dL_averageLength_3 rfl (lv_at hl 1 rfl) ?_
  refine gxV_d (rest := [.int 0, .ref o]) X hE (c_X6_averageLength l hlt D cy ss ad (z0 :: (o, .inl (cy 3, 1, .inr (.inr (.inr (.inl f))))) :: rest) C q1) gy_X6_averageLength gL_averageLength_X6_averageLength ⟨rfl, rfl, Nat.le_of_ble_eq_true rfl, Nat.le_of_ble_eq_true rfl⟩ 92 rfl rfl rfl hl rfl (Nat.le_of_ble_eq_true rfl) dL_averageLength_4 ⟨Nat.le_of_ble_eq_true rfl, Nat.le_of_ble_eq_true rfl⟩ hw (fun E ce q9 u H locs hp hw h1 h2 h3 => ?_) (fun r u H locs hr hw => ?_)
  · obtain ⟨hp, hm⟩ := hp
    rcases List.mem_cons.mp hm with rfl | hm
    · skip
      refine vx_catch (own := RL) (name := "java/lang/IndexOutOfBoundsException") X.2.2.2.2.1 [] ⟨0, 8, 11, 13⟩ [⟨0, 8, 14, 69⟩] htab (fun z hz => absurd hz List.not_mem_nil) rfl (by decide) (X.2.2.2.2.2.1 (Cond.classLink RL 13 "java/lang/IndexOutOfBoundsException") (List.mem_of_getElem? (i := 1) rfl)) ((hE.2.2.2.2.2.2.1).use rfl) h1 h2 h3 ?_
      refine lv_astore_n (lv' := [(3, .ref q9), (0, .ref (ad 92)), (1, .int q1), (2, .ref o)]) hx hb dL_averageLength_11 rfl hl (by decide) rfl (fun ls hl => ?_)
      refine lv_iconst (v := 1) hx hb dL_averageLength_12 (by decide) ?_
      exact hret _ _ f _ _ _ _ _ dL_averageLength_13 ⟨by rw [hp]; exact (by decide : (1 : Int32) = wrK ["java/lang/IndexOutOfBoundsException", "java/lang/ArithmeticException"] "java/lang/IndexOutOfBoundsException"), by rw [hp]; rfl⟩ hw (Nat.le_of_ble_eq_true rfl) (Nat.le_of_ble_eq_true rfl)
    rcases List.mem_singleton.mp hm with rfl
    refine vx_catch (own := RL) (name := "java/lang/ArithmeticException") X.2.2.2.2.1 [⟨0, 8, 11, 13⟩] ⟨0, 8, 14, 69⟩ [] htab (fun z hz => by rcases List.mem_singleton.mp hz with rfl; exact Or.inr ⟨by decide, _, X.2.2.2.2.2.1 (Cond.classLink RL 13 "java/lang/IndexOutOfBoundsException") (List.mem_of_getElem? (i := 1) rfl), hE.2.2.2.2.2.2.2.2.2.2.2.2.2.2.2.2⟩) rfl (by decide) (X.2.2.2.2.2.1 (Cond.classLink RL 69 "java/lang/ArithmeticException") (List.mem_of_getElem? (i := 2) rfl)) ((hE.2.2.2.2.2.2.2.2.2.2.1).use rfl) h1 h2 h3 ?_
    refine lv_astore_n (lv' := [(3, .ref q9), (0, .ref (ad 92)), (1, .int q1), (2, .ref o)]) hx hb dL_averageLength_14 rfl hl (by decide) rfl (fun ls hl => ?_)
    refine lv_iconst (v := 2) hx hb dL_averageLength_15 (by decide) ?_
    exact hret _ _ f _ _ _ _ _ dL_averageLength_16 ⟨by rw [hp]; exact (by decide : (2 : Int32) = wrK ["java/lang/IndexOutOfBoundsException", "java/lang/ArithmeticException"] "java/lang/ArithmeticException"), by rw [hp]; rfl⟩ hw (Nat.le_of_ble_eq_true rfl) (Nat.le_of_ble_eq_true rfl)
  · skip
    refine g_dastk (k := 0) (w' := CW cy ad C ++ (z0 :: (o, .inl (cy 3, 1, .inr (.inr (.inr (.inl (vf_upd f 0 r)))))) :: rest)) rfl X hw 103 rfl (vk rfl) rfl dL_averageLength_7 (fun H locs hw => ?_)
    refine lv_goto (tgt := 17) hx hb dL_averageLength_8 (by decide) ?_
    refine lv_iconst (v := 0) hx hb dL_averageLength_17 (by decide) ?_
    exact hret _ _ (vf_upd f 0 r) _ _ _ _ _ dL_averageLength_18 ⟨by rw [hr]; rfl, by rw [hr]; rfl⟩ hw (Nat.le_of_ble_eq_true rfl) (Nat.le_of_ble_eq_true rfl)
theorem gy_L_regrouped : gYW yL_regrouped RL cL_regrouped 4 [(0, 9, 12, 13)] wsL_regrouped 3 := ⟨⟨_, rfl⟩, rfl, by decide +kernel, by decide +kernel, by decide +kernel⟩
abbrev rmL_regrouped : Room := { frames := 8, cells := 1, slots := 6, locals := 241 }
set_option maxHeartbeats 4000000 in
set_option maxRecDepth 100000 in
theorem c_L_regrouped (l : Launch) (hlt : l.stackTraces = false) (D : va_G) (cy : Nat → ClassId) (ss : Nat → Nat) (ad : Nat → Nat) (o : Nat) (rest : va_W) (C : CS) (f : Nat → Int64) (q1 : Int32) : GWi l yL_regrouped wsL_regrouped rmL_regrouped D cy ss [.ref (ad 92), .int q1, .ref o] (CW cy ad C ++ ((o, .inl (cy 2, 1, .inr (.inl f))) :: rest)) (fun (r : Int32) (u : (Nat → Int64)) => r = wrC ["java/lang/IndexOutOfBoundsException"] (F_X6_regrouped C q1) ∧ u = wrO vp_updL f (fun v : Int32 => v.toInt64) (F_X6_regrouped C q1)) (fun u => CW cy ad C ++ ((o, .inl (cy 2, 1, .inr (.inl u))) :: rest)) 1 6 := by
  refine GWi.intro cL_regrouped 4 RL [(0, 9, 12, 13)] (by decide) rfl rfl (Nat.le_of_ble_eq_true rfl) ?_
  intro p e s m args below meth c A Q ls X hE htab hret hl hw
  have hx := X.1
  have hb := X.2.1
  have hl : lv_has ls 4 [(0, .ref (ad 92)), (1, .int q1), (2, .ref o)] := hl
  refine lv_aload_n hx hb dL_regrouped_0 rfl (lv_at hl 2 rfl) ?_
  refine lv_iconst (v := 0) hx hb dL_regrouped_1 (by decide) ?_
  refine lv_aload_n hx hb dL_regrouped_2 rfl (lv_at hl 0 rfl) ?_
  refine lv_iload_n hx hb dL_regrouped_3 rfl (lv_at hl 1 rfl) ?_
  refine gxV_i (rest := [.int 0, .ref o]) X hE (c_X6_regrouped l hlt D cy ss ad ((o, .inl (cy 2, 1, .inr (.inl f))) :: rest) C q1) gy_X6_regrouped gL_regrouped_X6_regrouped ⟨rfl, rfl, Nat.le_of_ble_eq_true rfl, Nat.le_of_ble_eq_true rfl⟩ 92 rfl rfl rfl hl rfl (Nat.le_of_ble_eq_true rfl) dL_regrouped_4 ⟨Nat.le_of_ble_eq_true rfl, Nat.le_of_ble_eq_true rfl⟩ hw (fun E ce q9 u H locs hp hw h1 h2 h3 => ?_) (fun r u H locs hr hw => ?_)
  · obtain ⟨hp, hm⟩ := hp
    rcases List.mem_singleton.mp hm with rfl
    refine vx_catch (own := RL) (name := "java/lang/IndexOutOfBoundsException") X.2.2.2.2.1 [] ⟨0, 9, 12, 13⟩ [] htab (fun z hz => absurd hz List.not_mem_nil) rfl (by decide) (X.2.2.2.2.2.1 (Cond.classLink RL 13 "java/lang/IndexOutOfBoundsException") (List.mem_of_getElem? (i := 1) rfl)) ((hE.2.2.2.2.2.2.1).use rfl) h1 h2 h3 ?_
    refine lv_astore_n (lv' := [(3, .ref q9), (0, .ref (ad 92)), (1, .int q1), (2, .ref o)]) hx hb dL_regrouped_12 rfl hl (by decide) rfl (fun ls hl => ?_)
    refine lv_iconst (v := 1) hx hb dL_regrouped_13 (by decide) ?_
    exact hret _ _ f _ _ _ _ _ dL_regrouped_14 ⟨by rw [hp]; exact (by decide : (1 : Int32) = wrK ["java/lang/IndexOutOfBoundsException"] "java/lang/IndexOutOfBoundsException"), by rw [hp]; rfl⟩ hw (Nat.le_of_ble_eq_true rfl) (Nat.le_of_ble_eq_true rfl)
  · skip
    refine lv_i2l (v := r.toInt64) hx hb dL_regrouped_7 rfl ?_
    refine g_lastk (k := 0) (w' := CW cy ad C ++ ((o, .inl (cy 2, 1, .inr (.inl (vp_updL f 0 r.toInt64)))) :: rest)) rfl X hw 102 rfl (vk rfl) rfl dL_regrouped_8 (fun H locs hw => ?_)
    refine lv_goto (tgt := 15) hx hb dL_regrouped_9 (by decide) ?_
    refine lv_iconst (v := 0) hx hb dL_regrouped_15 (by decide) ?_
    exact hret _ _ (vp_updL f 0 r.toInt64) _ _ _ _ _ dL_regrouped_16 ⟨by rw [hr]; rfl, by rw [hr]; rfl⟩ hw (Nat.le_of_ble_eq_true rfl) (Nat.le_of_ble_eq_true rfl)
theorem gy_L_fire : gYW yL_fire RL cL_fire 4 [(0, 9, 12, 13), (0, 9, 15, 31)] wsL_fire 3 := ⟨⟨_, rfl⟩, rfl, by decide +kernel, by decide +kernel, by decide +kernel⟩
abbrev rmL_fire : Room := { frames := 8, cells := 2, slots := 12, locals := 242 }
set_option maxHeartbeats 4000000 in
set_option maxRecDepth 100000 in
theorem c_L_fire (l : Launch) (hlt : l.stackTraces = false) (D : va_G) (cy : Nat → ClassId) (ss : Nat → Nat) (ad : Nat → Nat) (o : Nat) (rest : va_W) (C : CS) (f : Nat → Int64) (q1 : Int32) : GWi l yL_fire wsL_fire rmL_fire D cy ss [.ref (ad 92), .int q1, .ref o] (CW cy ad C ++ ((o, .inl (cy 2, 1, .inr (.inl f))) :: rest)) (fun (r : Int32) (u : CS × (Nat → Int64)) => r = wrC ["java/lang/IndexOutOfBoundsException", "java/lang/IllegalStateException"] (F_X6_fire C q1).1 ∧ u.1 = (F_X6_fire C q1).2 ∧ u.2 = wrO vp_updL f (fun v : Int32 => v.toInt64) (F_X6_fire C q1).1) (fun u => CW cy ad u.1 ++ ((o, .inl (cy 2, 1, .inr (.inl u.2))) :: rest)) 2 12 := by
  refine GWi.intro cL_fire 4 RL [(0, 9, 12, 13), (0, 9, 15, 31)] (by decide) rfl rfl (Nat.le_of_ble_eq_true rfl) ?_
  intro p e s m args below meth c A Q ls X hE htab hret hl hw
  have hx := X.1
  have hb := X.2.1
  have hl : lv_has ls 4 [(0, .ref (ad 92)), (1, .int q1), (2, .ref o)] := hl
  refine lv_aload_n hx hb dL_fire_0 rfl (lv_at hl 2 rfl) ?_
  refine lv_iconst (v := 0) hx hb dL_fire_1 (by decide) ?_
  refine lv_aload_n hx hb dL_fire_2 rfl (lv_at hl 0 rfl) ?_
  refine lv_iload_n hx hb dL_fire_3 rfl (lv_at hl 1 rfl) ?_
  refine gxV_i (rest := [.int 0, .ref o]) X hE (c_X6_fire l hlt D cy ss ad ((o, .inl (cy 2, 1, .inr (.inl f))) :: rest) C q1) gy_X6_fire gL_fire_X6_fire ⟨rfl, rfl, Nat.le_of_ble_eq_true rfl, Nat.le_of_ble_eq_true rfl⟩ 92 rfl rfl rfl hl rfl (Nat.le_of_ble_eq_true rfl) dL_fire_4 ⟨Nat.le_of_ble_eq_true rfl, Nat.le_of_ble_eq_true rfl⟩ hw (fun E ce q9 u H locs hp hw h1 h2 h3 => ?_) (fun r u H locs hr hw => ?_)
  · obtain ⟨hp, hm⟩ := hp
    rcases List.mem_cons.mp hm with rfl | hm
    · skip
      refine vx_catch (own := RL) (name := "java/lang/IndexOutOfBoundsException") X.2.2.2.2.1 [] ⟨0, 9, 12, 13⟩ [⟨0, 9, 15, 31⟩] htab (fun z hz => absurd hz List.not_mem_nil) rfl (by decide) (X.2.2.2.2.2.1 (Cond.classLink RL 13 "java/lang/IndexOutOfBoundsException") (List.mem_of_getElem? (i := 1) rfl)) ((hE.2.2.2.2.2.2.1).use rfl) h1 h2 h3 ?_
      refine lv_astore_n (lv' := [(3, .ref q9), (0, .ref (ad 92)), (1, .int q1), (2, .ref o)]) hx hb dL_fire_12 rfl hl (by decide) rfl (fun ls hl => ?_)
      refine lv_iconst (v := 1) hx hb dL_fire_13 (by decide) ?_
      exact hret _ _ (u, f) _ _ _ _ _ dL_fire_14 ⟨by rw [hp]; exact (by decide : (1 : Int32) = wrK ["java/lang/IndexOutOfBoundsException", "java/lang/IllegalStateException"] "java/lang/IndexOutOfBoundsException"), by rw [hp], by rw [hp]; rfl⟩ hw (Nat.le_of_ble_eq_true rfl) (Nat.le_of_ble_eq_true rfl)
    rcases List.mem_singleton.mp hm with rfl
    refine vx_catch (own := RL) (name := "java/lang/IllegalStateException") X.2.2.2.2.1 [⟨0, 9, 12, 13⟩] ⟨0, 9, 15, 31⟩ [] htab (fun z hz => by rcases List.mem_singleton.mp hz with rfl; exact Or.inr ⟨by decide, _, X.2.2.2.2.2.1 (Cond.classLink RL 13 "java/lang/IndexOutOfBoundsException") (List.mem_of_getElem? (i := 1) rfl), hE.2.2.2.2.2.2.2.2.2.2.2.2.1⟩) rfl (by decide) (X.2.2.2.2.2.1 (Cond.classLink RL 31 "java/lang/IllegalStateException") (List.mem_of_getElem? (i := 2) rfl)) ((hE.2.2.2.2.2.2.2.2.1).use rfl) h1 h2 h3 ?_
    refine lv_astore_n (lv' := [(3, .ref q9), (0, .ref (ad 92)), (1, .int q1), (2, .ref o)]) hx hb dL_fire_15 rfl hl (by decide) rfl (fun ls hl => ?_)
    refine lv_iconst (v := 2) hx hb dL_fire_16 (by decide) ?_
    exact hret _ _ (u, f) _ _ _ _ _ dL_fire_17 ⟨by rw [hp]; exact (by decide : (2 : Int32) = wrK ["java/lang/IndexOutOfBoundsException", "java/lang/IllegalStateException"] "java/lang/IllegalStateException"), by rw [hp], by rw [hp]; rfl⟩ hw (Nat.le_of_ble_eq_true rfl) (Nat.le_of_ble_eq_true rfl)
  · skip
    refine lv_i2l (v := r.toInt64) hx hb dL_fire_7 rfl ?_
    refine g_lastk (k := 0) (w' := CW cy ad u ++ ((o, .inl (cy 2, 1, .inr (.inl (vp_updL f 0 r.toInt64)))) :: rest)) rfl X hw 102 rfl (vk rfl) rfl dL_fire_8 (fun H locs hw => ?_)
    refine lv_goto (tgt := 18) hx hb dL_fire_9 (by decide) ?_
    refine lv_iconst (v := 0) hx hb dL_fire_18 (by decide) ?_
    exact hret _ _ (u, (vp_updL f 0 r.toInt64)) _ _ _ _ _ dL_fire_19 ⟨by rw [hr]; rfl, by rw [hr], by rw [hr]; rfl⟩ hw (Nat.le_of_ble_eq_true rfl) (Nat.le_of_ble_eq_true rfl)
theorem gy_L_firing : gYW yL_firing RL cL_firing 5 [(0, 10, 13, 13), (0, 10, 17, 15)] wsL_firing 4 := ⟨⟨_, rfl⟩, rfl, by decide +kernel, by decide +kernel, by decide +kernel⟩
abbrev rmL_firing : Room := { frames := 8, cells := 1, slots := 6, locals := 244 }
set_option maxHeartbeats 4000000 in
set_option maxRecDepth 100000 in
theorem c_L_firing (l : Launch) (hlt : l.stackTraces = false) (D : va_G) (cy : Nat → ClassId) (ss : Nat → Nat) (ad : Nat → Nat) (o : Nat) (rest : va_W) (C : CS) (f : Nat → Int64) (q1 : Int32) (q2 : Int32) : GWi l yL_firing wsL_firing rmL_firing D cy ss [.ref (ad 92), .int q1, .int q2, .ref o] (CW cy ad C ++ ((o, .inl (cy 2, 1, .inr (.inl f))) :: rest)) (fun (r : Int32) (u : (Nat → Int64)) => r = wrC ["java/lang/IndexOutOfBoundsException", "java/lang/IllegalArgumentException"] (F_X6_firing C q1 q2) ∧ u = wrO vp_updL f (fun v : Int32 => v.toInt64) (F_X6_firing C q1 q2)) (fun u => CW cy ad C ++ ((o, .inl (cy 2, 1, .inr (.inl u))) :: rest)) 1 6 := by
  refine GWi.intro cL_firing 5 RL [(0, 10, 13, 13), (0, 10, 17, 15)] (by decide) rfl rfl (Nat.le_of_ble_eq_true rfl) ?_
  intro p e s m args below meth c A Q ls X hE htab hret hl hw
  have hx := X.1
  have hb := X.2.1
  have hl : lv_has ls 5 [(0, .ref (ad 92)), (1, .int q1), (2, .int q2), (3, .ref o)] := hl
  refine lv_aload_n hx hb dL_firing_0 rfl (lv_at hl 3 rfl) ?_
  refine lv_iconst (v := 0) hx hb dL_firing_1 (by decide) ?_
  refine lv_aload_n hx hb dL_firing_2 rfl (lv_at hl 0 rfl) ?_
  refine lv_iload_n hx hb dL_firing_3 rfl (lv_at hl 1 rfl) ?_
  refine lv_iload_n hx hb dL_firing_4 rfl (lv_at hl 2 rfl) ?_
  refine gxV_i (rest := [.int 0, .ref o]) X hE (c_X6_firing l hlt D cy ss ad ((o, .inl (cy 2, 1, .inr (.inl f))) :: rest) C q1 q2) gy_X6_firing gL_firing_X6_firing ⟨rfl, rfl, Nat.le_of_ble_eq_true rfl, Nat.le_of_ble_eq_true rfl⟩ 92 rfl rfl rfl hl rfl (Nat.le_of_ble_eq_true rfl) dL_firing_5 ⟨Nat.le_of_ble_eq_true rfl, Nat.le_of_ble_eq_true rfl⟩ hw (fun E ce q9 u H locs hp hw h1 h2 h3 => ?_) (fun r u H locs hr hw => ?_)
  · obtain ⟨hp, hm⟩ := hp
    rcases List.mem_cons.mp hm with rfl | hm
    · skip
      refine vx_catch (own := RL) (name := "java/lang/IndexOutOfBoundsException") X.2.2.2.2.1 [] ⟨0, 10, 13, 13⟩ [⟨0, 10, 17, 15⟩] htab (fun z hz => absurd hz List.not_mem_nil) rfl (by decide) (X.2.2.2.2.2.1 (Cond.classLink RL 13 "java/lang/IndexOutOfBoundsException") (List.mem_of_getElem? (i := 1) rfl)) ((hE.2.2.2.2.2.2.1).use rfl) h1 h2 h3 ?_
      refine lv_astore (lv' := [(4, .ref q9), (0, .ref (ad 92)), (1, .int q1), (2, .int q2), (3, .ref o)]) hx hb dL_firing_13 hl (by decide) rfl (fun ls hl => ?_)
      refine lv_iconst (v := 1) hx hb dL_firing_15 (by decide) ?_
      exact hret _ _ f _ _ _ _ _ dL_firing_16 ⟨by rw [hp]; exact (by decide : (1 : Int32) = wrK ["java/lang/IndexOutOfBoundsException", "java/lang/IllegalArgumentException"] "java/lang/IndexOutOfBoundsException"), by rw [hp]; rfl⟩ hw (Nat.le_of_ble_eq_true rfl) (Nat.le_of_ble_eq_true rfl)
    rcases List.mem_singleton.mp hm with rfl
    refine vx_catch (own := RL) (name := "java/lang/IllegalArgumentException") X.2.2.2.2.1 [⟨0, 10, 13, 13⟩] ⟨0, 10, 17, 15⟩ [] htab (fun z hz => by rcases List.mem_singleton.mp hz with rfl; exact Or.inr ⟨by decide, _, X.2.2.2.2.2.1 (Cond.classLink RL 13 "java/lang/IndexOutOfBoundsException") (List.mem_of_getElem? (i := 1) rfl), hE.2.2.2.2.2.2.2.2.2.2.2.1⟩) rfl (by decide) (X.2.2.2.2.2.1 (Cond.classLink RL 15 "java/lang/IllegalArgumentException") (List.mem_of_getElem? (i := 2) rfl)) ((hE.2.2.2.2.2.2.2.1).use rfl) h1 h2 h3 ?_
    refine lv_astore (lv' := [(4, .ref q9), (0, .ref (ad 92)), (1, .int q1), (2, .int q2), (3, .ref o)]) hx hb dL_firing_17 hl (by decide) rfl (fun ls hl => ?_)
    refine lv_iconst (v := 2) hx hb dL_firing_19 (by decide) ?_
    exact hret _ _ f _ _ _ _ _ dL_firing_20 ⟨by rw [hp]; exact (by decide : (2 : Int32) = wrK ["java/lang/IndexOutOfBoundsException", "java/lang/IllegalArgumentException"] "java/lang/IllegalArgumentException"), by rw [hp]; rfl⟩ hw (Nat.le_of_ble_eq_true rfl) (Nat.le_of_ble_eq_true rfl)
  · skip
    refine lv_i2l (v := r.toInt64) hx hb dL_firing_8 rfl ?_
    refine g_lastk (k := 0) (w' := CW cy ad C ++ ((o, .inl (cy 2, 1, .inr (.inl (vp_updL f 0 r.toInt64)))) :: rest)) rfl X hw 102 rfl (vk rfl) rfl dL_firing_9 (fun H locs hw => ?_)
    refine lv_goto (tgt := 21) hx hb dL_firing_10 (by decide) ?_
    refine lv_iconst (v := 0) hx hb dL_firing_21 (by decide) ?_
    exact hret _ _ (vp_updL f 0 r.toInt64) _ _ _ _ _ dL_firing_22 ⟨by rw [hr]; rfl, by rw [hr]; rfl⟩ hw (Nat.le_of_ble_eq_true rfl) (Nat.le_of_ble_eq_true rfl)
theorem gy_L_firings : gYW yL_firings RL cL_firings 4 [(0, 9, 12, 15)] wsL_firings 3 := ⟨⟨_, rfl⟩, rfl, by decide +kernel, by decide +kernel, by decide +kernel⟩
abbrev rmL_firings : Room := { frames := 8, cells := 1, slots := 6, locals := 243 }
set_option maxHeartbeats 4000000 in
set_option maxRecDepth 100000 in
theorem c_L_firings (l : Launch) (hlt : l.stackTraces = false) (D : va_G) (cy : Nat → ClassId) (ss : Nat → Nat) (ad : Nat → Nat) (o : Nat) (rest : va_W) (C : CS) (f : Nat → Int64) (q1 : Int32) : GWi l yL_firings wsL_firings rmL_firings D cy ss [.ref (ad 92), .int q1, .ref o] (CW cy ad C ++ ((o, .inl (cy 2, 1, .inr (.inl f))) :: rest)) (fun (r : Int32) (u : (Nat → Int64)) => r = wrC ["java/lang/IllegalArgumentException"] (F_X6_firings C q1) ∧ u = wrO vp_updL f (fun v : Int32 => v.toInt64) (F_X6_firings C q1)) (fun u => CW cy ad C ++ ((o, .inl (cy 2, 1, .inr (.inl u))) :: rest)) 1 6 := by
  refine GWi.intro cL_firings 4 RL [(0, 9, 12, 15)] (by decide) rfl rfl (Nat.le_of_ble_eq_true rfl) ?_
  intro p e s m args below meth c A Q ls X hE htab hret hl hw
  have hx := X.1
  have hb := X.2.1
  have hl : lv_has ls 4 [(0, .ref (ad 92)), (1, .int q1), (2, .ref o)] := hl
  refine lv_aload_n hx hb dL_firings_0 rfl (lv_at hl 2 rfl) ?_
  refine lv_iconst (v := 0) hx hb dL_firings_1 (by decide) ?_
  refine lv_aload_n hx hb dL_firings_2 rfl (lv_at hl 0 rfl) ?_
  refine lv_iload_n hx hb dL_firings_3 rfl (lv_at hl 1 rfl) ?_
  refine gxV_i (rest := [.int 0, .ref o]) X hE (c_X6_firings l hlt D cy ss ad ((o, .inl (cy 2, 1, .inr (.inl f))) :: rest) C q1) gy_X6_firings gL_firings_X6_firings ⟨rfl, rfl, Nat.le_of_ble_eq_true rfl, Nat.le_of_ble_eq_true rfl⟩ 92 rfl rfl rfl hl rfl (Nat.le_of_ble_eq_true rfl) dL_firings_4 ⟨Nat.le_of_ble_eq_true rfl, Nat.le_of_ble_eq_true rfl⟩ hw (fun E ce q9 u H locs hp hw h1 h2 h3 => ?_) (fun r u H locs hr hw => ?_)
  · obtain ⟨hp, hm⟩ := hp
    rcases List.mem_singleton.mp hm with rfl
    refine vx_catch (own := RL) (name := "java/lang/IllegalArgumentException") X.2.2.2.2.1 [] ⟨0, 9, 12, 15⟩ [] htab (fun z hz => absurd hz List.not_mem_nil) rfl (by decide) (X.2.2.2.2.2.1 (Cond.classLink RL 15 "java/lang/IllegalArgumentException") (List.mem_of_getElem? (i := 1) rfl)) ((hE.2.2.2.2.2.2.2.1).use rfl) h1 h2 h3 ?_
    refine lv_astore_n (lv' := [(3, .ref q9), (0, .ref (ad 92)), (1, .int q1), (2, .ref o)]) hx hb dL_firings_12 rfl hl (by decide) rfl (fun ls hl => ?_)
    refine lv_iconst (v := 1) hx hb dL_firings_13 (by decide) ?_
    exact hret _ _ f _ _ _ _ _ dL_firings_14 ⟨by rw [hp]; exact (by decide : (1 : Int32) = wrK ["java/lang/IllegalArgumentException"] "java/lang/IllegalArgumentException"), by rw [hp]; rfl⟩ hw (Nat.le_of_ble_eq_true rfl) (Nat.le_of_ble_eq_true rfl)
  · skip
    refine lv_i2l (v := r.toInt64) hx hb dL_firings_7 rfl ?_
    refine g_lastk (k := 0) (w' := CW cy ad C ++ ((o, .inl (cy 2, 1, .inr (.inl (vp_updL f 0 r.toInt64)))) :: rest)) rfl X hw 102 rfl (vk rfl) rfl dL_firings_8 (fun H locs hw => ?_)
    refine lv_goto (tgt := 15) hx hb dL_firings_9 (by decide) ?_
    refine lv_iconst (v := 0) hx hb dL_firings_15 (by decide) ?_
    exact hret _ _ (vp_updL f 0 r.toInt64) _ _ _ _ _ dL_firings_16 ⟨by rw [hr]; rfl, by rw [hr]; rfl⟩ hw (Nat.le_of_ble_eq_true rfl) (Nat.le_of_ble_eq_true rfl)
theorem gy_L_append : gYW yL_append RL cL_append 4 [(0, 9, 12, 15), (0, 9, 15, 31)] wsL_append 3 := ⟨⟨_, rfl⟩, rfl, by decide +kernel, by decide +kernel, by decide +kernel⟩
abbrev rmL_append : Room := { frames := 8, cells := 2, slots := 12, locals := 243 }
set_option maxHeartbeats 4000000 in
set_option maxRecDepth 100000 in
theorem c_L_append (l : Launch) (hlt : l.stackTraces = false) (D : va_G) (cy : Nat → ClassId) (ss : Nat → Nat) (ad : Nat → Nat) (o : Nat) (rest : va_W) (C : CS) (f : Nat → Int64) (q1 : Int32) : GWi l yL_append wsL_append rmL_append D cy ss [.ref (ad 92), .int q1, .ref o] (CW cy ad C ++ ((o, .inl (cy 2, 1, .inr (.inl f))) :: rest)) (fun (r : Int32) (u : CS × (Nat → Int64)) => r = wrC ["java/lang/IllegalArgumentException", "java/lang/IllegalStateException"] (F_X6_append C q1).1 ∧ u.1 = (F_X6_append C q1).2 ∧ u.2 = wrO vp_updL f (fun v : Int32 => v.toInt64) (F_X6_append C q1).1) (fun u => CW cy ad u.1 ++ ((o, .inl (cy 2, 1, .inr (.inl u.2))) :: rest)) 2 12 := by
  refine GWi.intro cL_append 4 RL [(0, 9, 12, 15), (0, 9, 15, 31)] (by decide) rfl rfl (Nat.le_of_ble_eq_true rfl) ?_
  intro p e s m args below meth c A Q ls X hE htab hret hl hw
  have hx := X.1
  have hb := X.2.1
  have hl : lv_has ls 4 [(0, .ref (ad 92)), (1, .int q1), (2, .ref o)] := hl
  refine lv_aload_n hx hb dL_append_0 rfl (lv_at hl 2 rfl) ?_
  refine lv_iconst (v := 0) hx hb dL_append_1 (by decide) ?_
  refine lv_aload_n hx hb dL_append_2 rfl (lv_at hl 0 rfl) ?_
  refine lv_iload_n hx hb dL_append_3 rfl (lv_at hl 1 rfl) ?_
  refine gxV_i (rest := [.int 0, .ref o]) X hE (c_X6_append l hlt D cy ss ad ((o, .inl (cy 2, 1, .inr (.inl f))) :: rest) C q1) gy_X6_append gL_append_X6_append ⟨rfl, rfl, Nat.le_of_ble_eq_true rfl, Nat.le_of_ble_eq_true rfl⟩ 92 rfl rfl rfl hl rfl (Nat.le_of_ble_eq_true rfl) dL_append_4 ⟨Nat.le_of_ble_eq_true rfl, Nat.le_of_ble_eq_true rfl⟩ hw (fun E ce q9 u H locs hp hw h1 h2 h3 => ?_) (fun r u H locs hr hw => ?_)
  · obtain ⟨hp, hm⟩ := hp
    rcases List.mem_cons.mp hm with rfl | hm
    · skip
      refine vx_catch (own := RL) (name := "java/lang/IllegalArgumentException") X.2.2.2.2.1 [] ⟨0, 9, 12, 15⟩ [⟨0, 9, 15, 31⟩] htab (fun z hz => absurd hz List.not_mem_nil) rfl (by decide) (X.2.2.2.2.2.1 (Cond.classLink RL 15 "java/lang/IllegalArgumentException") (List.mem_of_getElem? (i := 1) rfl)) ((hE.2.2.2.2.2.2.2.1).use rfl) h1 h2 h3 ?_
      refine lv_astore_n (lv' := [(3, .ref q9), (0, .ref (ad 92)), (1, .int q1), (2, .ref o)]) hx hb dL_append_12 rfl hl (by decide) rfl (fun ls hl => ?_)
      refine lv_iconst (v := 1) hx hb dL_append_13 (by decide) ?_
      exact hret _ _ (u, f) _ _ _ _ _ dL_append_14 ⟨by rw [hp]; exact (by decide : (1 : Int32) = wrK ["java/lang/IllegalArgumentException", "java/lang/IllegalStateException"] "java/lang/IllegalArgumentException"), by rw [hp], by rw [hp]; rfl⟩ hw (Nat.le_of_ble_eq_true rfl) (Nat.le_of_ble_eq_true rfl)
    rcases List.mem_singleton.mp hm with rfl
    refine vx_catch (own := RL) (name := "java/lang/IllegalStateException") X.2.2.2.2.1 [⟨0, 9, 12, 15⟩] ⟨0, 9, 15, 31⟩ [] htab (fun z hz => by rcases List.mem_singleton.mp hz with rfl; exact Or.inr ⟨by decide, _, X.2.2.2.2.2.1 (Cond.classLink RL 15 "java/lang/IllegalArgumentException") (List.mem_of_getElem? (i := 1) rfl), hE.2.2.2.2.2.2.2.2.2.2.2.2.2.1⟩) rfl (by decide) (X.2.2.2.2.2.1 (Cond.classLink RL 31 "java/lang/IllegalStateException") (List.mem_of_getElem? (i := 2) rfl)) ((hE.2.2.2.2.2.2.2.2.1).use rfl) h1 h2 h3 ?_
    refine lv_astore_n (lv' := [(3, .ref q9), (0, .ref (ad 92)), (1, .int q1), (2, .ref o)]) hx hb dL_append_15 rfl hl (by decide) rfl (fun ls hl => ?_)
    refine lv_iconst (v := 2) hx hb dL_append_16 (by decide) ?_
    exact hret _ _ (u, f) _ _ _ _ _ dL_append_17 ⟨by rw [hp]; exact (by decide : (2 : Int32) = wrK ["java/lang/IllegalArgumentException", "java/lang/IllegalStateException"] "java/lang/IllegalStateException"), by rw [hp], by rw [hp]; rfl⟩ hw (Nat.le_of_ble_eq_true rfl) (Nat.le_of_ble_eq_true rfl)
  · skip
    refine lv_i2l (v := r.toInt64) hx hb dL_append_7 rfl ?_
    refine g_lastk (k := 0) (w' := CW cy ad u ++ ((o, .inl (cy 2, 1, .inr (.inl (vp_updL f 0 r.toInt64)))) :: rest)) rfl X hw 102 rfl (vk rfl) rfl dL_append_8 (fun H locs hw => ?_)
    refine lv_goto (tgt := 18) hx hb dL_append_9 (by decide) ?_
    refine lv_iconst (v := 0) hx hb dL_append_18 (by decide) ?_
    exact hret _ _ (u, (vp_updL f 0 r.toInt64)) _ _ _ _ _ dL_append_19 ⟨by rw [hr]; rfl, by rw [hr], by rw [hr]; rfl⟩ hw (Nat.le_of_ble_eq_true rfl) (Nat.le_of_ble_eq_true rfl)
theorem gy_L_read : gYW yL_read RL cL_read 3 [(0, 8, 11, 15), (0, 8, 14, 31)] wsL_read 2 := ⟨⟨_, rfl⟩, rfl, by decide +kernel, by decide +kernel, by decide +kernel⟩
abbrev rmL_read : Room := { frames := 7, cells := 1, slots := 6, locals := 222 }
set_option maxHeartbeats 4000000 in
set_option maxRecDepth 100000 in
theorem c_L_read (l : Launch) (hlt : l.stackTraces = false) (D : va_G) (cy : Nat → ClassId) (ss : Nat → Nat) (ad : Nat → Nat) (o : Nat) (rest : va_W) (C : CS) (f : Nat → Int64) (hS : S_X6_read C) : GWi l yL_read wsL_read rmL_read D cy ss [.ref (ad 92), .ref o] (CW cy ad C ++ ((o, .inl (cy 2, 1, .inr (.inl f))) :: rest)) (fun (r : Int32) (u : CS × (Nat → Int64)) => r = wrC ["java/lang/IllegalArgumentException", "java/lang/IllegalStateException"] (F_X6_read C).1 ∧ u.1 = (F_X6_read C).2 ∧ u.2 = wrO vp_updL f (fun v : Int32 => v.toInt64) (F_X6_read C).1) (fun u => CW cy ad u.1 ++ ((o, .inl (cy 2, 1, .inr (.inl u.2))) :: rest)) 1 6 := by
  refine GWi.intro cL_read 3 RL [(0, 8, 11, 15), (0, 8, 14, 31)] (by decide) rfl rfl (Nat.le_of_ble_eq_true rfl) ?_
  intro p e s m args below meth c A Q ls X hE htab hret hl hw
  have hx := X.1
  have hb := X.2.1
  have hl : lv_has ls 3 [(0, .ref (ad 92)), (1, .ref o)] := hl
  refine lv_aload_n hx hb dL_read_0 rfl (lv_at hl 1 rfl) ?_
  refine lv_iconst (v := 0) hx hb dL_read_1 (by decide) ?_
  refine lv_aload_n hx hb dL_read_2 rfl (lv_at hl 0 rfl) ?_
  refine gxV_i (rest := [.int 0, .ref o]) X hE (c_X6_read l hlt D cy ss ad ((o, .inl (cy 2, 1, .inr (.inl f))) :: rest) C  hS) gy_X6_read gL_read_X6_read ⟨rfl, rfl, Nat.le_of_ble_eq_true rfl, Nat.le_of_ble_eq_true rfl⟩ 92 rfl rfl rfl hl rfl (Nat.le_of_ble_eq_true rfl) dL_read_3 ⟨Nat.le_of_ble_eq_true rfl, Nat.le_of_ble_eq_true rfl⟩ hw (fun E ce q9 u H locs hp hw h1 h2 h3 => ?_) (fun r u H locs hr hw => ?_)
  · obtain ⟨hp, hm⟩ := hp
    rcases List.mem_cons.mp hm with rfl | hm
    · skip
      refine vx_catch (own := RL) (name := "java/lang/IllegalStateException") X.2.2.2.2.1 [⟨0, 8, 11, 15⟩] ⟨0, 8, 14, 31⟩ [] htab (fun z hz => by rcases List.mem_singleton.mp hz with rfl; exact Or.inr ⟨by decide, _, X.2.2.2.2.2.1 (Cond.classLink RL 15 "java/lang/IllegalArgumentException") (List.mem_of_getElem? (i := 1) rfl), hE.2.2.2.2.2.2.2.2.2.2.2.2.2.1⟩) rfl (by decide) (X.2.2.2.2.2.1 (Cond.classLink RL 31 "java/lang/IllegalStateException") (List.mem_of_getElem? (i := 2) rfl)) ((hE.2.2.2.2.2.2.2.2.1).use rfl) h1 h2 h3 ?_
      refine lv_astore_n (lv' := [(2, .ref q9), (0, .ref (ad 92)), (1, .ref o)]) hx hb dL_read_14 rfl hl (by decide) rfl (fun ls hl => ?_)
      refine lv_iconst (v := 2) hx hb dL_read_15 (by decide) ?_
      exact hret _ _ (u, f) _ _ _ _ _ dL_read_16 ⟨by rw [hp]; exact (by decide : (2 : Int32) = wrK ["java/lang/IllegalArgumentException", "java/lang/IllegalStateException"] "java/lang/IllegalStateException"), by rw [hp], by rw [hp]; rfl⟩ hw (Nat.le_of_ble_eq_true rfl) (Nat.le_of_ble_eq_true rfl)
    rcases List.mem_singleton.mp hm with rfl
    refine vx_catch (own := RL) (name := "java/lang/IllegalArgumentException") X.2.2.2.2.1 [] ⟨0, 8, 11, 15⟩ [⟨0, 8, 14, 31⟩] htab (fun z hz => absurd hz List.not_mem_nil) rfl (by decide) (X.2.2.2.2.2.1 (Cond.classLink RL 15 "java/lang/IllegalArgumentException") (List.mem_of_getElem? (i := 1) rfl)) ((hE.2.2.2.2.2.2.2.1).use rfl) h1 h2 h3 ?_
    refine lv_astore_n (lv' := [(2, .ref q9), (0, .ref (ad 92)), (1, .ref o)]) hx hb dL_read_11 rfl hl (by decide) rfl (fun ls hl => ?_)
    refine lv_iconst (v := 1) hx hb dL_read_12 (by decide) ?_
    exact hret _ _ (u, f) _ _ _ _ _ dL_read_13 ⟨by rw [hp]; exact (by decide : (1 : Int32) = wrK ["java/lang/IllegalArgumentException", "java/lang/IllegalStateException"] "java/lang/IllegalArgumentException"), by rw [hp], by rw [hp]; rfl⟩ hw (Nat.le_of_ble_eq_true rfl) (Nat.le_of_ble_eq_true rfl)
  · skip
    refine lv_i2l (v := r.toInt64) hx hb dL_read_6 rfl ?_
    refine g_lastk (k := 0) (w' := CW cy ad u ++ ((o, .inl (cy 2, 1, .inr (.inl (vp_updL f 0 r.toInt64)))) :: rest)) rfl X hw 102 rfl (vk rfl) rfl dL_read_7 (fun H locs hw => ?_)
    refine lv_goto (tgt := 17) hx hb dL_read_8 (by decide) ?_
    refine lv_iconst (v := 0) hx hb dL_read_17 (by decide) ?_
    exact hret _ _ (u, (vp_updL f 0 r.toInt64)) _ _ _ _ _ dL_read_18 ⟨by rw [hr]; rfl, by rw [hr], by rw [hr]; rfl⟩ hw (Nat.le_of_ble_eq_true rfl) (Nat.le_of_ble_eq_true rfl)
theorem gy_L_errorPosition : gYW yL_errorPosition RL cL_errorPosition 3 [(0, 8, 11, 49)] wsL_errorPosition 2 := ⟨⟨_, rfl⟩, rfl, by decide +kernel, by decide +kernel, by decide +kernel⟩
abbrev rmL_errorPosition : Room := { frames := 8, cells := 1, slots := 6, locals := 240 }
set_option maxHeartbeats 4000000 in
set_option maxRecDepth 100000 in
theorem c_L_errorPosition (l : Launch) (hlt : l.stackTraces = false) (D : va_G) (cy : Nat → ClassId) (ss : Nat → Nat) (ad : Nat → Nat) (o : Nat) (rest : va_W) (C : CS) (f : Nat → Int64) : GWi l yL_errorPosition wsL_errorPosition rmL_errorPosition D cy ss [.ref (ad 92), .ref o] (CW cy ad C ++ ((o, .inl (cy 2, 1, .inr (.inl f))) :: rest)) (fun (r : Int32) (u : (Nat → Int64)) => r = wrC ["java/util/NoSuchElementException"] (F_X6_errorPosition C) ∧ u = wrO vp_updL f (fun v : Int32 => v.toInt64) (F_X6_errorPosition C)) (fun u => CW cy ad C ++ ((o, .inl (cy 2, 1, .inr (.inl u))) :: rest)) 1 6 := by
  refine GWi.intro cL_errorPosition 3 RL [(0, 8, 11, 49)] (by decide) rfl rfl (Nat.le_of_ble_eq_true rfl) ?_
  intro p e s m args below meth c A Q ls X hE htab hret hl hw
  have hx := X.1
  have hb := X.2.1
  have hl : lv_has ls 3 [(0, .ref (ad 92)), (1, .ref o)] := hl
  refine lv_aload_n hx hb dL_errorPosition_0 rfl (lv_at hl 1 rfl) ?_
  refine lv_iconst (v := 0) hx hb dL_errorPosition_1 (by decide) ?_
  refine lv_aload_n hx hb dL_errorPosition_2 rfl (lv_at hl 0 rfl) ?_
  refine gxV_i (rest := [.int 0, .ref o]) X hE (c_X6_errorPosition l hlt D cy ss ad ((o, .inl (cy 2, 1, .inr (.inl f))) :: rest) C) gy_X6_errorPosition gL_errorPosition_X6_errorPosition ⟨rfl, rfl, Nat.le_of_ble_eq_true rfl, Nat.le_of_ble_eq_true rfl⟩ 92 rfl rfl rfl hl rfl (Nat.le_of_ble_eq_true rfl) dL_errorPosition_3 ⟨Nat.le_of_ble_eq_true rfl, Nat.le_of_ble_eq_true rfl⟩ hw (fun E ce q9 u H locs hp hw h1 h2 h3 => ?_) (fun r u H locs hr hw => ?_)
  · obtain ⟨hp, hm⟩ := hp
    rcases List.mem_singleton.mp hm with rfl
    refine vx_catch (own := RL) (name := "java/util/NoSuchElementException") X.2.2.2.2.1 [] ⟨0, 8, 11, 49⟩ [] htab (fun z hz => absurd hz List.not_mem_nil) rfl (by decide) (X.2.2.2.2.2.1 (Cond.classLink RL 49 "java/util/NoSuchElementException") (List.mem_of_getElem? (i := 1) rfl)) ((hE.2.2.2.2.2.2.2.2.2.1).use rfl) h1 h2 h3 ?_
    refine lv_astore_n (lv' := [(2, .ref q9), (0, .ref (ad 92)), (1, .ref o)]) hx hb dL_errorPosition_11 rfl hl (by decide) rfl (fun ls hl => ?_)
    refine lv_iconst (v := 1) hx hb dL_errorPosition_12 (by decide) ?_
    exact hret _ _ f _ _ _ _ _ dL_errorPosition_13 ⟨by rw [hp]; exact (by decide : (1 : Int32) = wrK ["java/util/NoSuchElementException"] "java/util/NoSuchElementException"), by rw [hp]; rfl⟩ hw (Nat.le_of_ble_eq_true rfl) (Nat.le_of_ble_eq_true rfl)
  · skip
    refine lv_i2l (v := r.toInt64) hx hb dL_errorPosition_6 rfl ?_
    refine g_lastk (k := 0) (w' := CW cy ad C ++ ((o, .inl (cy 2, 1, .inr (.inl (vp_updL f 0 r.toInt64)))) :: rest)) rfl X hw 102 rfl (vk rfl) rfl dL_errorPosition_7 (fun H locs hw => ?_)
    refine lv_goto (tgt := 14) hx hb dL_errorPosition_8 (by decide) ?_
    refine lv_iconst (v := 0) hx hb dL_errorPosition_14 (by decide) ?_
    exact hret _ _ (vp_updL f 0 r.toInt64) _ _ _ _ _ dL_errorPosition_15 ⟨by rw [hr]; rfl, by rw [hr]; rfl⟩ hw (Nat.le_of_ble_eq_true rfl) (Nat.le_of_ble_eq_true rfl)
theorem gy_L_restore : gYW yL_restore RL cL_restore 3 [(0, 8, 11, 31)] wsL_restore 2 := ⟨⟨_, rfl⟩, rfl, by decide +kernel, by decide +kernel, by decide +kernel⟩
abbrev rmL_restore : Room := { frames := 7, cells := 1, slots := 6, locals := 220 }
set_option maxHeartbeats 4000000 in
set_option maxRecDepth 100000 in
theorem c_L_restore (l : Launch) (hlt : l.stackTraces = false) (D : va_G) (cy : Nat → ClassId) (ss : Nat → Nat) (ad : Nat → Nat) (o : Nat) (rest : va_W) (C : CS) (f : Nat → Int64) : GWi l yL_restore wsL_restore rmL_restore D cy ss [.ref (ad 92), .ref o] (CW cy ad C ++ ((o, .inl (cy 2, 1, .inr (.inl f))) :: rest)) (fun (r : Int32) (u : CS × (Nat → Int64)) => r = wrC ["java/lang/IllegalStateException"] (F_X6_restore C).1 ∧ u.1 = (F_X6_restore C).2 ∧ u.2 = wrO vp_updL f (fun v : Int32 => v.toInt64) (F_X6_restore C).1) (fun u => CW cy ad u.1 ++ ((o, .inl (cy 2, 1, .inr (.inl u.2))) :: rest)) 1 6 := by
  refine GWi.intro cL_restore 3 RL [(0, 8, 11, 31)] (by decide) rfl rfl (Nat.le_of_ble_eq_true rfl) ?_
  intro p e s m args below meth c A Q ls X hE htab hret hl hw
  have hx := X.1
  have hb := X.2.1
  have hl : lv_has ls 3 [(0, .ref (ad 92)), (1, .ref o)] := hl
  refine lv_aload_n hx hb dL_restore_0 rfl (lv_at hl 1 rfl) ?_
  refine lv_iconst (v := 0) hx hb dL_restore_1 (by decide) ?_
  refine lv_aload_n hx hb dL_restore_2 rfl (lv_at hl 0 rfl) ?_
  refine gxV_i (rest := [.int 0, .ref o]) X hE (c_X6_restore l hlt D cy ss ad ((o, .inl (cy 2, 1, .inr (.inl f))) :: rest) C) gy_X6_restore gL_restore_X6_restore ⟨rfl, rfl, Nat.le_of_ble_eq_true rfl, Nat.le_of_ble_eq_true rfl⟩ 92 rfl rfl rfl hl rfl (Nat.le_of_ble_eq_true rfl) dL_restore_3 ⟨Nat.le_of_ble_eq_true rfl, Nat.le_of_ble_eq_true rfl⟩ hw (fun E ce q9 u H locs hp hw h1 h2 h3 => ?_) (fun r u H locs hr hw => ?_)
  · obtain ⟨hp, hm⟩ := hp
    rcases List.mem_singleton.mp hm with rfl
    refine vx_catch (own := RL) (name := "java/lang/IllegalStateException") X.2.2.2.2.1 [] ⟨0, 8, 11, 31⟩ [] htab (fun z hz => absurd hz List.not_mem_nil) rfl (by decide) (X.2.2.2.2.2.1 (Cond.classLink RL 31 "java/lang/IllegalStateException") (List.mem_of_getElem? (i := 1) rfl)) ((hE.2.2.2.2.2.2.2.2.1).use rfl) h1 h2 h3 ?_
    refine lv_astore_n (lv' := [(2, .ref q9), (0, .ref (ad 92)), (1, .ref o)]) hx hb dL_restore_11 rfl hl (by decide) rfl (fun ls hl => ?_)
    refine lv_iconst (v := 1) hx hb dL_restore_12 (by decide) ?_
    exact hret _ _ (u, f) _ _ _ _ _ dL_restore_13 ⟨by rw [hp]; exact (by decide : (1 : Int32) = wrK ["java/lang/IllegalStateException"] "java/lang/IllegalStateException"), by rw [hp], by rw [hp]; rfl⟩ hw (Nat.le_of_ble_eq_true rfl) (Nat.le_of_ble_eq_true rfl)
  · skip
    refine lv_i2l (v := r.toInt64) hx hb dL_restore_6 rfl ?_
    refine g_lastk (k := 0) (w' := CW cy ad u ++ ((o, .inl (cy 2, 1, .inr (.inl (vp_updL f 0 r.toInt64)))) :: rest)) rfl X hw 102 rfl (vk rfl) rfl dL_restore_7 (fun H locs hw => ?_)
    refine lv_goto (tgt := 14) hx hb dL_restore_8 (by decide) ?_
    refine lv_iconst (v := 0) hx hb dL_restore_14 (by decide) ?_
    exact hret _ _ (u, (vp_updL f 0 r.toInt64)) _ _ _ _ _ dL_restore_15 ⟨by rw [hr]; rfl, by rw [hr], by rw [hr]; rfl⟩ hw (Nat.le_of_ble_eq_true rfl) (Nat.le_of_ble_eq_true rfl)
