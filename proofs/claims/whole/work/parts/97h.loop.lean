/-! the law's loop -/
theorem lw_63 (x : Int32) : ∃ k : Nat, k < 64 ∧ x &&& 63 = nI k := by
  refine ⟨x.toBitVec.toNat % 64, Nat.mod_lt _ (by decide), ?_⟩
  have h : (x &&& 63).toBitVec = (nI (x.toBitVec.toNat % 64)).toBitVec := by
    apply BitVec.eq_of_toNat_eq
    rw [Int32.toBitVec_and, BitVec.toNat_and]
    show x.toBitVec.toNat &&& 63 = (BitVec.ofNat 32 (x.toBitVec.toNat % 64)).toNat
    rw [BitVec.toNat_ofNat, show (63 : Nat) = 2 ^ 6 - 1 from rfl, Nat.and_two_pow_sub_one_eq_mod]
    omega
  exact Int32.toBitVec_inj.mp h
set_option maxHeartbeats 4000000 in
set_option maxRecDepth 100000 in
theorem law_loop (hSR : SimRd) {p : Program} {l : Launch} {e : Env} {s : State} {m : MethodId} {below : List Frame} {meth : Method} {c : Code} {D : va_G} {cy : Nat → ClassId} {ss : Nat → Nat} {ad bd : Nat → Nat} {o o2 b L : Nat} {xs : Nat → Int32} (CX : LX p l s m meth c D cy ss b L xs) (hr : meth.sig.returnType = ret) (hlocks : meth.locks = false) : ∀ (n j : Nat), L + 4 ≤ 4 * j + 4 * n → 4 * j ≤ L + 3 → LH p l e s m below meth c D cy ad bd o o2 b j
  | 0, j, h1, h2 => absurd h1 (by omega)
  | n + 1, j, h1, h2 => by
    intro C M f g H locs ls hR hw hl
    obtain ⟨X, hE, hX, hbl, hbA, hlt, hL⟩ := id CX
    have hx := X.1
    have hb := X.2.1
    refine lv_iload hx hb dL_law_28 (lv_at hl 5 rfl) ?_
    refine lv_aload_n hx hb dL_law_30 rfl (lv_at hl 0 rfl) ?_
    refine va_slen hx hb hX hbl hbA hw.2.2 dL_law_31 ?_
    refine lv_iconst (v := 4) hx hb dL_law_32 (by decide) ?_
    refine lv_isub hx hb dL_law_33 ?_
    refine lv_icmp_gt (tgt := 1789) hx hb dL_law_34 (by decide) (fun _ => ?_) (fun c1 => ?_)
    · refine lv_iconst (v := 1) hx hb dL_law_1789 (by decide) ?_
      refine va_forget (fun q hq => hw.2.2.2.2 q hq) ?_
      refine W.widen (k := 603072) (n := 7202922) (by omega) (by omega) ?_
      refine W.base ?_
      exact lw_ret (Drawn.sameBut.refl s.drawn lw_cs) hx hb hr hlocks dL_law_1790
    · have hj : 4 * j + 4 ≤ L := lw_dx c1 hL (by omega)
      have ih : LH p l e s m below meth c D cy ad bd o o2 b (j + 1) := law_loop hSR CX hr hlocks n (j + 1) (by omega) (by omega)
      refine lv_aload_n hx hb dL_law_37 rfl (lv_at hl 0 rfl) ?_
      refine lv_iload hx hb dL_law_38 (lv_at hl 5 rfl) ?_
      refine va_sld hx hb hX hbl hbA hw.2.2 (lw_i0 hj hL) dL_law_40 ?_
      refine lv_bipush (v := 63) hx hb dL_law_41 (by decide) ?_
      refine lv_iand hx hb dL_law_43 ?_
      obtain ⟨k, hk, ek⟩ := lw_63 (xs (nI (4 * j)).toNatClampNeg)
      rw [ek]
      clear ek
      by_cases c35 : 34 < k
      · refine lv_tableOut (tgt := 1783) hx hb dL_law_44 (.inr ?_) (by decide) ?_
        · rw [nI_toInt (by omega)]
          omega
        · refine lv_iinc (v := nI (4 * (j + 1))) (lv' := [(5, .int (nI (4 * (j + 1)))), (0, .ref b), (1, .ref (ad 92)), (2, .ref (bd 0)), (3, .ref o), (4, .ref o2)]) hx hb dL_law_1783 hl (k := 5) rfl (lw_up j) (by decide) rfl (fun ls hl => ?_)
          refine lv_goto (tgt := 28) hx hb dL_law_1786 (by decide) ?_
          refine W.widen (k := 200 + 4 * (j + 1)) (n := 9000 + 24 * (j + 1)) (by omega) (by omega) ?_
          exact ih _ _ _ _ _ _ _ hR hw (lv_sub hl [1, 2, 3, 4, 5, 0] rfl)
      · have hk2 : k = 0 ∨ k = 1 ∨ k = 2 ∨ k = 3 ∨ k = 4 ∨ k = 5 ∨ k = 6 ∨ k = 7 ∨ k = 8 ∨ k = 9 ∨ k = 10 ∨ k = 11 ∨ k = 12 ∨ k = 13 ∨ k = 14 ∨ k = 15 ∨ k = 16 ∨ k = 17 ∨ k = 18 ∨ k = 19 ∨ k = 20 ∨ k = 21 ∨ k = 22 ∨ k = 23 ∨ k = 24 ∨ k = 25 ∨ k = 26 ∨ k = 27 ∨ k = 28 ∨ k = 29 ∨ k = 30 ∨ k = 31 ∨ k = 32 ∨ k = 33 ∨ k = 34 := by omega
        rcases hk2 with e | e | e | e | e | e | e | e | e | e | e | e | e | e | e | e | e | e | e | e | e | e | e | e | e | e | e | e | e | e | e | e | e | e | e
        · subst e
          exact lv_tableIn (off := 156) (tgt := 200) hx hb dL_law_44 (by decide) (by decide) (by decide) (by decide) (law_setGap CX hj ih hR hw hl)
        · subst e
          exact lv_tableIn (off := 224) (tgt := 268) hx hb dL_law_44 (by decide) (by decide) (by decide) (by decide) (law_setFold CX hj ih hR hw hl)
        · subst e
          exact lv_tableIn (off := 292) (tgt := 336) hx hb dL_law_44 (by decide) (by decide) (by decide) (by decide) (law_setLateness CX hj ih hR hw hl)
        · subst e
          exact lv_tableIn (off := 348) (tgt := 392) hx hb dL_law_44 (by decide) (by decide) (by decide) (by decide) (law_setTrigger CX hj ih hR hw hl)
        · subst e
          exact lv_tableIn (off := 404) (tgt := 448) hx hb dL_law_44 (by decide) (by decide) (by decide) (by decide) (law_reset CX hj ih hR hw hl)
        · subst e
          exact lv_tableIn (off := 417) (tgt := 461) hx hb dL_law_44 (by decide) (by decide) (by decide) (by decide) (law_add CX hj ih hR hw hl)
        · subst e
          exact lv_tableIn (off := 497) (tgt := 541) hx hb dL_law_44 (by decide) (by decide) (by decide) (by decide) (law_advance CX hj ih hR hw hl)
        · subst e
          exact lv_tableIn (off := 553) (tgt := 597) hx hb dL_law_44 (by decide) (by decide) (by decide) (by decide) (law_watermark CX hj ih hR hw hl)
        · subst e
          exact lv_tableIn (off := 566) (tgt := 610) hx hb dL_law_44 (by decide) (by decide) (by decide) (by decide) (law_lateCount CX hj ih hR hw hl)
        · subst e
          exact lv_tableIn (off := 579) (tgt := 623) hx hb dL_law_44 (by decide) (by decide) (by decide) (by decide) (law_isLate CX hj ih hR hw hl)
        · subst e
          exact lv_tableIn (off := 604) (tgt := 648) hx hb dL_law_44 (by decide) (by decide) (by decide) (by decide) (law_recordCount CX hj ih hR hw hl)
        · subst e
          exact lv_tableIn (off := 617) (tgt := 661) hx hb dL_law_44 (by decide) (by decide) (by decide) (by decide) (law_burstCount CX hj ih hR hw hl)
        · subst e
          exact lv_tableIn (off := 630) (tgt := 674) hx hb dL_law_44 (by decide) (by decide) (by decide) (by decide) (law_openCount CX hj ih hR hw hl)
        · subst e
          exact lv_tableIn (off := 643) (tgt := 687) hx hb dL_law_44 (by decide) (by decide) (by decide) (by decide) (law_burst CX hj ih hR hw hl)
        · subst e
          exact lv_tableIn (off := 711) (tgt := 755) hx hb dL_law_44 (by decide) (by decide) (by decide) (by decide) (law_isClosed CX hj ih hR hw hl)
        · subst e
          exact lv_tableIn (off := 774) (tgt := 818) hx hb dL_law_44 (by decide) (by decide) (by decide) (by decide) (law_isDirty CX hj ih hR hw hl)
        · subst e
          exact lv_tableIn (off := 837) (tgt := 881) hx hb dL_law_44 (by decide) (by decide) (by decide) (by decide) (law_burstAt CX hj ih hR hw hl)
        · subst e
          exact lv_tableIn (off := 905) (tgt := 949) hx hb dL_law_44 (by decide) (by decide) (by decide) (by decide) (law_joined CX hj ih hR hw hl)
        · subst e
          exact lv_tableIn (off := 973) (tgt := 1017) hx hb dL_law_44 (by decide) (by decide) (by decide) (by decide) (law_record CX hj ih hR hw hl)
        · subst e
          exact lv_tableIn (off := 1069) (tgt := 1113) hx hb dL_law_44 (by decide) (by decide) (by decide) (by decide) (law_closesAt CX hj ih hR hw hl)
        · subst e
          exact lv_tableIn (off := 1125) (tgt := 1169) hx hb dL_law_44 (by decide) (by decide) (by decide) (by decide) (law_nextClosing CX hj ih hR hw hl)
        · subst e
          exact lv_tableIn (off := 1169) (tgt := 1213) hx hb dL_law_44 (by decide) (by decide) (by decide) (by decide) (law_averageLength CX hj ih hR hw hl)
        · subst e
          exact lv_tableIn (off := 1246) (tgt := 1290) hx hb dL_law_44 (by decide) (by decide) (by decide) (by decide) (law_mergeCount CX hj ih hR hw hl)
        · subst e
          exact lv_tableIn (off := 1259) (tgt := 1303) hx hb dL_law_44 (by decide) (by decide) (by decide) (by decide) (law_regrouped CX hj ih hR hw hl)
        · subst e
          exact lv_tableIn (off := 1315) (tgt := 1359) hx hb dL_law_44 (by decide) (by decide) (by decide) (by decide) (law_fire CX hj ih hR hw hl)
        · subst e
          exact lv_tableIn (off := 1371) (tgt := 1415) hx hb dL_law_44 (by decide) (by decide) (by decide) (by decide) (law_firingCount CX hj ih hR hw hl)
        · subst e
          exact lv_tableIn (off := 1384) (tgt := 1428) hx hb dL_law_44 (by decide) (by decide) (by decide) (by decide) (law_firing CX hj ih hR hw hl)
        · subst e
          exact lv_tableIn (off := 1452) (tgt := 1496) hx hb dL_law_44 (by decide) (by decide) (by decide) (by decide) (law_firings CX hj ih hR hw hl)
        · subst e
          exact lv_tableIn (off := 1508) (tgt := 1552) hx hb dL_law_44 (by decide) (by decide) (by decide) (by decide) (law_balance CX hj ih hR hw hl)
        · subst e
          exact lv_tableIn (off := 1522) (tgt := 1566) hx hb dL_law_44 (by decide) (by decide) (by decide) (by decide) (law_standing CX hj ih hR hw hl)
        · subst e
          exact lv_tableIn (off := 1536) (tgt := 1580) hx hb dL_law_44 (by decide) (by decide) (by decide) (by decide) (law_append CX hj ih hR hw hl)
        · subst e
          exact lv_tableIn (off := 1594) (tgt := 1638) hx hb dL_law_44 (by decide) (by decide) (by decide) (by decide) (law_read hSR CX hj ih hR hw hl)
        · subst e
          exact lv_tableIn (off := 1638) (tgt := 1682) hx hb dL_law_44 (by decide) (by decide) (by decide) (by decide) (law_errorPosition CX hj ih hR hw hl)
        · subst e
          exact lv_tableIn (off := 1682) (tgt := 1726) hx hb dL_law_44 (by decide) (by decide) (by decide) (by decide) (law_save CX hj ih hR hw hl)
        · subst e
          exact lv_tableIn (off := 1695) (tgt := 1739) hx hb dL_law_44 (by decide) (by decide) (by decide) (by decide) (law_restore CX hj ih hR hw hl)
