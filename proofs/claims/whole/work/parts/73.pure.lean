/-! pure: an entry of the log on both sides -/
theorem pz_plo {o q : Nat} (ho : o < 60) (hq : q ≤ 60) {C : CS} (h7 : C.2.1 7 = nI o) : F_X2_placeOf C (nI q) = nI ((o + q) % 60) := by
  unfold F_X2_placeOf
  rw [h7, nI_add]
  have e : (60 : Int32) ≤ nI (o + q) ↔ 60 ≤ o + q := nI_leI (a := 60) (by omega) (by omega)
  by_cases c : 60 ≤ o + q
  · rw [if_pos (e.mpr c)]
    have e2 : nI (o + q) = nI ((o + q) % 60) + nI 60 := by
      rw [nI_add]
      congr 1
      omega
    rw [e2]
    exact Int32.add_sub_cancel _ _
  · rw [if_neg (fun h => c (e.mp h))]
    rw [Nat.mod_eq_of_lt (by omega)]
theorem pz_modne {o i : Nat} (ho : o < 60) (hi : i < 59) : (o + (i + 1)) % 60 ≠ o := by omega
def evN (kd : Nat) (b r f l k : Int32) (j : Nat) : Int32 := if j = 0 then nI kd else if j = 1 then b else if j = 2 then r else if j = 3 then f else if j = 4 then l else k
theorem lgG_lo {g : Nat → Int32} {q kd : Nat} {b r f l k : Int32} {x : Nat} (hx : x < 1423) : lgG g q kd b r f l k x = g x := by
  unfold lgG
  rw [pz_updN (by omega), pz_updN (by omega), pz_updN (by omega), pz_updN (by omega), pz_updN (by omega), pz_updN (by omega), pz_updN (by omega), pz_updN (by omega)]
theorem lgG_n {g : Nat → Int32} {q kd : Nat} {b r f l k : Int32} (hk : kd < 3) : lgG g q kd b r f l k 1426 = nI (q + 1) := by
  unfold lgG
  rw [pz_updN (by omega), pz_updE]
theorem lgG_k {g : Nat → Int32} {q kd : Nat} {b r f l k : Int32} {x : Nat} (hx : x < 3) : lgG g q kd b r f l k (1423 + x) = if x = kd then g (1423 + kd) + 1 else g (1423 + x) := by
  unfold lgG
  by_cases c : x = kd
  · subst c
    rw [if_pos rfl, pz_updE]
  · rw [if_neg c, pz_updN (by omega), pz_updN (by omega), pz_updN (by omega), pz_updN (by omega), pz_updN (by omega), pz_updN (by omega), pz_updN (by omega), pz_updN (by omega)]
theorem lgG_o {g : Nat → Int32} {q kd : Nat} {b r f l k : Int32} {x : Nat} (hk : kd < 3) (hx : 1427 ≤ x) (hn : x < 1427 + 6 * q ∨ 1427 + 6 * q + 6 ≤ x) : lgG g q kd b r f l k x = g x := by
  unfold lgG
  rw [pz_updN (by omega), pz_updN (by omega), pz_updN (by omega), pz_updN (by omega), pz_updN (by omega), pz_updN (by omega), pz_updN (by omega), pz_updN (by omega)]
theorem lgG_e {g : Nat → Int32} {q kd : Nat} {b r f l k : Int32} {j : Nat} (hk : kd < 3) (hj : j < 6) : lgG g q kd b r f l k (1427 + 6 * q + j) = evN kd b r f l k j := by
  unfold lgG evN
  have hj6 : j = 0 ∨ j = 1 ∨ j = 2 ∨ j = 3 ∨ j = 4 ∨ j = 5 := by omega
  rcases hj6 with e | e | e | e | e | e <;> subst e
  · rw [pz_updN (by omega), pz_updN (by omega), pz_updN (by omega), pz_updN (by omega), pz_updN (by omega), pz_updN (by omega), pz_updN (by omega), Nat.add_zero, pz_updE]; rfl
  · rw [pz_updN (by omega), pz_updN (by omega), pz_updN (by omega), pz_updN (by omega), pz_updN (by omega), pz_updN (by omega), pz_updE]; rfl
  · rw [pz_updN (by omega), pz_updN (by omega), pz_updN (by omega), pz_updN (by omega), pz_updN (by omega), pz_updE]; rfl
  · rw [pz_updN (by omega), pz_updN (by omega), pz_updN (by omega), pz_updN (by omega), pz_updE]; rfl
  · rw [pz_updN (by omega), pz_updN (by omega), pz_updN (by omega), pz_updE]; rfl
  · rw [pz_updN (by omega), pz_updN (by omega), pz_updE]; rfl
def Lgd (n : Nat) (C M D N : CS) : Prop := FrC C D ∧ FrM M N ∧ RN n D N ∧ (∀ k, k < 14 → D.1 k = C.1 k) ∧ (∀ k, k < 7 → D.2.1 k = C.2.1 k) ∧ (∀ x, x < 1423 → N.1 0 x = M.1 0 x)
theorem Lgd.mk2 {n : Nat} {C M D N : CS} (h : RN n C M) (h1 : FrC C D) (h2 : FrM M N) (h3 : ∀ k, k < 14 → D.1 k = C.1 k) (h4 : ∀ k, k < 7 → D.2.1 k = C.2.1 k) (h5 : ∀ x, x < 1423 → N.1 0 x = M.1 0 x) (h6 : D.2.2 0 = N.2.2 0) (h7 : RLog D.1 D.2.1 (N.1 0)) : Lgd n C M D N := by
  have hn := h.n
  refine ⟨h1, h2, ⟨hn, h.2.1.cg (h3 0 (by omega)) (h3 1 (by omega)) h4 (fun x hx => h5 x (by omega)) h6, h.2.2.1.cg (fun k _ hk => h3 k hk) (fun x _ hx => h5 x (by omega)), h.2.2.2.1.cg (fun k _ hk => h3 k (by omega)) (fun x hx => h5 x (by omega)) (fun b hb => ⟨h5 _ (by omega), h5 _ (by omega)⟩), h7⟩, h3, h4, h5⟩
/-- what the class's entry leaves -/
theorem pz_ent {C : CS} {q o kd : Nat} {b r f l k : Int32} (h7 : C.2.1 7 = nI o) (h8 : C.2.1 8 = nI q) (ho : o < 60) (hq : q ≤ 60) (hk : kd < 3) :
    (∀ j, j < 14 → (F_X2_enter C (nI kd) b r f l k).1 j = C.1 j) ∧ (∀ j, 21 ≤ j → (F_X2_enter C (nI kd) b r f l k).1 j = C.1 j) ∧ (∀ j, j < 6 → (F_X2_enter C (nI kd) b r f l k).1 (14 + j) = upd (C.1 (14 + j)) ((o + q) % 60) (evN kd b r f l k j)) ∧
    (F_X2_enter C (nI kd) b r f l k).1 20 = upd (C.1 20) kd (C.1 20 kd + 1) ∧ (∀ j, j ≠ 7 → j ≠ 8 → (F_X2_enter C (nI kd) b r f l k).2.1 j = C.2.1 j) ∧ (F_X2_enter C (nI kd) b r f l k).2.1 7 = (if q = 60 then nI ((o + 1) % 60) else nI o) ∧ (F_X2_enter C (nI kd) b r f l k).2.1 8 = (if q = 60 then nI q else nI (q + 1)) ∧
    (F_X2_enter C (nI kd) b r f l k).2.2 0 = lgB (C.2.2 0) kd r ∧ ∀ j, 1 ≤ j → (F_X2_enter C (nI kd) b r f l k).2.2 j = C.2.2 j := by
  have e : (60 : Int32) ≤ nI q ↔ q = 60 := by
    rw [show (60 : Int32) = nI 60 from rfl, nI_leI (by omega) (by omega)]
    omega
  have hp : (o + q) % 60 < 60 := by omega
  have e1 : F_X2_placeOf C (nI q) = nI ((o + q) % 60) := pz_plo ho hq h7
  have e2 : ∀ D : CS, D.2.1 7 = nI o → F_X2_placeOf D 1 = nI ((o + 1) % 60) := fun D hD => pz_plo (q := 1) ho (by omega) hD
  have e3 := pz_kd2 hk
  unfold F_X2_enter
  simp only [pz_bnd, e1, pz_rPut _ _ hp (show 60 ≤ 2000 by omega), pz_rPut _ _ hk (show 3 ≤ 2000 by omega), pz_rAt _ hk (show 3 ≤ 2000 by omega), pz_RI, h8, e]
  by_cases c : q = 60
  · simp only [if_pos c]
    rw [e2 _ (by simp only [pz_RI]; exact h7)]
    by_cases c2 : kd = 2
    · simp only [if_pos (e3.mpr c2)]
      refine ⟨fun j hj => ?_, fun j hj => ?_, fun j hj => ?_, ?_, fun j h1 h2 => ?_, ?_, ?_, ?_, fun j hj => ?_⟩
      · simp only [pz_LR, pz_R, pz_IR]
        rw [if_neg (by omega), if_neg (by omega), if_neg (by omega), if_neg (by omega), if_neg (by omega), if_neg (by omega), if_neg (by omega)]
      · simp only [pz_LR, pz_R, pz_IR]
        rw [if_neg (by omega), if_neg (by omega), if_neg (by omega), if_neg (by omega), if_neg (by omega), if_neg (by omega), if_neg (by omega)]
      · have hj6 : j = 0 ∨ j = 1 ∨ j = 2 ∨ j = 3 ∨ j = 4 ∨ j = 5 := by omega
        rcases hj6 with e | e | e | e | e | e <;> subst e <;> simp [pz_LR, pz_R, pz_IR, evN]
      · simp [pz_LR, pz_R, pz_IR]
      · simp [pz_LI, pz_RI, pz_I, h1]
      · simp [pz_LI, pz_RI, pz_I]
      · simp [pz_LI, pz_RI, pz_I, h8]
      · simp [pz_L, pz_RL, pz_IL, lgB, c2]
      · simp [pz_L, pz_RL, pz_IL, show ¬ j = 0 by omega]
    · simp only [if_neg (fun hh => c2 (e3.mp hh))]
      refine ⟨fun j hj => ?_, fun j hj => ?_, fun j hj => ?_, ?_, fun j h1 h2 => ?_, ?_, ?_, ?_, fun j hj => ?_⟩
      · simp only [pz_LR, pz_R, pz_IR]
        rw [if_neg (by omega), if_neg (by omega), if_neg (by omega), if_neg (by omega), if_neg (by omega), if_neg (by omega), if_neg (by omega)]
      · simp only [pz_LR, pz_R, pz_IR]
        rw [if_neg (by omega), if_neg (by omega), if_neg (by omega), if_neg (by omega), if_neg (by omega), if_neg (by omega), if_neg (by omega)]
      · have hj6 : j = 0 ∨ j = 1 ∨ j = 2 ∨ j = 3 ∨ j = 4 ∨ j = 5 := by omega
        rcases hj6 with e | e | e | e | e | e <;> subst e <;> simp [pz_LR, pz_R, pz_IR, evN]
      · simp [pz_LR, pz_R, pz_IR]
      · simp [pz_LI, pz_RI, pz_I, h1]
      · simp [pz_LI, pz_RI, pz_I]
      · simp [pz_LI, pz_RI, pz_I, h8]
      · simp [pz_L, pz_RL, pz_IL, lgB, c2]
      · simp [pz_L, pz_RL, pz_IL, show ¬ j = 0 by omega]
  · simp only [if_neg c]
    by_cases c2 : kd = 2
    · simp only [if_pos (e3.mpr c2)]
      refine ⟨fun j hj => ?_, fun j hj => ?_, fun j hj => ?_, ?_, fun j h1 h2 => ?_, ?_, ?_, ?_, fun j hj => ?_⟩
      · simp only [pz_LR, pz_R, pz_IR]
        rw [if_neg (by omega), if_neg (by omega), if_neg (by omega), if_neg (by omega), if_neg (by omega), if_neg (by omega), if_neg (by omega)]
      · simp only [pz_LR, pz_R, pz_IR]
        rw [if_neg (by omega), if_neg (by omega), if_neg (by omega), if_neg (by omega), if_neg (by omega), if_neg (by omega), if_neg (by omega)]
      · have hj6 : j = 0 ∨ j = 1 ∨ j = 2 ∨ j = 3 ∨ j = 4 ∨ j = 5 := by omega
        rcases hj6 with e | e | e | e | e | e <;> subst e <;> simp [pz_LR, pz_R, pz_IR, evN]
      · simp [pz_LR, pz_R, pz_IR]
      · simp [pz_LI, pz_RI, pz_I, h2]
      · simp [pz_LI, pz_RI, pz_I, h7]
      · simp [pz_LI, pz_RI, pz_I, pz_s1]
      · simp [pz_L, pz_RL, pz_IL, lgB, c2]
      · simp [pz_L, pz_RL, pz_IL, show ¬ j = 0 by omega]
    · simp only [if_neg (fun hh => c2 (e3.mp hh))]
      refine ⟨fun j hj => ?_, fun j hj => ?_, fun j hj => ?_, ?_, fun j h1 h2 => ?_, ?_, ?_, ?_, fun j hj => ?_⟩
      · simp only [pz_LR, pz_R, pz_IR]
        rw [if_neg (by omega), if_neg (by omega), if_neg (by omega), if_neg (by omega), if_neg (by omega), if_neg (by omega), if_neg (by omega)]
      · simp only [pz_LR, pz_R, pz_IR]
        rw [if_neg (by omega), if_neg (by omega), if_neg (by omega), if_neg (by omega), if_neg (by omega), if_neg (by omega), if_neg (by omega)]
      · have hj6 : j = 0 ∨ j = 1 ∨ j = 2 ∨ j = 3 ∨ j = 4 ∨ j = 5 := by omega
        rcases hj6 with e | e | e | e | e | e <;> subst e <;> simp [pz_LR, pz_R, pz_IR, evN]
      · simp [pz_LR, pz_R, pz_IR]
      · simp [pz_LI, pz_RI, pz_I, h2]
      · simp [pz_LI, pz_RI, pz_I, h7]
      · simp [pz_LI, pz_RI, pz_I, pz_s1]
      · simp [pz_L, pz_RL, pz_IL, lgB, c2]
      · simp [pz_L, pz_RL, pz_IL, show ¬ j = 0 by omega]
theorem RN.log {n : Nat} {C M : CS} (h : RN n C M) {kd b : Nat} (hk : kd < 3) (hb : b < n) (r f l : Int32) : S_X7_logs M (nI kd) (nI b) r f l ∧ Lgd n C M (F_X2_enter C (nI kd) (nI b) r f l (mB (M.1 0) b 1)) (F_X7_logs M (nI kd) (nI b) r f l) := by
  have hn := h.n
  obtain ⟨q, o, a1, a2, a3, a4, a5, a6, a7, a8⟩ := h.2.2.2.2
  have hM := pz_logs M (M.1 0) (M.2.2 0) (kd := kd) (b := b) r f l a5 a1 hk (by omega)
  rw [mG_self] at hM
  refine ⟨hM.1, ?_⟩
  rw [hM.2]
  obtain ⟨b1, b2, b3, b4, b5, b6, b7, b8, b9⟩ := pz_ent (b := nI b) (r := r) (f := f) (l := l) (k := mB (M.1 0) b 1) a6 a4 a2 a1 hk
  generalize F_X2_enter C (nI kd) (nI b) r f l (mB (M.1 0) b 1) = D at *
  refine Lgd.mk2 h ⟨b2, fun j hj => b5 j (by omega) (by omega), b9⟩ (mG_fr _ _ _) b1 (fun j hj => b5 j (by omega) (by omega)) (fun x hx => ?_) (by rw [b8, mG_B, h.bal]) ?_
  · rw [mG_g]
    by_cases c : q = 60
    · rw [if_pos c, lgG_lo hx, pz_updN (by omega)]
      exact if_neg (by omega)
    · rw [if_neg c, lgG_lo hx]
  · rw [mG_g]
    by_cases c : q = 60
    · rw [if_pos c] at b6 b7 ⊢
      refine ⟨60, (o + 1) % 60, by omega, by omega, fun hh => by omega, by rw [b7, c], lgG_n hk, b6, fun j hj i hi => ?_, fun k hk3 => ?_⟩
      · rw [b3 j hj]
        rcases Nat.lt_or_ge i 59 with h2 | h2
        · have e9 : ((o + 1) % 60 + i) % 60 = (o + (i + 1)) % 60 := by
            rw [Nat.mod_add_mod]
            congr 1
            omega
          have e8 : (o + q) % 60 = o := by omega
          have e7 : (o + (i + 1)) % 60 ≠ o := pz_modne a2 h2
          rw [e9, e8, pz_updN e7, lgG_o hk (by omega) (by omega), pz_updN (by omega), a7 j hj (i + 1) (by omega)]
          unfold shG
          rw [if_pos (by omega), show 1427 + 6 * (i + 1) + j = 1427 + 6 * i + j + 6 by omega]
        · have e : i = 59 := by omega
          subst e
          have e9 : ((o + 1) % 60 + 59) % 60 = (o + q) % 60 := by
            rw [Nat.mod_add_mod]
            omega
          rw [e9, pz_updE, lgG_e hk hj]
      · rw [b4, lgG_k hk3]
        have e9 : ∀ x, x < 3 → upd (shG (M.1 0) 354) 1426 (nI 59) (1423 + x) = M.1 0 (1423 + x) := fun x hx => by
          rw [pz_updN (by omega)]
          exact if_neg (by omega)
        rw [e9 kd hk, e9 k hk3]
        by_cases c2 : k = kd
        · subst c2
          rw [if_pos rfl, pz_updE, a8 k hk3]
        · rw [if_neg c2, pz_updN c2, a8 k hk3]
    · rw [if_neg c] at b6 b7 ⊢
      have e0 := a3 (by omega)
      subst e0
      refine ⟨q + 1, 0, by omega, by omega, fun _ => rfl, b7, lgG_n hk, b6, fun j hj i hi => ?_, fun k hk3 => ?_⟩
      · rw [b3 j hj]
        rcases Nat.lt_or_ge i q with h2 | h2
        · rw [pz_updN (by omega), lgG_o hk (by omega) (by omega), a7 j hj i h2]
        · have e : i = q := by omega
          subst e
          rw [pz_updE, lgG_e hk hj]
      · rw [b4, lgG_k hk3]
        by_cases c2 : k = kd
        · subst c2
          rw [if_pos rfl, pz_updE, a8 k hk3]
        · rw [if_neg c2, pz_updN c2, a8 k hk3]
