/-! pure: grouped anew -/
def tN (g : Nat → Int32) (r : Nat) : Nat := (mK g r 1).toNatClampNeg
theorem RN.tE {n : Nat} {C M : CS} (h : RN n C M) {r : Nat} (hr : r < n) : mK (M.1 0) r 1 = nI (tN (M.1 0) r) ∧ tN (M.1 0) r ≤ 9999 := pz_cl (h.tim hr) (by omega)
def ahB (g : Nat → Int32) (gp : Nat) (key : Int32) (r q : Nat) : Bool := decide (mK g q 0 = key ∧ ((tN g q < tN g r ∧ tN g r ≤ tN g q + gp) ∨ (tN g q = tN g r ∧ q < r)))
def bgB (g : Nat → Int32) (gp n : Nat) (key : Int32) (r : Nat) : Bool := decide (mK g r 0 = key ∧ cN (ahB g gp key r) n = 0)
theorem RN.bef {n : Nat} {C M : CS} (h : RN n C M) {a b : Nat} (ha : a < n) (hb : b < n) : RBef (M.1 0) a b ↔ (tN (M.1 0) a < tN (M.1 0) b ∨ (tN (M.1 0) a = tN (M.1 0) b ∧ a < b)) := by
  obtain ⟨e1, h1⟩ := h.tE ha
  obtain ⟨e2, h2⟩ := h.tE hb
  unfold RBef
  rw [e1, e2, nI_ltI (by omega) (by omega), nI_eq (by omega) (by omega)]
theorem pz_off {a b : Nat} (ha : a ≤ 20000) (hb : b ≤ 20000) : (nI a - nI b).toInt = (a : Int) - b := by
  rw [Int32.toInt_sub, nI_toInt (by omega), nI_toInt (by omega)]
  exact Int.bmod_eq_of_le (by omega) (by omega)
theorem pz_off0 {a b : Nat} (ha : a ≤ 20000) (hb : b ≤ 20000) : nI a - nI b ≤ 0 ↔ a ≤ b := by
  rw [Int32.le_iff_toInt_le, pz_off ha hb, show (0 : Int32).toInt = 0 from rfl]
  omega
theorem pz_offE {a b : Nat} (ha : a ≤ 20000) (hb : b ≤ 20000) : nI a - nI b = 0 ↔ a = b := by
  rw [← Int32.toInt_inj, pz_off ha hb, show (0 : Int32).toInt = 0 from rfl]
  omega
theorem pz_offG {a b k : Nat} (ha : a ≤ 20000) (hb : b ≤ 20000) (hk : k ≤ 20000) : nI a - nI b ≤ nI k ↔ a ≤ b + k := by
  rw [Int32.le_iff_toInt_le, pz_off ha hb, nI_toInt (by omega)]
  omega
theorem RN.beg {n : Nat} {C M : CS} (h : RN n C M) {k gp : Nat} (hk : k < 8) (eg : M.1 0 (1402 + k) = nI gp) (hg : gp ≤ 50) {r : Nat} (hr : r < n) : S_X7_begins M (nI r) (nI k) ∧ F_X7_begins M (nI r) (nI k) = if bgB (M.1 0) gp n (nI k) r then 1 else 0 := by
  have hn := h.n
  have e0 : (1402 : Int32) + nI k = nI (1402 + k) := nI_add 1402 k
  have key : ∀ v0 : Int32, v0 = (if mK (M.1 0) r 0 = nI k then 1 else 0) → lpS (fun (z : Int32 × Int32) => st_X7_begins_23 (nI r) (nI k) M z.1 z.2) (fun (z : Int32 × Int32) => Sst_X7_begins_23 (nI r) (nI k) M z.1 z.2) (n + 1) (0, v0) ∧ lp (fun (z : Int32 × Int32) => st_X7_begins_23 (nI r) (nI k) M z.1 z.2) 0 (n + 1) (0, v0) = if bgB (M.1 0) gp n (nI k) r then 1 else 0 := by
    intro v0 e9
    refine pz_bo (fun i (s : Int32 × Int32) => s.1 = nI i ∧ s.2 = if mK (M.1 0) r 0 = nI k ∧ cN (ahB (M.1 0) gp (nI k) r) i = 0 then 1 else 0) (fun x => x = if bgB (M.1 0) gp n (nI k) r then 1 else 0) n (fun i s hi hs => ?_) (fun s hs => ?_) n 0 (0, v0) (by omega) ⟨rfl, ?_⟩
    · obtain ⟨x, v⟩ := s
      obtain ⟨a1, a2⟩ := hs
      have a1 : x = nI i := a1
      subst a1
      have a2 : v = _ := a2
      obtain ⟨e1, h1⟩ := h.tE hr
      obtain ⟨e2, h2⟩ := h.tE hi
      have ecn : cN (ahB (M.1 0) gp (nI k) r) (i + 1) = cN (ahB (M.1 0) gp (nI k) r) i + if ahB (M.1 0) gp (nI k) r i then 1 else 0 := rfl
      have e3 : nI r ≤ nI i ↔ r ≤ i := nI_leI (by omega) (by omega)
      have e4 : M.1 0 (4 * r + 1) = nI (tN (M.1 0) r) := e1
      have e5 : M.1 0 (4 * i + 1) = nI (tN (M.1 0) i) := e2
      have e6 := pz_off0 (a := tN (M.1 0) r) (b := tN (M.1 0) i) (by omega) (by omega)
      have e7 := pz_offE (a := tN (M.1 0) r) (b := tN (M.1 0) i) (by omega) (by omega)
      have e8 := pz_offG (a := tN (M.1 0) r) (b := tN (M.1 0) i) (k := gp) (by omega) (by omega) (by omega)
      show Sst_X7_begins_23 (nI r) (nI k) M (nI i) v ∧ ((∃ s', st_X7_begins_23 (nI r) (nI k) M (nI i) v = .inl s' ∧ _) ∨ _)
      unfold Sst_X7_begins_23 st_X7_begins_23
      simp only [h.m4, if_neg (pz_ge hi (show n ≤ 2000 by omega)), pz_rc1 (show r ≤ 100 by omega), pz_rc1 (show i ≤ 100 by omega), pz_rc0 (show i ≤ 100 by omega), e0, nI_clamp (show 1402 + k < 2 ^ 31 by omega), e4, e5, eg, e6, e7, e8, e3, pz_s1]
      refine ⟨⟨pz_rv1 (by omega), pz_rv1 (by omega), ?_⟩, .inl ?_⟩
      · have z1 : vp_in (4 * nI i + 0) 1787 := pz_rv0 (by omega)
        have z2 : vp_in (nI (1402 + k)) 1787 := pz_vin (by omega)
        repeat' split
        all_goals first | exact trivial | exact ⟨z1, trivial⟩ | (refine ⟨z2, ?_⟩; repeat' split) 
        all_goals first | exact trivial | exact ⟨z1, trivial⟩
      · by_cases c : ahB (M.1 0) gp (nI k) r i = true
        · have c2 := of_decide_eq_true c
          have c3 : M.1 0 (4 * i + 0) = nI k := c2.1
          rw [c, if_pos rfl] at ecn
          have e9 : (if mK (M.1 0) r 0 = nI k ∧ cN (ahB (M.1 0) gp (nI k) r) (i + 1) = 0 then (1 : Int32) else 0) = 0 := if_neg (fun hh => by omega)
          refine ⟨(nI (i + 1), 0), ?_, rfl, e9.symm⟩
          rcases c2.2 with ⟨d1, d2⟩ | ⟨d1, d2⟩
          · rw [if_neg (show ¬ tN (M.1 0) r ≤ tN (M.1 0) i by omega), if_pos d2]
            by_cases c4 : v = 0
            · rw [if_pos c4]
            · rw [if_neg c4, if_pos c3]
          · rw [if_pos (show tN (M.1 0) r ≤ tN (M.1 0) i by omega), if_pos (show tN (M.1 0) r = tN (M.1 0) i by omega), if_neg (show ¬ r ≤ i by omega)]
            by_cases c4 : v = 0
            · rw [if_pos c4]
            · rw [if_neg c4, if_pos c3]
        · have c' : ahB (M.1 0) gp (nI k) r i = false := Bool.not_eq_true _ ▸ c
          rw [c', if_neg (by decide), Nat.add_zero] at ecn
          have c2 : ¬ (mK (M.1 0) i 0 = nI k ∧ ((tN (M.1 0) i < tN (M.1 0) r ∧ tN (M.1 0) r ≤ tN (M.1 0) i + gp) ∨ (tN (M.1 0) i = tN (M.1 0) r ∧ i < r))) := fun hh => c (decide_eq_true hh)
          refine ⟨(nI (i + 1), v), ?_, rfl, by rw [ecn]; exact a2⟩
          have v01 : v = 0 ∨ v = 1 := by
            rw [a2]
            split
            · exact .inr rfl
            · exact .inl rfl
          rcases v01 with e | e <;> subst e
          · simp only [if_true]
            repeat' split
            all_goals rfl
          · simp only [if_neg pz_i10]
            by_cases c3 : M.1 0 (4 * i + 0) = nI k
            · have c4 : ¬ ((tN (M.1 0) i < tN (M.1 0) r ∧ tN (M.1 0) r ≤ tN (M.1 0) i + gp) ∨ (tN (M.1 0) i = tN (M.1 0) r ∧ i < r)) := fun hh => c2 ⟨c3, hh⟩
              by_cases d1 : tN (M.1 0) r ≤ tN (M.1 0) i
              · rw [if_pos d1]
                by_cases d2 : tN (M.1 0) r = tN (M.1 0) i
                · rw [if_pos d2, if_pos (show r ≤ i by omega), if_pos c3]
                · rw [if_neg d2, if_pos c3]
              · rw [if_neg d1, if_neg (show ¬ tN (M.1 0) r ≤ tN (M.1 0) i + gp by omega), if_neg (show ¬ tN (M.1 0) r = tN (M.1 0) i by omega), if_pos c3]
            · simp only [if_neg c3]
              repeat' split
              all_goals rfl
    · obtain ⟨x, v⟩ := s
      obtain ⟨a1, a2⟩ := hs
      have a1 : x = nI n := a1
      subst a1
      have a2 : v = _ := a2
      show Sst_X7_begins_23 (nI r) (nI k) M (nI n) v ∧ ∃ x, st_X7_begins_23 (nI r) (nI k) M (nI n) v = .inr x ∧ _
      unfold Sst_X7_begins_23 st_X7_begins_23
      rw [h.m4, if_pos (pz_leR n (by omega)), if_pos (pz_leR n (by omega))]
      refine ⟨trivial, _, rfl, ?_⟩
      rw [a2]
      unfold bgB
      simp only [decide_eq_true_eq]
    · show v0 = _
      rw [e9]
      have : cN (ahB (M.1 0) gp (nI k) r) 0 = 0 := rfl
      simp only [this, and_true]
  unfold S_X7_begins F_X7_begins
  rw [pz_rc0 (by omega), h.m4, pz_fu (by omega)]
  by_cases c : M.1 0 (4 * r + 0) = nI k
  · rw [if_pos c, if_pos c]
    have := key 1 (if_pos c).symm
    exact ⟨⟨pz_rv0 (by omega), this.1⟩, this.2⟩
  · rw [if_neg c, if_neg c]
    have := key 0 (if_neg c).symm
    exact ⟨⟨pz_rv0 (by omega), this.1⟩, this.2⟩
theorem pz_cN0 {p : Nat → Bool} {n : Nat} : cN p n = 0 ↔ ∀ i, i < n → p i = false := by
  induction n with
  | zero => exact ⟨fun _ i hi => by omega, fun _ => rfl⟩
  | succ n ih =>
    show cN p n + (if p n then 1 else 0) = 0 ↔ _
    constructor
    · intro h i hi
      have h1 : cN p n = 0 := by omega
      rcases Nat.lt_or_ge i n with h2 | h2
      · exact ih.mp h1 i h2
      · have e : i = n := by omega
        subst e
        cases c : p i
        · rfl
        · rw [c] at h; simp at h
    · intro h
      rw [ih.mpr (fun i hi => h i (by omega)), h n (by omega)]
      rfl
theorem sim_regrouped {C M : CS} (hR : Rel C M) (q1 : Int32) : S_X7_regrouped M q1 ∧ SimI ["java/lang/IndexOutOfBoundsException"] (F_X6_regrouped C q1) (F_X7_regrouped M q1).1 ((F_X7_regrouped M q1).2.2.1 0) ∧ Rel C (F_X7_regrouped M q1).2 := by
  obtain ⟨n, h⟩ := hR.rn
  have hn := h.n
  unfold S_X7_regrouped F_X6_regrouped F_X7_regrouped
  rw [pz_needKey]
  by_cases hk : F_X7_isKey q1 = 0
  · simp only [hk, pz_bnd, if_true, pz_xl]
    exact ⟨trivial, simI_l rfl pz_i10, rel_thr hR 1⟩
  · obtain ⟨k, hk8, e⟩ := pz_keyN hk
    subst e
    simp only [hk, pz_bnd, if_false, pz_xr]
    obtain ⟨gp, hg1, hg2, eg⟩ := (h.gap hk8).2
    obtain ⟨-, -, L, h3, h4, h5⟩ := h.rec
    have e1 : lpS (fun (z : Int32 × Int32) => st_X7_regrouped_17 (nI k) M z.1 z.2) (fun (z : Int32 × Int32) => Sst_X7_regrouped_17 (nI k) M z.1 z.2) (n + 1) (0, 0) ∧ lp (fun (z : Int32 × Int32) => st_X7_regrouped_17 (nI k) M z.1 z.2) (0, M) (n + 1) (0, 0) = (nI (cN (bgB (M.1 0) gp n (nI k)) n), sI M 0 0) := by
      refine pz_bcnt (bgB (M.1 0) gp n (nI k)) (fun v => (v, sI M 0 0)) n (fun i a hi => ?_) (fun a => ?_)
      · show Sst_X7_regrouped_17 (nI k) M (nI i) a ∧ st_X7_regrouped_17 (nI k) M (nI i) a = _
        unfold Sst_X7_regrouped_17 st_X7_regrouped_17
        have e := h.beg hk8 eg hg2 hi
        rw [h.m4, if_neg (pz_ge hi (by omega)), if_neg (pz_ge hi (by omega)), pz_bnd, e.2, pz_s1]
        refine ⟨⟨e.1, trivial⟩, ?_⟩
        cases c : bgB (M.1 0) gp n (nI k) i <;> simp
      · show Sst_X7_regrouped_17 (nI k) M (nI n) a ∧ st_X7_regrouped_17 (nI k) M (nI n) a = _
        unfold Sst_X7_regrouped_17 st_X7_regrouped_17
        rw [h.m4, if_pos (pz_leR n (by omega)), if_pos (pz_leR n (by omega))]
        exact ⟨trivial, rfl⟩
    have hkey : ∀ i, i < n → C.1 5 (C.1 4 i).toNatClampNeg = mK (M.1 0) (L.getD i 0) 0 ∧ rAt 100 (C.1 5) (C.1 4 i) = mK (M.1 0) (L.getD i 0) 0 := fun i hi => by
      obtain ⟨b, hb, f1, f2, _⟩ := h.own (pz_getD h3 hi)
      rw [(h5 i hi).2.2, f1, nI_clamp (by omega), pz_rAt _ (by omega) (by omega), h.key hb, f2]
      exact ⟨rfl, rfl⟩
    have e2 : F_X1_groupAnew C (nI k) = nI (cN (bgB (M.1 0) gp n (nI k)) n) := by
      rw [← pz_cN_perm h3]
      unfold F_X1_groupAnew
      rw [h.c5, pz_fu (by omega)]
      refine pz_ho (fun i (s : Int32 × Int32 × Int32) => s.1 = nI i ∧ s.2.2 = nI (cN (fun j => bgB (M.1 0) gp n (nI k) (L.getD j 0)) i) ∧ (((∀ j, j < i → ¬ mK (M.1 0) (L.getD j 0) 0 = nI k) ∧ cN (fun j => bgB (M.1 0) gp n (nI k) (L.getD j 0)) i = 0) ∨ ∃ j0, j0 < i ∧ mK (M.1 0) (L.getD j0 0) 0 = nI k ∧ (∀ j, j0 < j → j < i → ¬ mK (M.1 0) (L.getD j 0) 0 = nI k) ∧ s.2.1 = nI (tN (M.1 0) (L.getD j0 0)) ∧ cN (fun j => bgB (M.1 0) gp n (nI k) (L.getD j 0)) i ≠ 0)) (fun r => r = nI (cN (fun j => bgB (M.1 0) gp n (nI k) (L.getD j 0)) n)) n (fun i s hi hs => .inl ?_) (fun s hs => ?_) n 0 (0, 0, 0) (by omega) ⟨rfl, rfl, .inl ⟨fun j hj => by omega, rfl⟩⟩
      · obtain ⟨x, t, v⟩ := s
        obtain ⟨a1, a2, a3⟩ := hs
        have a1 : x = nI i := a1
        subst a1
        have a2 : v = nI (cN (fun j => bgB (M.1 0) gp n (nI k) (L.getD j 0)) i) := a2
        have hL := pz_getD h3 hi
        have ecn : cN (fun j => bgB (M.1 0) gp n (nI k) (L.getD j 0)) (i + 1) = cN (fun j => bgB (M.1 0) gp n (nI k) (L.getD j 0)) i + if bgB (M.1 0) gp n (nI k) (L.getD i 0) then 1 else 0 := rfl
        have hci := pz_cN_le (fun j => bgB (M.1 0) gp n (nI k) (L.getD j 0)) i
        show ∃ s', st_X1_groupAnew_7 (nI k) C (nI i) t v = .inl s' ∧ _
        unfold st_X1_groupAnew_7
        rw [h.c5, if_neg (pz_ge hi (by omega)), pz_bnd, pz_rAt _ (by omega) (by omega), pz_bnd, (hkey i hi).2, pz_bnd, pz_rAt _ (by omega) (by omega), (h5 i hi).1, pz_bnd, pz_rAt _ hk8 (by omega), (h.gap hk8).1, eg, (h.tE hL).1, pz_s1]
        have ht := (h.tE hL).2
        by_cases c : mK (M.1 0) (L.getD i 0) 0 = nI k
        · rw [if_pos c]
          rcases a3 with ⟨b1, b2⟩ | ⟨j0, b1, b2, b3, b4, b5⟩
          · rw [if_pos (show v = 0 by rw [a2, b2]; rfl)]
            have hb : bgB (M.1 0) gp n (nI k) (L.getD i 0) = true := by
              refine decide_eq_true ⟨c, pz_cN0.mpr (fun q hq => ?_)⟩
              refine decide_eq_false (fun hh => ?_)
              obtain ⟨j, hj, ej⟩ := pz_mem_L h3 hq
              have hbf : RBef (M.1 0) (L.getD j 0) (L.getD i 0) := (h.bef (pz_getD h3 hj) hL).mpr (by rw [ej]; omega)
              have := (pz_bef_i h3 h4 hi hj).mp hbf
              exact b1 j this (by rw [ej]; exact hh.1)
            rw [hb, if_pos rfl] at ecn
            refine ⟨_, rfl, rfl, ?_, .inr ⟨i, by omega, c, fun j h6 h7 => by omega, rfl, by omega⟩⟩
            show v + 1 = _
            rw [a2, pz_s1, ecn]
          · have b4 : t = nI (tN (M.1 0) (L.getD j0 0)) := b4
            have hL0 := pz_getD h3 (show j0 < n by omega)
            have ht0 := (h.tE hL0).2
            rw [if_neg (show ¬ v = 0 by rw [a2]; intro hh; exact b5 ((nI_eq (b := 0) (by omega) (by omega)).mp hh)), b4, nI_add]
            have e3 : nI (tN (M.1 0) (L.getD i 0)) ≤ nI (tN (M.1 0) (L.getD j0 0) + gp) ↔ tN (M.1 0) (L.getD i 0) ≤ tN (M.1 0) (L.getD j0 0) + gp := nI_leI (by omega) (by omega)
            by_cases c2 : tN (M.1 0) (L.getD i 0) ≤ tN (M.1 0) (L.getD j0 0) + gp
            · rw [if_pos (e3.mpr c2)]
              have hb : bgB (M.1 0) gp n (nI k) (L.getD i 0) = false := by
                refine decide_eq_false (fun hh => ?_)
                have h8 := pz_cN0.mp hh.2 (L.getD j0 0) hL0
                have h9 := of_decide_eq_false h8
                have hbf := (h.bef hL0 hL).mp ((pz_bef_i h3 h4 hi (show j0 < n by omega)).mpr b1)
                exact h9 ⟨b2, by omega⟩
              rw [hb, if_neg (by decide), Nat.add_zero] at ecn
              exact ⟨_, rfl, rfl, by rw [ecn]; exact a2, .inr ⟨i, by omega, c, fun j h6 h7 => by omega, rfl, by omega⟩⟩
            · rw [if_neg (fun hh => c2 (e3.mp hh))]
              have hb : bgB (M.1 0) gp n (nI k) (L.getD i 0) = true := by
                refine decide_eq_true ⟨c, pz_cN0.mpr (fun q hq => ?_)⟩
                refine decide_eq_false (fun hh => ?_)
                obtain ⟨j, hj, ej⟩ := pz_mem_L h3 hq
                have hbf : RBef (M.1 0) (L.getD j 0) (L.getD i 0) := (h.bef (pz_getD h3 hj) hL).mpr (by rw [ej]; omega)
                have hji := (pz_bef_i h3 h4 hi hj).mp hbf
                have hj0 : j ≤ j0 := Nat.le_of_not_lt (fun h6 => b3 j h6 hji (by rw [ej]; exact hh.1))
                rcases Nat.lt_or_ge j j0 with h6 | h6
                · have h7 := (h.bef (pz_getD h3 hj) hL0).mp ((pz_bef_i h3 h4 (show j0 < n by omega) hj).mpr h6)
                  rw [ej] at h7
                  omega
                · have e : j = j0 := by omega
                  subst e
                  rw [ej] at c2
                  omega
              rw [hb, if_pos rfl] at ecn
              refine ⟨_, rfl, rfl, ?_, .inr ⟨i, by omega, c, fun j h6 h7 => by omega, rfl, by omega⟩⟩
              show v + 1 = _
              rw [a2, pz_s1, ecn]
        · rw [if_neg c]
          have hb : bgB (M.1 0) gp n (nI k) (L.getD i 0) = false := decide_eq_false (fun hh => c hh.1)
          rw [hb, if_neg (by decide), Nat.add_zero] at ecn
          refine ⟨_, rfl, rfl, by rw [ecn]; exact a2, ?_⟩
          rcases a3 with ⟨b1, b2⟩ | ⟨j0, b1, b2, b3, b4, b5⟩
          · refine .inl ⟨fun j hj => ?_, by rw [ecn, b2]⟩
            rcases Nat.lt_or_ge j i with h6 | h6
            · exact b1 j h6
            · have e : j = i := by omega
              subst e
              exact c
          · refine .inr ⟨j0, by omega, b2, fun j h6 h7 => ?_, b4, by rw [ecn]; exact b5⟩
            rcases Nat.lt_or_ge j i with h8 | h8
            · exact b3 j h6 h8
            · have e : j = i := by omega
              subst e
              exact c
      · obtain ⟨x, t, v⟩ := s
        obtain ⟨a1, a2, a3⟩ := hs
        have a1 : x = nI n := a1
        subst a1
        refine ⟨v, ?_, a2⟩
        show st_X1_groupAnew_7 (nI k) C (nI n) t v = _
        unfold st_X1_groupAnew_7
        rw [h.c5, if_pos (pz_leR n (by omega))]
    rw [h.m4, pz_fu (by omega), e1.2, e2]
    exact ⟨e1.1, simI_r rfl, rel_thr hR 0⟩
