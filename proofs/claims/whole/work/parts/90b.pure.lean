/-! pure: one entry of a text -/
def entW (T : Nat → Int32) (k p : Nat) : Nat × Nat × Nat × Nat × Int32 :=
  if (nmb T k 4 p 0).1 = p then (0, p, 0, 0, 0) else if sg T k (nmb T k 4 p 0).1 59 then (2, (nmb T k 4 p 0).1 + 1, 0, (nmb T k 4 p 0).2, 0) else (0, (nmb T k 4 p 0).1, 0, 0, 0)
def ngp (T : Nat → Int32) (k p : Nat) : Nat := if sg T k p 45 then p + 1 else p
def entV (T : Nat → Int32) (k key t p : Nat) : Nat × Nat × Nat × Nat × Int32 :=
  if (nmb T k 3 (ngp T k p) 0).1 = ngp T k p then (0, ngp T k p, 0, 0, 0) else if sg T k (nmb T k 3 (ngp T k p) 0).1 59 then (1, (nmb T k 3 (ngp T k p) 0).1 + 1, key, t, if sg T k p 45 then -nI (nmb T k 3 (ngp T k p) 0).2 else nI (nmb T k 3 (ngp T k p) 0).2) else (0, (nmb T k 3 (ngp T k p) 0).1, 0, 0, 0)
def entR (T : Nat → Int32) (k p : Nat) : Nat × Nat × Nat × Nat × Int32 :=
  if dg T k p 7 then if sg T k (p + 1) 58 then if (nmb T k 4 (p + 2) 0).1 = p + 2 then (0, p + 2, 0, 0, 0) else if sg T k (nmb T k 4 (p + 2) 0).1 61 then entV T k (dv T p) (nmb T k 4 (p + 2) 0).2 ((nmb T k 4 (p + 2) 0).1 + 1) else (0, (nmb T k 4 (p + 2) 0).1, 0, 0, 0) else (0, p + 1, 0, 0, 0) else (0, p, 0, 0, 0)
def ent (T : Nat → Int32) (k p : Nat) : Nat × Nat × Nat × Nat × Int32 :=
  if sg T k p 119 then entW T k (p + 1) else if sg T k p 114 then entR T k (p + 1) else (0, p, 0, 0, 0)
theorem ngp_b (T : Nat → Int32) (k p : Nat) : p ≤ ngp T k p ∧ ngp T k p ≤ p + 1 ∧ (p ≤ k → ngp T k p ≤ k) := by
  unfold ngp
  by_cases c : sg T k p 45
  · have := c.1
    rw [if_pos c]
    omega
  · rw [if_neg c]
    omega
/-- what an entry keeps to -/
def EOk (k p : Nat) (E : Nat × Nat × Nat × Nat × Int32) : Prop := E.1 ≤ 2 ∧ (p ≤ k → E.2.1 ≤ k) ∧ p ≤ E.2.1 ∧ (¬ E.1 = 0 → p + 2 ≤ E.2.1) ∧ E.2.2.1 ≤ 7 ∧ E.2.2.2.1 ≤ 9999
theorem EOk.z {k p q : Nat} (h : p ≤ k → q ≤ k) (h2 : p ≤ q) : EOk k p (0, q, 0, 0, 0) := ⟨Nat.zero_le _, h, h2, fun hh => (hh rfl).elim, Nat.zero_le _, Nat.zero_le _⟩
theorem entW_b (T : Nat → Int32) (k p : Nat) : EOk k p (entW T k p) := by
  have hq := nmb_p T k 4 p 0
  unfold entW
  by_cases c : (nmb T k 4 p 0).1 = p
  · rw [if_pos c]
    exact EOk.z (fun h => h) (Nat.le_refl _)
  · rw [if_neg c]
    by_cases d : sg T k (nmb T k 4 p 0).1 59
    · have d1 := d.1
      rw [if_pos d]
      exact ⟨Nat.le_refl 2, fun _ => d1, show p ≤ (nmb T k 4 p 0).1 + 1 by omega, fun _ => show p + 2 ≤ (nmb T k 4 p 0).1 + 1 by omega, Nat.zero_le _, nmb4 T k p⟩
    · rw [if_neg d]
      exact EOk.z hq.2.2 hq.1
theorem entV_b (T : Nat → Int32) {k key t p : Nat} (h1 : key ≤ 7) (h2 : t ≤ 9999) : EOk k p (entV T k key t p) := by
  have hg := ngp_b T k p
  have hq := nmb_p T k 3 (ngp T k p) 0
  unfold entV
  by_cases c : (nmb T k 3 (ngp T k p) 0).1 = ngp T k p
  · rw [if_pos c]
    exact EOk.z hg.2.2 hg.1
  · rw [if_neg c]
    by_cases d : sg T k (nmb T k 3 (ngp T k p) 0).1 59
    · have d1 := d.1
      rw [if_pos d]
      exact ⟨Nat.le_succ 1, fun _ => d1, show p ≤ (nmb T k 3 (ngp T k p) 0).1 + 1 by omega, fun _ => show p + 2 ≤ (nmb T k 3 (ngp T k p) 0).1 + 1 by omega, h1, h2⟩
    · rw [if_neg d]
      exact EOk.z (fun h => hq.2.2 (hg.2.2 h)) (show p ≤ (nmb T k 3 (ngp T k p) 0).1 by omega)
theorem EOk.up {k p q : Nat} {E : Nat × Nat × Nat × Nat × Int32} (h : EOk k q E) (h1 : p ≤ q) (h2 : p ≤ k → q ≤ k) : EOk k p E := by
  obtain ⟨a1, a2, a3, a4, a5, a6⟩ := h
  exact ⟨a1, fun hh => a2 (h2 hh), by omega, fun hh => by have := a4 hh; omega, a5, a6⟩
theorem entR_b (T : Nat → Int32) (k p : Nat) : EOk k p (entR T k p) := by
  have hq := nmb_p T k 4 (p + 2) 0
  unfold entR
  by_cases c1 : dg T k p 7
  · obtain ⟨d0, hd, _, ev⟩ := dg_v (by omega) c1
    have b1 := c1.1
    rw [if_pos c1]
    by_cases c2 : sg T k (p + 1) 58
    · have b2 := c2.1
      rw [if_pos c2]
      by_cases c3 : (nmb T k 4 (p + 2) 0).1 = p + 2
      · rw [if_pos c3]
        exact EOk.z (fun _ => by omega) (by omega)
      · rw [if_neg c3]
        by_cases c4 : sg T k (nmb T k 4 (p + 2) 0).1 61
        · have b4 := c4.1
          rw [if_pos c4]
          exact EOk.up (entV_b T (by omega) (nmb4 T k (p + 2))) (by omega) (fun _ => by omega)
        · rw [if_neg c4]
          exact EOk.z (fun _ => hq.2.2 (by omega)) (by omega)
    · rw [if_neg c2]
      exact EOk.z (fun _ => by omega) (by omega)
  · rw [if_neg c1]
    exact EOk.z (fun h => h) (Nat.le_refl _)
theorem ent_b (T : Nat → Int32) (k p : Nat) : EOk k p (ent T k p) ∧ (¬ (ent T k p).1 = 0 → p + 3 ≤ (ent T k p).2.1) := by
  unfold ent
  by_cases c1 : sg T k p 119
  · have b1 := c1.1
    rw [if_pos c1]
    have h := entW_b T k (p + 1)
    exact ⟨h.up (by omega) (fun _ => by omega), fun hh => by have := h.2.2.2.1 hh; omega⟩
  · rw [if_neg c1]
    by_cases c2 : sg T k p 114
    · have b1 := c2.1
      rw [if_pos c2]
      have h := entR_b T k (p + 1)
      exact ⟨h.up (by omega) (fun _ => by omega), fun hh => by have := h.2.2.2.1 hh; omega⟩
    · rw [if_neg c2]
      exact ⟨EOk.z (fun h => h) (Nat.le_refl _), fun hh => (hh rfl).elim⟩
/-- the class's entry -/
def nE (C : CS) (e : Nat) (a b c : Int32) : CS := sI (sR (sR (sR C 43 (upd (C.1 43) e a)) 44 (upd (C.1 44) e b)) 45 (upd (C.1 45) e c)) 20 (nI (e + 1))
theorem tx_cm (f : Nat → Int32) {i j : Nat} (h : i ≠ j) (a b : Int32) : upd (upd f i a) j b = upd (upd f j b) i a := by
  funext x
  unfold upd
  by_cases c : x = j
  · rw [if_pos c, if_neg (by omega), if_pos c]
  · by_cases d : x = i
    · rw [if_neg c, if_pos d, if_pos d]
    · rw [if_neg c, if_neg d, if_neg d, if_neg c]
theorem cnote {C : CS} {e : Nat} (h20 : C.2.1 20 = nI e) (he : e < 14) (P a b c : Int32) : F_X5_noteEntry (sI C 19 P) a b c = sI (nE C e a b c) 19 P := by
  have e20 : (sI C 19 P).2.1 20 = nI e := h20
  unfold F_X5_noteEntry nE
  simp only [pz_bnd, pz_RI]
  rw [e20, pz_rPut _ _ he (by omega), pz_rPut _ _ he (by omega), pz_rPut _ _ he (by omega), pz_s1]
  exact Prod.ext rfl (Prod.ext (tx_cm C.2.1 (i := 19) (j := 20) (by omega) P (nI (e + 1))) rfl)
def rsC (C : CS) (e : Nat) (E : Nat × Nat × Nat × Nat × Int32) : Int32 × CS :=
  if E.1 = 0 then (0, sI C 19 (nI E.2.1)) else (1, sI (nE C e (if E.1 = 2 then -1 else nI E.2.2.1) (nI E.2.2.2.1) E.2.2.2.2) 19 (nI E.2.1))
theorem rsC_0 (C : CS) (e q a b : Nat) (v : Int32) : rsC C e (0, q, a, b, v) = (0, sI C 19 (nI q)) := rfl
theorem rsC_1 (C : CS) (e q a b : Nat) (v : Int32) : rsC C e (1, q, a, b, v) = (1, sI (nE C e (nI a) (nI b) v) 19 (nI q)) := rfl
theorem rsC_2 (C : CS) (e q a b : Nat) (v : Int32) : rsC C e (2, q, a, b, v) = (1, sI (nE C e (-1) (nI b) v) 19 (nI q)) := rfl
theorem cpw {T : Nat → Int32} {k : Nat} {C : CS} (h : TB T k C) {p e : Nat} (hp : p ≤ 50) (h20 : C.2.1 20 = nI e) (he : e < 14) : F_X5_parseWatermark (sI C 19 (nI p)) = rsC C e (entW T k p) := by
  have e1 : F_X5_takeNumber (sI C 19 (nI p)) 4 = (if (nmb T k 4 p 0).1 = p then -1 else nI (nmb T k 4 p 0).2, sI C 19 (nI (nmb T k 4 p 0).1)) := ctn h (m := 4) (by omega) (by omega)
  have hq := nmb_p T k 4 p 0
  have h4 := nmb4 T k p
  unfold F_X5_parseWatermark entW
  by_cases c : (nmb T k 4 p 0).1 = p
  · rw [if_pos c, c] at e1
    rw [if_pos c, rsC_0]
    simp only [pz_bnd, e1, if_true]
  · rw [if_neg c] at e1
    have n1 := tx_nm (show (nmb T k 4 p 0).2 < 2 ^ 31 by omega)
    have e2 := cts h (p := (nmb T k 4 p 0).1) (by omega) 59
    rw [if_neg c]
    by_cases d : sg T k (nmb T k 4 p 0).1 59
    · rw [if_pos d] at e2
      rw [if_pos d, rsC_2]
      simp only [pz_bnd, e1, n1, e2, pz_i10, if_true, if_false]
      rw [cnote h20 he]
    · rw [if_neg d] at e2
      rw [if_neg d, rsC_0]
      simp only [pz_bnd, e1, n1, e2, if_true, if_false]
theorem cpr {T : Nat → Int32} {k : Nat} {C : CS} (h : TB T k C) {p e : Nat} (hp : p ≤ 50) (h20 : C.2.1 20 = nI e) (he : e < 14) : F_X5_parseRecord (sI C 19 (nI p)) = rsC C e (entR T k p) := by
  have e1 : F_X5_takeDigit (sI C 19 (nI p)) 7 = if dg T k p 7 then (nI (dv T p), sI C 19 (nI (p + 1))) else (-1, sI C 19 (nI p)) := ctd h (g := 7) (by omega) (by omega)
  have e2 : F_X5_takeSign (sI C 19 (nI (p + 1))) 58 = if sg T k (p + 1) 58 then (1, sI C 19 (nI (p + 2))) else (0, sI C 19 (nI (p + 1))) := cts h (by omega) 58
  have e3 : F_X5_takeNumber (sI C 19 (nI (p + 2))) 4 = (if (nmb T k 4 (p + 2) 0).1 = p + 2 then -1 else nI (nmb T k 4 (p + 2) 0).2, sI C 19 (nI (nmb T k 4 (p + 2) 0).1)) := ctn h (m := 4) (by omega) (by omega)
  have hq := nmb_p T k 4 (p + 2) 0
  have h4 := nmb4 T k (p + 2)
  unfold F_X5_parseRecord entR
  by_cases c1 : dg T k p 7
  · obtain ⟨d0, hd, _, ev⟩ := dg_v (by omega) c1
    have n1 : ¬ nI (dv T p) = -1 := by rw [ev]; exact tx_nm (by omega)
    rw [if_pos c1] at e1
    rw [if_pos c1]
    by_cases c2 : sg T k (p + 1) 58
    · rw [if_pos c2] at e2
      rw [if_pos c2]
      by_cases c3 : (nmb T k 4 (p + 2) 0).1 = p + 2
      · rw [if_pos c3, c3] at e3
        rw [if_pos c3, rsC_0]
        simp only [pz_bnd, e1, n1, e2, e3, pz_i10, if_true, if_false]
      · rw [if_neg c3] at e3
        rw [if_neg c3]
        have n3 := tx_nm (show (nmb T k 4 (p + 2) 0).2 < 2 ^ 31 by omega)
        have e4 := cts h (p := (nmb T k 4 (p + 2) 0).1) (by omega) 61
        by_cases c4 : sg T k (nmb T k 4 (p + 2) 0).1 61
        · rw [if_pos c4] at e4
          rw [if_pos c4]
          unfold entV
          have hg := ngp_b T k ((nmb T k 4 (p + 2) 0).1 + 1)
          have e5 : F_X5_takeSign (sI C 19 (nI ((nmb T k 4 (p + 2) 0).1 + 1))) 45 = (if sg T k ((nmb T k 4 (p + 2) 0).1 + 1) 45 then 1 else 0, sI C 19 (nI (ngp T k ((nmb T k 4 (p + 2) 0).1 + 1)))) := by
            rw [cts h (by omega) 45]
            unfold ngp
            by_cases c5 : sg T k ((nmb T k 4 (p + 2) 0).1 + 1) 45
            · rw [if_pos c5, if_pos c5, if_pos c5]
            · rw [if_neg c5, if_neg c5, if_neg c5]
          generalize ngp T k ((nmb T k 4 (p + 2) 0).1 + 1) = g at hg e5 ⊢
          have e6 : F_X5_takeNumber (sI C 19 (nI g)) 3 = (if (nmb T k 3 g 0).1 = g then -1 else nI (nmb T k 3 g 0).2, sI C 19 (nI (nmb T k 3 g 0).1)) := ctn h (m := 3) (by omega) (by omega)
          have hq6 := nmb_p T k 3 g 0
          have h6 : (nmb T k 3 g 0).2 ≤ 999 := by
            have a := nmb_v T k 3 g 0
            have b : (0 + 1) * 10 ^ 3 = 1000 := rfl
            omega
          by_cases c6 : (nmb T k 3 g 0).1 = g
          · rw [if_pos c6, c6] at e6
            rw [if_pos c6, rsC_0]
            simp only [pz_bnd, e1, n1, e2, e3, n3, e4, e5, e6, pz_i10, if_true, if_false]
          · rw [if_neg c6] at e6
            rw [if_neg c6]
            have n6 := tx_nm (show (nmb T k 3 g 0).2 < 2 ^ 31 by omega)
            have e7 := cts h (p := (nmb T k 3 g 0).1) (by omega) 59
            by_cases c7 : sg T k (nmb T k 3 g 0).1 59
            · rw [if_pos c7] at e7
              rw [if_pos c7, rsC_1]
              by_cases c5 : sg T k ((nmb T k 4 (p + 2) 0).1 + 1) 45
              · rw [if_pos c5] at e5
                simp only [pz_bnd, e1, n1, e2, e3, n3, e4, e5, e6, n6, e7, pz_i10, if_true, if_false]
                rw [cnote h20 he, if_pos c5]
              · rw [if_neg c5] at e5
                simp only [pz_bnd, e1, n1, e2, e3, n3, e4, e5, e6, n6, e7, pz_i10, if_true, if_false]
                rw [cnote h20 he, if_neg c5]
            · rw [if_neg c7] at e7
              rw [if_neg c7, rsC_0]
              simp only [pz_bnd, e1, n1, e2, e3, n3, e4, e5, e6, n6, e7, pz_i10, if_true, if_false]
        · rw [if_neg c4] at e4
          rw [if_neg c4, rsC_0]
          simp only [pz_bnd, e1, n1, e2, e3, n3, e4, pz_i10, if_true, if_false]
    · rw [if_neg c2] at e2
      rw [if_neg c2, rsC_0]
      simp only [pz_bnd, e1, n1, e2, if_true, if_false]
  · rw [if_neg c1] at e1
    rw [if_neg c1, rsC_0]
    simp only [pz_bnd, e1, if_true]
theorem cpe {T : Nat → Int32} {k : Nat} {C : CS} (h : TB T k C) {p e : Nat} (hp : p ≤ 45) (h20 : C.2.1 20 = nI e) (he : e < 14) : F_X5_parseEntry (sI C 19 (nI p)) = rsC C e (ent T k p) := by
  have e1 := cts h (p := p) (by omega) 114
  have e2 := cts h (p := p) (by omega) 119
  unfold F_X5_parseEntry ent
  by_cases c1 : sg T k p 119
  · have c2 : ¬ sg T k p 114 := fun hh => absurd (c1.2.symm.trans hh.2) (by decide)
    rw [if_pos c1] at e2 ⊢
    rw [if_neg c2] at e1
    have e3 := cpw h (p := p + 1) (by omega) h20 he
    simp only [pz_bnd, e1, e2, e3, pz_i10, if_true, if_false]
    unfold rsC
    by_cases z : (entW T k (p + 1)).1 = 0
    · rw [if_pos z, if_pos rfl]
    · rw [if_neg z, if_neg pz_i10]
  · rw [if_neg c1] at e2 ⊢
    by_cases c2 : sg T k p 114
    · rw [if_pos c2] at e1 ⊢
      have e3 := cpr h (p := p + 1) (by omega) h20 he
      simp only [pz_bnd, e1, e3, pz_i10, if_false]
    · rw [if_neg c2] at e1 ⊢
      simp only [pz_bnd, e1, e2, if_true, rsC_0]
/-- the reference's entry -/
theorem mtsT {T : Nat → Int32} {k p : Nat} {M : CS} (h : TM T k p M) (hp : p ≤ 100) {q : Int32} (c : sg T k p q) : ∃ N, F_X7_eats M q = (1, N) ∧ FT M N ∧ TM T k (p + 1) N ∧ ∀ j, 5 ≤ j → N.2.1 j = M.2.1 j := by
  refine ⟨_, (mts h hp q).2.trans (if_pos c), FT.i (by omega), h.of (FT.i (by omega)) ?_, fun j hj => ?_⟩
  · rw [pz_I, if_pos rfl]
  · rw [pz_I, if_neg (by omega)]
theorem mtsF {T : Nat → Int32} {k p : Nat} {M : CS} (h : TM T k p M) (hp : p ≤ 100) {q : Int32} (c : ¬ sg T k p q) : F_X7_eats M q = (0, M) := (mts h hp q).2.trans (if_neg c)
def RM (M : CS) (E : Nat × Nat × Nat × Nat × Int32) (r : Int32 × CS) : Prop := r.1 = nI E.1 ∧ FT M r.2 ∧ r.2.2.1 4 = nI E.2.1 ∧ (E.1 = 1 → r.2.2.1 6 = nI E.2.2.1 ∧ r.2.2.1 8 = E.2.2.2.2) ∧ (¬ E.1 = 0 → r.2.2.1 7 = nI E.2.2.2.1)
theorem RM0 {M N : CS} {q : Nat} (f : FT M N) (e : N.2.1 4 = nI q) : RM M (0, q, 0, 0, 0) (0, N) := ⟨rfl, f, e, fun hh => absurd (show (0 : Nat) = 1 from hh) (by decide), fun hh => (hh rfl).elim⟩
theorem mre {T : Nat → Int32} {k p : Nat} {M : CS} (h : TM T k p M) (hp : p ≤ 45) : S_X7_readsEntry M ∧ RM M (ent T k p) (F_X7_readsEntry M) := by
  unfold S_X7_readsEntry F_X7_readsEntry ent
  have s1 := (mts h (by omega) 119).1
  by_cases c1 : sg T k p 119
  · obtain ⟨M1, e1, f1, t1, _⟩ := mtsT h (by omega) c1
    obtain ⟨s2, M2, e2, f2, g2, a2, b2⟩ := mtn t1 (m := 4) (by omega) (by omega)
    have s2 : S_X7_readsNumber M1 4 := s2
    have e2 : F_X7_readsNumber M1 4 = (if (nmb T k 4 (p + 1) 0).1 = p + 1 then 0 else 1, M2) := e2
    have hq := nmb_p T k 4 (p + 1) 0
    rw [if_pos c1]
    unfold entW
    by_cases c2 : (nmb T k 4 (p + 1) 0).1 = p + 1
    · rw [if_pos c2] at e2 ⊢
      simp only [pz_bnd, e1, e2, pz_i10, if_true, if_false]
      exact ⟨⟨s1, s2, trivial⟩, RM0 (f1.tr f2) (by rw [a2, c2])⟩
    · rw [if_neg c2] at e2 ⊢
      obtain ⟨M3, eM3⟩ : ∃ X, X = sI M2 7 (M2.2.1 5) := ⟨_, rfl⟩
      have f3 : FT M2 M3 := by rw [eM3]; exact FT.i (by omega)
      have t3 : TM T k (nmb T k 4 (p + 1) 0).1 M3 := t1.of (f2.tr f3) (by rw [eM3, pz_I, if_neg (by omega)]; exact a2)
      have h7 : M3.2.1 7 = nI (nmb T k 4 (p + 1) 0).2 := by rw [eM3, pz_I, if_pos rfl]; exact b2
      have s4 := (mts t3 (by omega) 59).1
      by_cases c4 : sg T k (nmb T k 4 (p + 1) 0).1 59
      · obtain ⟨M4, e4, f4, t4, g4⟩ := mtsT t3 (by omega) c4
        rw [if_pos c4]
        simp only [pz_bnd, e1, e2, ← eM3, e4, pz_i10, if_true, if_false]
        exact ⟨⟨s1, s2, s4, trivial⟩, rfl, (f1.tr f2).tr (f3.tr f4), t4.2.2.1, fun hh => absurd (show (2 : Nat) = 1 from hh) (by decide), fun _ => (g4 7 (by omega)).trans h7⟩
      · have e4 := mtsF t3 (by omega) c4
        rw [if_neg c4]
        simp only [pz_bnd, e1, e2, ← eM3, e4, pz_i10, if_true, if_false]
        exact ⟨⟨s1, s2, s4, trivial⟩, RM0 ((f1.tr f2).tr f3) t3.2.2.1⟩
  · have e1 := mtsF h (by omega) c1
    have s2 := (mts h (by omega) 114).1
    rw [if_neg c1]
    by_cases c2 : sg T k p 114
    · obtain ⟨M2, e2, f2, t2, _⟩ := mtsT h (by omega) c2
      rw [if_pos c2]
      unfold entR
      by_cases b3 : p + 1 < k
      · have hk : k ≤ 40 := h.1
        have n3 : ¬ M2.2.1 2 ≤ M2.2.1 4 := by
          rw [t2.2.1, t2.2.2.1, tx_le (by omega) (by omega)]
          omega
        have q3 : M2.1 3 (M2.2.1 4).toNatClampNeg = T (p + 1) := by rw [t2.2.2.1, t2.2.2.2, nI_clamp (by omega)]
        have v3 : vp_in (M2.2.1 4) 40 := by
          rw [t2.2.2.1]
          exact vp_in_nI (by omega) (by omega)
        by_cases c3 : F_X7_in (T (p + 1)) 48 55 = 0
        · have nd : ¬ dg T k (p + 1) 7 := fun hh => hh.2 c3
          rw [if_neg nd]
          simp only [pz_bnd, e1, e2, q3, n3, c3, pz_i10, if_true, if_false]
          exact ⟨⟨s1, s2, v3, trivial⟩, RM0 f2 t2.2.2.1⟩
        · have yd : dg T k (p + 1) 7 := ⟨b3, c3⟩
          obtain ⟨d0, hd, ed, ev⟩ := dg_v (by omega) yd
          have q4 : T (p + 1) - 48 = nI (dv T (p + 1)) := by rw [ev, ed, tx48 d0 (by omega)]
          obtain ⟨M3, eM3⟩ : ∃ X, X = sI (sI M2 6 (T (p + 1) - 48)) 4 ((sI M2 6 (T (p + 1) - 48)).2.1 4 + 1) := ⟨_, rfl⟩
          have f3 : FT M2 M3 := by rw [eM3]; exact (FT.i (by omega)).tr (FT.i (by omega))
          have t3 : TM T k (p + 2) M3 := by
            refine t2.of f3 ?_
            rw [eM3, pz_I, if_pos rfl, pz_I, if_neg (by omega), t2.2.2.1]
            exact pz_s1 (p + 1)
          have k3 : M3.2.1 6 = nI (dv T (p + 1)) := by
            rw [eM3, pz_I, if_neg (by omega), pz_I, if_pos rfl, q4]
          have s4 := (mts t3 (by omega) 58).1
          rw [if_pos yd]
          by_cases c4 : sg T k (p + 2) 58
          · obtain ⟨M4, e4, f4, t4, g4⟩ := mtsT t3 (by omega) c4
            obtain ⟨s5, M5, e5, f5, g5, a5, b5⟩ := mtn t4 (m := 4) (by omega) (by omega)
            have s5 : S_X7_readsNumber M4 4 := s5
            have e5 : F_X7_readsNumber M4 4 = (if (nmb T k 4 (p + 3) 0).1 = p + 3 then 0 else 1, M5) := e5
            have a5 : M5.2.1 4 = nI (nmb T k 4 (p + 3) 0).1 := a5
            have b5 : M5.2.1 5 = nI (nmb T k 4 (p + 3) 0).2 := b5
            have hq := nmb_p T k 4 (p + 3) 0
            have k5 : M5.2.1 6 = nI (dv T (p + 1)) := (g5 6 (by omega)).trans ((g4 6 (by omega)).trans k3)
            have F5 : FT M M5 := f2.tr (f3.tr (f4.tr f5))
            rw [if_pos (show sg T k (p + 1 + 1) 58 from c4)]
            show _ ∧ RM M (if (nmb T k 4 (p + 3) 0).1 = p + 3 then (0, p + 3, 0, 0, 0) else if sg T k (nmb T k 4 (p + 3) 0).1 61 then entV T k (dv T (p + 1)) (nmb T k 4 (p + 3) 0).2 ((nmb T k 4 (p + 3) 0).1 + 1) else (0, (nmb T k 4 (p + 3) 0).1, 0, 0, 0)) _
            by_cases c5 : (nmb T k 4 (p + 3) 0).1 = p + 3
            · rw [if_pos c5] at e5 ⊢
              simp only [pz_bnd, e1, e2, q3, n3, c3, ← eM3, e4, e5, pz_i10, if_true, if_false]
              exact ⟨⟨s1, s2, v3, v3, s4, s5, trivial⟩, RM0 F5 (by rw [a5, c5])⟩
            · rw [if_neg c5] at e5 ⊢
              have t5 : TM T k (nmb T k 4 (p + 3) 0).1 M5 := t4.of f5 a5
              have s6 := (mts t5 (by omega) 61).1
              by_cases c6 : sg T k (nmb T k 4 (p + 3) 0).1 61
              · obtain ⟨M6, e6, f6, t6, g6⟩ := mtsT t5 (by omega) c6
                rw [if_pos c6]
                unfold entV
                obtain ⟨M7, eM7⟩ : ∃ X, X = sI M6 7 (M6.2.1 5) := ⟨_, rfl⟩
                have f7 : FT M6 M7 := by rw [eM7]; exact FT.i (by omega)
                have t7 : TM T k ((nmb T k 4 (p + 3) 0).1 + 1) M7 := t6.of f7 (by rw [eM7, pz_I, if_neg (by omega)]; exact t6.2.2.1)
                have k7 : M7.2.1 6 = nI (dv T (p + 1)) := by rw [eM7, pz_I, if_neg (by omega)]; exact (g6 6 (by omega)).trans k5
                have h7 : M7.2.1 7 = nI (nmb T k 4 (p + 3) 0).2 := by rw [eM7, pz_I, if_pos rfl]; exact (g6 5 (by omega)).trans b5
                have s8 := (mts t7 (by omega) 45).1
                have hg := ngp_b T k ((nmb T k 4 (p + 3) 0).1 + 1)
                obtain ⟨M8, e8, f8, t8, g8⟩ : ∃ N, F_X7_eats M7 45 = (if sg T k ((nmb T k 4 (p + 3) 0).1 + 1) 45 then 1 else 0, N) ∧ FT M7 N ∧ TM T k (ngp T k ((nmb T k 4 (p + 3) 0).1 + 1)) N ∧ ∀ j, 5 ≤ j → N.2.1 j = M7.2.1 j := by
                  unfold ngp
                  by_cases c8 : sg T k ((nmb T k 4 (p + 3) 0).1 + 1) 45
                  · rw [if_pos c8, if_pos c8]
                    exact mtsT t7 (by omega) c8
                  · rw [if_neg c8, if_neg c8]
                    exact ⟨M7, mtsF t7 (by omega) c8, FT.rf _, t7, fun _ _ => rfl⟩
                generalize ngp T k ((nmb T k 4 (p + 3) 0).1 + 1) = g at hg t8 ⊢
                obtain ⟨s9, M9, e9, f9, g9, a9, b9⟩ := mtn t8 (m := 3) (by omega) (by omega)
                have s9 : S_X7_readsNumber M8 3 := s9
                have e9 : F_X7_readsNumber M8 3 = (if (nmb T k 3 g 0).1 = g then 0 else 1, M9) := e9
                have hq9 := nmb_p T k 3 g 0
                have F9 : FT M M9 := F5.tr (f6.tr (f7.tr (f8.tr f9)))
                have t9 : TM T k (nmb T k 3 g 0).1 M9 := t8.of f9 a9
                have k9 : M9.2.1 6 = nI (dv T (p + 1)) := (g9 6 (by omega)).trans ((g8 6 (by omega)).trans k7)
                have h9 : M9.2.1 7 = nI (nmb T k 4 (p + 3) 0).2 := (g9 7 (by omega)).trans ((g8 7 (by omega)).trans h7)
                by_cases c9 : (nmb T k 3 g 0).1 = g
                · rw [if_pos c9] at e9 ⊢
                  simp only [pz_bnd, e1, e2, q3, n3, c3, ← eM3, e4, e5, e6, ← eM7, e8, e9, pz_i10, if_true, if_false]
                  exact ⟨⟨s1, s2, v3, v3, s4, s5, s6, s8, s9, trivial⟩, RM0 F9 (by rw [a9, c9])⟩
                · rw [if_neg c9] at e9 ⊢
                  obtain ⟨va, eva⟩ : ∃ va : Int32, va = if sg T k ((nmb T k 4 (p + 3) 0).1 + 1) 45 then -nI (nmb T k 3 g 0).2 else nI (nmb T k 3 g 0).2 := ⟨_, rfl⟩
                  rw [← eva]
                  have f10 : FT M9 (sI M9 8 va) := FT.i (by omega)
                  have t10 : TM T k (nmb T k 3 g 0).1 (sI M9 8 va) := t9.of f10 (by rw [pz_I, if_neg (by omega)]; exact a9)
                  have k10 : (sI M9 8 va).2.1 6 = nI (dv T (p + 1)) := by rw [pz_I, if_neg (by omega)]; exact k9
                  have h10 : (sI M9 8 va).2.1 7 = nI (nmb T k 4 (p + 3) 0).2 := by rw [pz_I, if_neg (by omega)]; exact h9
                  have v10 : (sI M9 8 va).2.1 8 = va := by rw [pz_I, if_pos rfl]
                  have sx := (mts t10 (by omega) 59).1
                  by_cases cx : sg T k (nmb T k 3 g 0).1 59
                  · obtain ⟨Mx, ex, fx, tx, gx⟩ := mtsT t10 (by omega) cx
                    rw [if_pos cx]
                    have fin : RM M (1, (nmb T k 3 g 0).1 + 1, dv T (p + 1), (nmb T k 4 (p + 3) 0).2, va) (1, Mx) := ⟨rfl, F9.tr (f10.tr fx), tx.2.2.1, fun _ => ⟨(gx 6 (by omega)).trans k10, (gx 8 (by omega)).trans v10⟩, fun _ => (gx 7 (by omega)).trans h10⟩
                    by_cases c8 : sg T k ((nmb T k 4 (p + 3) 0).1 + 1) 45
                    · rw [if_pos c8] at e8 eva
                      rw [eva] at sx ex fin ⊢
                      simp only [pz_bnd, e1, e2, q3, n3, c3, ← eM3, e4, e5, e6, ← eM7, e8, e9, b9, ex, pz_i10, if_true, if_false]
                      exact ⟨⟨s1, s2, v3, v3, s4, s5, s6, s8, s9, sx, trivial⟩, fin⟩
                    · rw [if_neg c8] at e8 eva
                      rw [eva] at sx ex fin ⊢
                      simp only [pz_bnd, e1, e2, q3, n3, c3, ← eM3, e4, e5, e6, ← eM7, e8, e9, b9, ex, pz_i10, if_true, if_false]
                      exact ⟨⟨s1, s2, v3, v3, s4, s5, s6, s8, s9, sx, trivial⟩, fin⟩
                  · have ex := mtsF t10 (by omega) cx
                    rw [if_neg cx]
                    have fin : RM M (0, (nmb T k 3 g 0).1, 0, 0, 0) (0, sI M9 8 va) := RM0 (F9.tr f10) t10.2.2.1
                    by_cases c8 : sg T k ((nmb T k 4 (p + 3) 0).1 + 1) 45
                    · rw [if_pos c8] at e8 eva
                      rw [eva] at sx ex fin
                      simp only [pz_bnd, e1, e2, q3, n3, c3, ← eM3, e4, e5, e6, ← eM7, e8, e9, b9, ex, pz_i10, if_true, if_false]
                      exact ⟨⟨s1, s2, v3, v3, s4, s5, s6, s8, s9, sx, trivial⟩, fin⟩
                    · rw [if_neg c8] at e8 eva
                      rw [eva] at sx ex fin
                      simp only [pz_bnd, e1, e2, q3, n3, c3, ← eM3, e4, e5, e6, ← eM7, e8, e9, b9, ex, pz_i10, if_true, if_false]
                      exact ⟨⟨s1, s2, v3, v3, s4, s5, s6, s8, s9, sx, trivial⟩, fin⟩
              · have e6 := mtsF t5 (by omega) c6
                rw [if_neg c6]
                simp only [pz_bnd, e1, e2, q3, n3, c3, ← eM3, e4, e5, e6, pz_i10, if_true, if_false]
                exact ⟨⟨s1, s2, v3, v3, s4, s5, s6, trivial⟩, RM0 F5 t5.2.2.1⟩
          · have e4 := mtsF t3 (by omega) c4
            rw [if_neg (show ¬ sg T k (p + 1 + 1) 58 from c4)]
            simp only [pz_bnd, e1, e2, q3, n3, c3, ← eM3, e4, pz_i10, if_true, if_false]
            exact ⟨⟨s1, s2, v3, v3, s4, trivial⟩, RM0 (f2.tr f3) t3.2.2.1⟩
      · have hk : k ≤ 40 := h.1
        have b4 : p < k := c2.1
        have n3 : M2.2.1 2 ≤ M2.2.1 4 := by
          rw [t2.2.1, t2.2.2.1, tx_le (by omega) (by omega)]
          omega
        rw [if_neg (show ¬ dg T k (p + 1) 7 from fun hh => b3 hh.1)]
        simp only [pz_bnd, e1, e2, n3, pz_i10, if_true, if_false]
        exact ⟨⟨s1, s2, trivial⟩, RM0 f2 t2.2.2.1⟩
    · have e2 := mtsF h (by omega) c2
      rw [if_neg c2]
      simp only [pz_bnd, e1, e2, if_true]
      exact ⟨⟨s1, s2, trivial⟩, RM0 (FT.rf _) h.2.2.1⟩
