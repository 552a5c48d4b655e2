theorem gMap {S T : Type} {l : Launch} {y : MethodName} {ws : List Cond} {rm : Room} {D : va_G} {cy : Nat → ClassId} {av : List Value} {w : va_W} {P : S → Prop} {wf : S → va_W} {P' : T → Prop} {wf' : T → va_W} (h : GMv l y ws rm D cy av w P wf) (φ : S → T) (hP : ∀ u, P u → P' (φ u)) (hw : ∀ u, wf u = wf' (φ u)) : GMv l y ws rm D cy av w P' wf' := by
  intro sz p e ha hc hk s m args below hf happ hp hK
  obtain ⟨n, o, h1, h2, h3, ⟨⟨⟨u, hv, hpu, hb1, hb2⟩, hF⟩, hL⟩⟩ := h sz p e ha hc hk s m args below hf happ hp hK
  exact ⟨n, o, h1, h2, h3, ⟨⟨⟨φ u, hv, hP u hpu, by rw [← hw]; exact hb1, by rw [← hw]; exact hb2⟩, hF⟩, hL⟩⟩
theorem cwr_ok {cy : Nat → ClassId} {ad : Nat → Nat} {rest : va_W} (C : CS) {k : Nat} (hk : k < 46) : ∀ f, (CW cy ad (sR C k f) ++ rest)[2 * k]? = some (ad (2 * k), .inr (6, [.ref (ad (2 * k + 1))])) ∧ (CW cy ad (sR C k f) ++ rest)[2 * k + 1]? = some (ad (2 * k + 1), .inl (cy 0, ln k, .inl f)) ∧ ∀ g, (CW cy ad (sR C k f) ++ rest).set (2 * k + 1) (ad (2 * k + 1), .inl (cy 0, ln k, .inl g)) = CW cy ad (sR C k g) ++ rest := fun f => by
  obtain ⟨h1, h2, h3⟩ := cw_row (cy := cy) (ad := ad) (rest := rest) (sR C k f) k hk
  have e : (sR C k f).1 k = f := if_pos rfl
  rw [e] at h2
  refine ⟨h1, h2, fun g => ?_⟩
  rw [h3 g, sR_sR]
/-- a row's contract, its row f said as the whole state -/
theorem gRow {l : Launch} {y : MethodName} {ws : List Cond} {rm : Room} {D : va_G} {cy : Nat → ClassId} {av : List Value} {ad : Nat → Nat} {rest : va_W} {C : CS} {k : Nat} {g : Nat → Int32} (h : GMv l y ws rm D cy av (CW cy ad (sR C k (C.1 k)) ++ rest) (fun (u : Nat → Int32) => u = g) (fun f => CW cy ad (sR C k f) ++ rest)) : GMv l y ws rm D cy av (CW cy ad C ++ rest) (fun (u : CS) => u = sR C k g) (fun u => CW cy ad u ++ rest) := by
  rw [sR_self] at h
  exact gMap h (fun f => sR C k f) (fun u hu => by rw [hu]) (fun u => rfl)

theorem cR_at (l : Launch) (D : va_G) (cy : Nat → ClassId) (ad : Nat → Nat) (rest : va_W) (C : CS) (k : Nat) (hk : k < 46) (q1 : Int32) : GMi l yX4_at wsX4_at rmX4_at D cy [.ref (ad (2 * k)), .int q1] (CW cy ad C ++ rest) (fun (r : Int32) (_ : Unit) => r = rAt (ln k) (C.1 k) q1) (fun _ => CW cy ad C ++ rest) :=
  c_X4_at l D cy (CW cy ad C ++ rest) (2 * k) (2 * k + 1) (ad (2 * k)) (ad (2 * k + 1)) (ln k) (ln_lt k hk) (C.1 k) (cw_row C k hk).1 (cw_row C k hk).2.1 q1
theorem cR_put (l : Launch) (D : va_G) (cy : Nat → ClassId) (ad : Nat → Nat) (rest : va_W) (C : CS) (k : Nat) (hk : k < 46) (q1 : Int32) (q2 : Int32) : GMv l yX4_put wsX4_put rmX4_put D cy [.ref (ad (2 * k)), .int q1, .int q2] (CW cy ad C ++ rest) (fun (u : CS) => u = sR C k (rPut (ln k) (C.1 k) q1 q2)) (fun u => CW cy ad u ++ rest) := by
  have h := c_X4_put l D cy (fun f => CW cy ad (sR C k f) ++ rest) (2 * k) (2 * k + 1) (ad (2 * k)) (ad (2 * k + 1)) (ln k) (ln_lt k hk) (cwr_ok C hk) (C.1 k) q1 q2
  exact gRow h
theorem cR_fillWith (l : Launch) (D : va_G) (cy : Nat → ClassId) (ad : Nat → Nat) (rest : va_W) (C : CS) (k : Nat) (hk : k < 46) (q1 : Int32) : GMv l yX4_fillWith wsX4_fillWith rmX4_fillWith D cy [.ref (ad (2 * k)), .int q1] (CW cy ad C ++ rest) (fun (u : CS) => u = sR C k (rFill (ln k) (C.1 k) q1)) (fun u => CW cy ad u ++ rest) := by
  have h := c_X4_fillWith l D cy (fun f => CW cy ad (sR C k f) ++ rest) (2 * k) (2 * k + 1) (ad (2 * k)) (ad (2 * k + 1)) (ln k) (ln_lt k hk) (cwr_ok C hk) (C.1 k) q1
  exact gRow h
theorem cR_insert (l : Launch) (D : va_G) (cy : Nat → ClassId) (ad : Nat → Nat) (rest : va_W) (C : CS) (k : Nat) (hk : k < 46) (q1 : Int32) (q2 : Int32) (q3 : Int32) : GMv l yX4_insert wsX4_insert rmX4_insert D cy [.ref (ad (2 * k)), .int q1, .int q2, .int q3] (CW cy ad C ++ rest) (fun (u : CS) => u = sR C k (rIns (ln k) (C.1 k) q1 q2 q3)) (fun u => CW cy ad u ++ rest) := by
  have h := c_X4_insert l D cy (fun f => CW cy ad (sR C k f) ++ rest) (2 * k) (2 * k + 1) (ad (2 * k)) (ad (2 * k + 1)) (ln k) (ln_lt k hk) (cwr_ok C hk) (C.1 k) q1 q2 q3
  exact gRow h
theorem cR_copyFrom (l : Launch) (D : va_G) (cy : Nat → ClassId) (ad : Nat → Nat) (rest : va_W) (C : CS) (k k2 : Nat) (hk : k < 46) (hk2 : k2 < 46) (hne : k2 ≠ k) : GMv l yX4_copyFrom wsX4_copyFrom rmX4_copyFrom D cy [.ref (ad (2 * k)), .ref (ad (2 * k2))] (CW cy ad C ++ rest) (fun (u : CS) => u = sR C k (rCopy (ln k) (C.1 k) (ln k2) (C.1 k2))) (fun u => CW cy ad u ++ rest) := by
  have h := c_X4_copyFrom l D cy (fun f => CW cy ad (sR C k f) ++ rest) (2 * k) (2 * k + 1) (ad (2 * k)) (ad (2 * k + 1)) (ln k) (ln_lt k hk) (cwr_ok C hk) (C.1 k) (2 * k2) (2 * k2 + 1) (ad (2 * k2)) (ad (2 * k2 + 1)) (ln k2) (ln_lt k2 hk2) (C.1 k2) (fun f => ⟨(cw_row (sR C k f) k2 hk2).1, by
    have e : (sR C k f).1 k2 = C.1 k2 := if_neg hne
    rw [← e]
    exact (cw_row (sR C k f) k2 hk2).2.1⟩)
  exact gRow h
