/-! pure: a record is kept in its place -/
def insF (f : Nat → Int32) (pos : Nat) (v : Int32) (n : Nat) : Nat → Int32 := fun j => if j = pos then v else if pos < j ∧ j ≤ n then f (j - 1) else f j
def shD (f : Nat → Int32) (n m : Nat) : Nat → Int32 := fun j => if n - m < j ∧ j ≤ n then f (j - 1) else f j
theorem shD_s (f : Nat → Int32) {n m : Nat} (h : m < n) : upd (shD f n m) (n - m) (shD f n m (n - (m + 1))) = shD f n (m + 1) := by
  funext j
  unfold upd shD
  by_cases c : j = n - m
  · rw [if_pos c, if_neg (by omega), if_pos (by omega), show n - (m + 1) = j - 1 by omega]
  · rw [if_neg c]
    by_cases d : n - m < j ∧ j ≤ n
    · rw [if_pos d, if_pos (by omega)]
    · rw [if_neg d, if_neg (by omega)]
theorem shD_e (f : Nat → Int32) {n pos : Nat} (v : Int32) (h : pos ≤ n) : upd (shD f n (n - pos)) pos v = insF f pos v n := by
  funext j
  unfold upd shD insF
  by_cases c : j = pos
  · rw [if_pos c, if_pos c]
  · rw [if_neg c, if_neg c, show n - (n - pos) = pos by omega]
theorem shD_0 (f : Nat → Int32) (n : Nat) : shD f n 0 = f := by
  funext j
  exact if_neg (by omega)
theorem pz_ins (f : Nat → Int32) {pos n : Nat} (v : Int32) (hp : pos ≤ n) (hn : n ≤ 99) : rIns 100 f (nI pos) v (nI n) = insF f pos v n := by
  unfold rIns
  have e0 : (nI 100 - 1 : Int32) = nI 99 := nI_pred 99
  rw [e0, if_neg (show ¬ nI 99 < nI n by rw [nI_ltI (by omega) (by omega)]; omega), pz_fu2 (by omega) (by omega)]
  refine pz_ho (fun m s => s = (nI (n - m), shD f n m)) (fun r => r = insF f pos v n) (n - pos) (fun m s hm hs => .inl ?_) (fun s hs => ?_) (n - pos) 0 (nI n, f) (by omega) ?_
  · subst hs
    refine ⟨(nI (n - (m + 1)), shD f n (m + 1)), ?_, rfl⟩
    show st_X4_insert_13 (nI pos) v 100 (nI (n - m)) (shD f n m) = _
    unfold st_X4_insert_13
    have e1 : n - m = (n - (m + 1)) + 1 := by omega
    have e2 : (nI (n - m) - 1 : Int32) = nI (n - (m + 1)) := by rw [e1]; exact nI_pred _
    have e3 : (nI (n - m) + (-1) : Int32) = nI (n - (m + 1)) := by rw [← e2, Int32.sub_eq_add_neg]
    rw [if_neg (pz_ge (by omega) (by omega)), e2, e3, pz_bnd, pz_rAt _ (by omega) (by omega), pz_bnd, pz_rPut _ _ (by omega) (by omega), shD_s f (by omega)]
  · subst hs
    refine ⟨_, ?_, rfl⟩
    show st_X4_insert_13 (nI pos) v 100 (nI (n - (n - pos))) (shD f n (n - pos)) = _
    unfold st_X4_insert_13
    have e1 : n - (n - pos) = pos := by omega
    rw [e1, if_pos (pz_leR pos (by omega)), pz_bnd, pz_rPut _ _ (by omega) (by omega), shD_e f v hp]
  · rw [Nat.sub_zero, shD_0]
/-- the place -/
def poN (f : Nat → Int32) (t : Int32) (n : Nat) : Nat := (fN (fun i => decide (t < f i)) 0 n).getD n
theorem poN_le (f : Nat → Int32) (t : Int32) (n : Nat) : poN f t n ≤ n := by
  unfold poN
  cases e : fN (fun i => decide (t < f i)) 0 n with
  | none => exact Nat.le_refl _
  | some k =>
    have := (pz_fN_some e).2.1
    show k ≤ n
    omega
theorem poN_lo {f : Nat → Int32} {t : Int32} {n i : Nat} (h : i < poN f t n) : ¬ t < f i := by
  have hle := poN_le f t n
  unfold poN at h hle
  cases e : fN (fun i => decide (t < f i)) 0 n with
  | none => exact of_decide_eq_false (pz_fN_none e i (by omega) (by omega))
  | some k =>
    rw [e] at h
    exact of_decide_eq_false ((pz_fN_some e).2.2.2 i (by omega) h)
theorem poN_at {f : Nat → Int32} {t : Int32} {n : Nat} (h : poN f t n < n) : t < f (poN f t n) := by
  unfold poN at h ⊢
  cases e : fN (fun i => decide (t < f i)) 0 n with
  | none =>
    rw [e] at h
    exact absurd h (Nat.lt_irrefl n)
  | some k => exact of_decide_eq_true (pz_fN_some e).2.2.1
def kpC (C : CS) (n : Nat) (t v b : Int32) : CS := sI (sR (sR (sR C 2 (insF (C.1 2) (poN (C.1 2) t n) t n)) 3 (insF (C.1 3) (poN (C.1 2) t n) v n)) 4 (insF (C.1 4) (poN (C.1 2) t n) b n)) 5 (nI (n + 1))
theorem pz_keep {C : CS} {n : Nat} (h5 : C.2.1 5 = nI n) (hn : n ≤ 99) (t v b : Int32) : F_X3_keep C t v b = kpC C n t v b := by
  unfold F_X3_keep
  rw [h5, pz_fu (by omega)]
  have e : ∀ p, p ≤ n → (bnd (sR C 2 (rIns 100 (C.1 2) (nI p) t (nI n))) (fun u4 => (bnd (sR u4 3 (rIns 100 (u4.1 3) (nI p) v (u4.2.1 5))) (fun u6 => (bnd (sR u6 4 (rIns 100 (u6.1 4) (nI p) b (u6.2.1 5))) (fun u8 => (bnd (sI u8 5 (u8.2.1 5 + 1)) (fun u9 => (.inr u9 : Int32 ⊕ CS))))))))) = .inr (sI (sR (sR (sR C 2 (insF (C.1 2) p t n)) 3 (insF (C.1 3) p v n)) 4 (insF (C.1 4) p b n)) 5 (nI (n + 1))) := by
    intro p hp
    simp only [pz_bnd, pz_RI, h5, pz_ins _ _ hp hn, pz_s1]
    rfl
  have key := pz_fnd (step := fun (z : Int32) => st_X3_keep_3 t v b C z) (d := C) (fun i => decide (t < C.1 2 i)) (fun o => sI (sR (sR (sR C 2 (insF (C.1 2) (o.getD n) t n)) 3 (insF (C.1 3) (o.getD n) v n)) 4 (insF (C.1 4) (o.getD n) b n)) 5 (nI (n + 1))) n (fun i hi => ?_) ?_ 0 n (by omega)
  · exact key
  · show st_X3_keep_3 t v b C (nI i) = _
    unfold st_X3_keep_3
    rw [h5, if_neg (pz_ge hi (by omega)), e i (by omega), pz_bnd, pz_rAt _ (by omega) (by omega), pz_s1]
    by_cases c : t < C.1 2 i
    · rw [if_pos c, if_pos (decide_eq_true c)]
      rfl
    · rw [if_neg c, if_neg (fun hh => c (of_decide_eq_true hh))]
  · show st_X3_keep_3 t v b C (nI n) = _
    unfold st_X3_keep_3
    rw [h5, if_pos (pz_leR n (by omega)), e n (by omega)]
    rfl
/-- the list of records with the new one in its place -/
def inL (L : List Nat) (pos n : Nat) : List Nat := L.take pos ++ n :: L.drop pos
theorem inL_perm {L : List Nat} {pos n : Nat} (h : L.Perm (List.range n)) : (inL L pos n).Perm (List.range (n + 1)) := by
  unfold inL
  refine List.perm_middle.trans ?_
  rw [List.take_append_drop, List.range_succ]
  exact (List.Perm.cons n h).trans (List.perm_append_comm (l₁ := [n]) (l₂ := List.range n))
theorem inL_getD {L : List Nat} {pos n i : Nat} (h : L.length = n) (hp : pos ≤ n) (hi : i ≤ n) : (inL L pos n).getD i 0 = if i = pos then n else if pos < i then L.getD (i - 1) 0 else L.getD i 0 := by
  have hl : (L.take pos).length = pos := by rw [List.length_take]; omega
  unfold inL
  rw [List.getD_eq_getElem?_getD, List.getElem?_append, hl]
  by_cases c1 : i < pos
  · rw [if_pos c1, if_neg (by omega), if_neg (by omega), List.getElem?_take, if_pos c1, List.getD_eq_getElem?_getD]
  · rw [if_neg c1]
    by_cases c2 : i = pos
    · subst c2
      rw [if_pos rfl, Nat.sub_self]
      rfl
    · rw [if_neg c2, if_pos (by omega)]
      obtain ⟨m, em⟩ : ∃ m, i - pos = m + 1 := ⟨i - pos - 1, by omega⟩
      rw [em, List.getElem?_cons_succ, List.getElem?_drop, List.getD_eq_getElem?_getD]
      congr 2
      omega
