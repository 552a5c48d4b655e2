/-! pure: rows, loops -/
theorem pz_lt31 {k n : Nat} (h : k < n) (hn : n ≤ 2000) : k < 2 ^ 31 := by omega
theorem pz_nlt0 {k : Nat} (h : k < 2 ^ 31) : ¬ nI k < 0 := by
  rw [Int32.lt_iff_toInt_lt, nI_toInt h]
  show ¬ (k : Int) < 0
  omega
theorem pz_bnd {α : Type} {β : Sort _} (v : α) (f : α → β) : bnd v f = f v := rfl
theorem pz_rAt {n k : Nat} (f : Nat → Int32) (h : k < n) (hn : n ≤ 2000) : rAt n f (nI k) = f k := by
  have h1 : k < 2 ^ 31 := by omega
  unfold rAt
  rw [if_neg (pz_nlt0 h1), if_neg (by rw [nI_leI (by omega) h1]; omega), nI_clamp h1]
theorem pz_rPut {n k : Nat} (f : Nat → Int32) (v : Int32) (h : k < n) (hn : n ≤ 2000) : rPut n f (nI k) v = upd f k v := by
  have h1 : k < 2 ^ 31 := by omega
  unfold rPut
  rw [if_neg (pz_nlt0 h1), if_neg (by rw [nI_leI (by omega) h1]; omega), nI_clamp h1]
  rfl
theorem pz_fu {n : Nat} (h : n ≤ 2000) : ((nI n).toInt - (0 : Int32).toInt).toNat + 1 = n + 1 := by
  rw [nI_toInt (by omega)]
  show ((n : Int) - 0).toNat + 1 = n + 1
  omega
theorem pz_fu2 {n m : Nat} (h : n ≤ 2000) (hm : m ≤ 2000) : ((nI n).toInt - (nI m).toInt).toNat + 1 = (n - m) + 1 := by
  rw [nI_toInt (by omega), nI_toInt (by omega)]
  omega
theorem pz_s1 (n : Nat) : nI n + 1 = nI (n + 1) := (nI_succ n).symm
theorem pz_ge {a b : Nat} (h : a < b) (hb : b ≤ 2000) : ¬ nI b ≤ nI a := by
  rw [nI_leI (by omega) (by omega)]; omega
theorem pz_leR (b : Nat) (hb : b ≤ 2000) : nI b ≤ nI b := by
  rw [nI_leI (by omega) (by omega)]; omega
theorem pz_upd (f : Nat → Int32) (k : Nat) (v : Int32) (j : Nat) : upd f k v j = if j = k then v else f j := rfl
theorem pz_updE (f : Nat → Int32) (k : Nat) (v : Int32) : upd f k v k = v := if_pos rfl
theorem pz_updN {f : Nat → Int32} {k j : Nat} {v : Int32} (h : j ≠ k) : upd f k v j = f j := if_neg h
theorem pz_R (C : CS) (k : Nat) (f : Nat → Int32) (j : Nat) : (sR C k f).1 j = if j = k then f else C.1 j := rfl
theorem pz_RI (C : CS) (k : Nat) (f : Nat → Int32) : (sR C k f).2.1 = C.2.1 := rfl
theorem pz_RL (C : CS) (k : Nat) (f : Nat → Int32) : (sR C k f).2.2 = C.2.2 := rfl
theorem pz_IR (C : CS) (k : Nat) (v : Int32) : (sI C k v).1 = C.1 := rfl
theorem pz_I (C : CS) (k : Nat) (v : Int32) (j : Nat) : (sI C k v).2.1 j = if j = k then v else C.2.1 j := rfl
theorem pz_IL (C : CS) (k : Nat) (v : Int32) : (sI C k v).2.2 = C.2.2 := rfl
theorem pz_LR (C : CS) (k : Nat) (v : Int64) : (sL C k v).1 = C.1 := rfl
theorem pz_LI (C : CS) (k : Nat) (v : Int64) : (sL C k v).2.1 = C.2.1 := rfl
theorem pz_L (C : CS) (k : Nat) (v : Int64) (j : Nat) : (sL C k v).2.2 j = if j = k then v else C.2.2 j := rfl
/-- loops: what holds before a turn holds before the next, or the loop ends well -/
theorem pz_ho {S R : Type} {step : S → S ⊕ R} {d : R} (P : Nat → S → Prop) (Q : R → Prop) (N : Nat)
    (hs : ∀ i s, i < N → P i s → (∃ s', step s = .inl s' ∧ P (i + 1) s') ∨ ∃ r, step s = .inr r ∧ Q r)
    (hl : ∀ s, P N s → ∃ r, step s = .inr r ∧ Q r) : ∀ k i s, i + k = N → P i s → Q (lp step d (k + 1) s)
  | 0, i, s, e, h => by
    have e : i = N := e
    subst e
    obtain ⟨r, h1, h2⟩ := hl s h
    show Q (match step s with | .inl s' => lp step d 0 s' | .inr r => r)
    rw [h1]
    exact h2
  | k + 1, i, s, e, h => by
    show Q (match step s with | .inl s' => lp step d (k + 1) s' | .inr r => r)
    rcases hs i s (by omega) h with ⟨s', h1, h2⟩ | ⟨r, h1, h2⟩
    · rw [h1]
      exact pz_ho P Q N hs hl k (i + 1) s' (by omega) h2
    · rw [h1]
      exact h2
theorem pz_hoS {S R : Type} {step : S → S ⊕ R} {safe : S → Prop} (P : Nat → S → Prop) (N : Nat)
    (hs : ∀ i s, i < N → P i s → ∀ s', step s = .inl s' → P (i + 1) s')
    (hl : ∀ s, P N s → ∀ s', ¬ step s = .inl s') (hf : ∀ i s, i ≤ N → P i s → safe s) : ∀ k i s, i + k = N → P i s → lpS step safe (k + 1) s
  | 0, i, s, e, h => by
    have e : i = N := e
    subst e
    exact ⟨hf i s (Nat.le_refl _) h, fun s' h1 => absurd h1 (hl s h s')⟩
  | k + 1, i, s, e, h => ⟨hf i s (by omega) h, fun s' h1 => pz_hoS P N hs hl hf k (i + 1) s' (by omega) (hs i s (by omega) h s' h1)⟩
/-- both at once -/
theorem pz_bo {S R : Type} {step : S → S ⊕ R} {safe : S → Prop} {d : R} (P : Nat → S → Prop) (Q : R → Prop) (N : Nat)
    (hs : ∀ i s, i < N → P i s → safe s ∧ ((∃ s', step s = .inl s' ∧ P (i + 1) s') ∨ ∃ r, step s = .inr r ∧ Q r))
    (hl : ∀ s, P N s → safe s ∧ ∃ r, step s = .inr r ∧ Q r) (k i : Nat) (s : S) (e : i + k = N) (h : P i s) : lpS step safe (k + 1) s ∧ Q (lp step d (k + 1) s) := by
  refine ⟨pz_hoS P N (fun i s hi h s' e => ?_) (fun s h s' e => ?_) (fun i s hi h => ?_) k i s e h, pz_ho P Q N (fun i s hi h => (hs i s hi h).2) (fun s h => (hl s h).2) k i s e h⟩
  · rcases (hs i s hi h).2 with ⟨s2, h1, h2⟩ | ⟨r, h1, h2⟩
    · rw [h1] at e
      cases e
      exact h2
    · rw [h1] at e
      cases e
  · obtain ⟨r, h1, h2⟩ := (hl s h).2
    rw [h1] at e
    cases e
  · rcases Nat.lt_or_ge i N with h2 | h2
    · exact (hs i s h2 h).1
    · have e : i = N := by omega
      subst e
      exact (hl s h).1
/-- a loop that folds -/
def fo {A : Type} (F : Nat → A → A) : Nat → A → A
  | 0, a => a
  | n + 1, a => F n (fo F n a)
theorem pz_fo {A R : Type} {step : Int32 × A → (Int32 × A) ⊕ R} {d : R} (F : Nat → A → A) (out : A → R) (n : Nat)
    (hs : ∀ i a, i < n → step (nI i, a) = .inl (nI (i + 1), F i a)) (hl : ∀ a, step (nI n, a) = .inr (out a)) (a0 : A) : lp step d (n + 1) (0, a0) = out (fo F n a0) := by
  refine pz_ho (fun i s => s = (nI i, fo F i a0)) (fun r => r = out (fo F n a0)) n (fun i s hi h => ?_) (fun s h => ?_) n 0 (0, a0) (by omega) rfl
  · subst h
    exact .inl ⟨_, hs i _ hi, rfl⟩
  · subst h
    exact ⟨_, hl _, rfl⟩
/-- counting -/
def cN (p : Nat → Bool) : Nat → Nat
  | 0 => 0
  | n + 1 => cN p n + if p n then 1 else 0
theorem pz_cN_le (p : Nat → Bool) (n : Nat) : cN p n ≤ n := by
  induction n with
  | zero => exact Nat.le_refl _
  | succ n ih =>
    show cN p n + (if p n then 1 else 0) ≤ n + 1
    split <;> omega
theorem pz_cN_mono (p : Nat → Bool) {m n : Nat} (h : m ≤ n) : cN p m ≤ cN p n := by
  induction n with
  | zero => have e : m = 0 := by omega
            subst e; exact Nat.le_refl _
  | succ n ih =>
    rcases Nat.lt_or_ge m (n + 1) with h2 | h2
    · have h3 := ih (by omega)
      show cN p m ≤ cN p n + (if p n then 1 else 0)
      omega
    · have e : m = n + 1 := by omega
      subst e; exact Nat.le_refl _
theorem pz_cN_congr {p q : Nat → Bool} {n : Nat} (h : ∀ i, i < n → p i = q i) : cN p n = cN q n := by
  induction n with
  | zero => rfl
  | succ n ih =>
    show cN p n + (if p n then 1 else 0) = cN q n + (if q n then 1 else 0)
    rw [ih (fun i hi => h i (by omega)), h n (by omega)]
theorem pz_cN_range (p : Nat → Bool) (n : Nat) : cN p n = (List.range n).countP p := by
  induction n with
  | zero => rfl
  | succ n ih =>
    rw [List.range_succ, List.countP_append, ← ih]
    show cN p n + (if p n then 1 else 0) = cN p n + (List.countP p [n])
    rw [List.countP_singleton]
theorem pz_cnt {R : Type} {step : Int32 × Int32 → (Int32 × Int32) ⊕ R} {d : R} (p : Nat → Bool) (out : Int32 → R) (n : Nat)
    (hs : ∀ i a, i < n → step (nI i, a) = .inl (nI (i + 1), a + if p i then 1 else 0)) (hl : ∀ a, step (nI n, a) = .inr (out a)) : lp step d (n + 1) (0, 0) = out (nI (cN p n)) := by
  rw [pz_fo (fun i a => a + if p i then 1 else 0) out n hs hl 0]
  congr 1
  clear hs hl
  induction n with
  | zero => rfl
  | succ n ih =>
    show fo (fun i a => a + if p i then 1 else 0) n 0 + (if p n then 1 else 0) = nI (cN p n + if p n then 1 else 0)
    rw [ih]
    split
    · exact pz_s1 _
    · exact Int32.add_zero _
/-- the first -/
def fN (p : Nat → Bool) : Nat → Nat → Option Nat
  | _, 0 => none
  | i, k + 1 => if p i then some i else fN p (i + 1) k
theorem pz_fN_congr {p q : Nat → Bool} : ∀ (k i : Nat), (∀ j, i ≤ j → j < i + k → p j = q j) → fN p i k = fN q i k
  | 0, _, _ => rfl
  | k + 1, i, h => by
    show (if p i then some i else fN p (i + 1) k) = (if q i then some i else fN q (i + 1) k)
    rw [h i (Nat.le_refl _) (by omega), pz_fN_congr k (i + 1) (fun j h1 h2 => h j (by omega) (by omega))]
theorem pz_fN_some {p : Nat → Bool} : ∀ {k i j : Nat}, fN p i k = some j → i ≤ j ∧ j < i + k ∧ p j = true ∧ ∀ m, i ≤ m → m < j → p m = false
  | 0, _, _, h => by cases h
  | k + 1, i, j, h => by
    have h : (if p i then some i else fN p (i + 1) k) = some j := h
    by_cases c : p i = true
    · rw [if_pos c] at h
      cases h
      exact ⟨Nat.le_refl _, by omega, c, fun m h1 h2 => by omega⟩
    · rw [if_neg c] at h
      obtain ⟨h1, h2, h3, h4⟩ := pz_fN_some h
      refine ⟨by omega, by omega, h3, fun m h5 h6 => ?_⟩
      rcases Nat.lt_or_ge i m with h7 | h7
      · exact h4 m (by omega) h6
      · have e : m = i := by omega
        subst e
        exact Bool.not_eq_true _ ▸ c
theorem pz_fN_none {p : Nat → Bool} : ∀ {k i : Nat}, fN p i k = none → ∀ m, i ≤ m → m < i + k → p m = false
  | 0, _, _ => fun m h1 h2 => by omega
  | k + 1, i, h => fun m h1 h2 => by
    have h : (if p i then some i else fN p (i + 1) k) = none := h
    by_cases c : p i = true
    · rw [if_pos c] at h
      cases h
    · rw [if_neg c] at h
      rcases Nat.lt_or_ge i m with h7 | h7
      · exact pz_fN_none h m (by omega) (by omega)
      · have e : m = i := by omega
        subst e
        exact Bool.not_eq_true _ ▸ c
theorem pz_fN_of {p : Nat → Bool} {k i j : Nat} (h1 : i ≤ j) (h2 : j < i + k) (h3 : p j = true) (h4 : ∀ m, i ≤ m → m < j → p m = false) : fN p i k = some j := by
  cases e : fN p i k with
  | none => rw [pz_fN_none e j h1 h2] at h3; cases h3
  | some j' =>
    obtain ⟨a1, a2, a3, a4⟩ := pz_fN_some e
    rcases Nat.lt_trichotomy j j' with h | h | h
    · rw [a4 j h1 h] at h3; cases h3
    · rw [h]
    · rw [h4 j' a1 h] at a3; cases a3
theorem pz_fN_ofn {p : Nat → Bool} {k i : Nat} (h4 : ∀ m, i ≤ m → m < i + k → p m = false) : fN p i k = none := by
  cases e : fN p i k with
  | none => rfl
  | some j' =>
    obtain ⟨a1, a2, a3, a4⟩ := pz_fN_some e
    rw [h4 j' a1 a2] at a3; cases a3
def oI : Option Nat → Int32
  | none => -1
  | some k => nI k
theorem pz_fnd {R : Type} {step : Int32 → Int32 ⊕ R} {d : R} (p : Nat → Bool) (out : Option Nat → R) (n : Nat)
    (hs : ∀ i, i < n → step (nI i) = if p i then .inr (out (some i)) else .inl (nI (i + 1))) (hl : step (nI n) = .inr (out none)) (i k : Nat) (e : i + k = n) : lp step d (k + 1) (nI i) = out (fN p i k) := by
  refine pz_ho (fun m s => s = nI m ∧ fN p i k = fN p m (n - m)) (fun r => r = out (fN p i k)) n (fun m s hi h => ?_) (fun s h => ?_) k i (nI i) e ⟨rfl, by rw [show n - i = k by omega]⟩
  · obtain ⟨h, h2⟩ := h
    subst h
    rw [hs m hi]
    have e3 : n - m = (n - (m + 1)) + 1 := by omega
    rw [e3] at h2
    have h2 : fN p i k = if p m then some m else fN p (m + 1) (n - (m + 1)) := h2
    by_cases c : p m = true
    · rw [if_pos c]
      rw [if_pos c] at h2
      exact .inr ⟨_, rfl, by rw [h2]⟩
    · rw [if_neg c]
      rw [if_neg c] at h2
      exact .inl ⟨_, rfl, rfl, h2⟩
  · obtain ⟨h, h2⟩ := h
    subst h
    rw [Nat.sub_self] at h2
    have h2 : fN p i k = none := h2
    exact ⟨_, hl, by rw [h2]⟩
