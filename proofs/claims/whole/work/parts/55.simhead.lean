/-! what a call of both sides must say, one row a call -/
def SimI {α : Type} (L : List String) (v : String ⊕ α) (b : α) (t : Int32) : Prop := match v with
  | .inr x => t = 0 ∧ x = b
  | .inl E => t = wrK L E ∧ t ≠ 0
theorem simI_k {α : Type} {L : List String} {v : String ⊕ α} {b : α} {t : Int32} (h : SimI L v b t) : t = wrC L v := by
  cases v with
  | inl E => exact h.1
  | inr x => exact h.1
theorem simI_o {α β : Type} {L : List String} {v : String ⊕ α} {b : α} {t : Int32} (h : SimI L v b t) (h0 : wrC L v = 0) (up : (Nat → β) → Nat → β → (Nat → β)) (f : Nat → β) (cv : α → β) : wrO up f cv v = up f 0 (cv b) := by
  cases v with
  | inl E => exact absurd (h.1.trans h0) h.2
  | inr x =>
    have e : x = b := h.2
    subst e
    rfl
theorem lg_same (x : Int64) : lg_cmp x x = 0 := by
  unfold lg_cmp
  rw [if_neg (by exact Int64.lt_irrefl), if_pos rfl]
