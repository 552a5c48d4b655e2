def xbo {α β : Type} (v : String ⊕ α) (f : α → String ⊕ β) : String ⊕ β := match v with
  | .inl E => .inl E
  | .inr r => f r
def xbw {α β : Type} (C : CS) (v : String ⊕ α) (f : α → (String ⊕ β) × CS) : (String ⊕ β) × CS := match v with
  | .inl E => (.inl E, C)
  | .inr r => f r
theorem xbo_r {α β : Type} {v : String ⊕ α} {f : α → String ⊕ β} {r : α} (h : v = .inr r) : xbo v f = f r := by rw [h]; rfl
theorem xbo_l {α β : Type} {v : String ⊕ α} {f : α → String ⊕ β} {E : String} (h : v = .inl E) : xbo v f = .inl E := by rw [h]; rfl
theorem xbw_r {α β : Type} {C : CS} {v : String ⊕ α} {f : α → (String ⊕ β) × CS} {r : α} (h : v = .inr r) : xbw C v f = f r := by rw [h]; rfl
theorem xbw_l {α β : Type} {C : CS} {v : String ⊕ α} {f : α → (String ⊕ β) × CS} {E : String} (h : v = .inl E) : xbw C v f = (.inl E, C) := by rw [h]; rfl
theorem ax_88 : ∀ w ∈ (vx_atS RX6 88 "java/lang/IllegalStateException" ["java/lang/RuntimeException", "java/lang/Exception"]).filter (fun w => !goodWord w), w ∈ gBIS := by decide +kernel
theorem ax_88g : ∀ w ∈ Cond.classLink RX6 84 "java/lang/IllegalStateException" :: Cond.initialized "java/lang/IllegalStateException" :: vx_atS RX6 88 "java/lang/IllegalStateException" ["java/lang/RuntimeException", "java/lang/Exception"], vx_ot w = true := by decide +kernel
theorem ax_180 : ∀ w ∈ (vx_atS RX6 180 "java/lang/ArithmeticException" ["java/lang/RuntimeException", "java/lang/Exception"]).filter (fun w => !goodWord w), w ∈ gBAE := by decide +kernel
theorem ax_180g : ∀ w ∈ Cond.classLink RX6 176 "java/lang/ArithmeticException" :: Cond.initialized "java/lang/ArithmeticException" :: vx_atS RX6 180 "java/lang/ArithmeticException" ["java/lang/RuntimeException", "java/lang/Exception"], vx_ot w = true := by decide +kernel
theorem ax_206 : ∀ w ∈ (vx_atS RX6 206 "java/lang/IndexOutOfBoundsException" ["java/lang/RuntimeException", "java/lang/Exception"]).filter (fun w => !goodWord w), w ∈ gBIO := by decide +kernel
theorem ax_206g : ∀ w ∈ Cond.classLink RX6 202 "java/lang/IndexOutOfBoundsException" :: Cond.initialized "java/lang/IndexOutOfBoundsException" :: vx_atS RX6 206 "java/lang/IndexOutOfBoundsException" ["java/lang/RuntimeException", "java/lang/Exception"], vx_ot w = true := by decide +kernel
theorem ax_240 : ∀ w ∈ (vx_atS RX6 240 "java/lang/IllegalArgumentException" ["java/lang/RuntimeException", "java/lang/Exception"]).filter (fun w => !goodWord w), w ∈ gBIA := by decide +kernel
theorem ax_240g : ∀ w ∈ Cond.classLink RX6 236 "java/lang/IllegalArgumentException" :: Cond.initialized "java/lang/IllegalArgumentException" :: vx_atS RX6 240 "java/lang/IllegalArgumentException" ["java/lang/RuntimeException", "java/lang/Exception"], vx_ot w = true := by decide +kernel
theorem ax_267 : ∀ w ∈ (ne_atS RX6 267 "java/util/NoSuchElementException" ["java/lang/RuntimeException", "java/lang/Exception"]).filter (fun w => !goodWord w), w ∈ gBNS := by decide +kernel
theorem ax_267g : ∀ w ∈ Cond.classLink RX6 263 "java/util/NoSuchElementException" :: Cond.initialized "java/util/NoSuchElementException" :: ne_atS RX6 267 "java/util/NoSuchElementException" ["java/lang/RuntimeException", "java/lang/Exception"], vx_ot w = true := by decide +kernel
