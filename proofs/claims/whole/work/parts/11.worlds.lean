/-! states: rows of ints (by number), single ints, single longs; the worlds that they say -/
abbrev CS : Type := (Nat → Nat → Int32) × (Nat → Int32) × (Nat → Int64)
def sR (C : CS) (k : Nat) (f : Nat → Int32) : CS := (fun j => if j = k then f else C.1 j, C.2.1, C.2.2)
def sI (C : CS) (k : Nat) (v : Int32) : CS := (C.1, upd C.2.1 k v, C.2.2)
def sL (C : CS) (k : Nat) (v : Int64) : CS := (C.1, C.2.1, vp_updL C.2.2 k v)
theorem sR_self (C : CS) (k : Nat) : sR C k (C.1 k) = C := by
  have h : (fun j => if j = k then C.1 k else C.1 j) = C.1 := by
    funext j
    by_cases q : j = k
    · rw [if_pos q, q]
    · rw [if_neg q]
  unfold sR
  rw [h]
theorem sR_sR (C : CS) (k : Nat) (f g : Nat → Int32) : sR (sR C k f) k g = sR C k g := by
  have h : (fun j => if j = k then g else (fun j => if j = k then f else C.1 j) j) = fun j => if j = k then g else C.1 j := by
    funext j
    by_cases q : j = k
    · rw [if_pos q, if_pos q]
    · rw [if_neg q, if_neg q]
      exact if_neg q
  unfold sR
  rw [h]
theorem vk {k : Int32} {n : Nat} (h : (decide (0 ≤ k.toInt) && decide (k.toInt < n)) = true) : vp_in k n := by
  rw [vp_in_iff]
  simpa using h
theorem gin {p : Int32} {n : Nat} (h0 : ¬ p < 0) (h1 : ¬ nI n ≤ p) (hn : n < 2147483648) : vp_in p n := by
  rw [vp_in_iff]
  rw [Int32.lt_iff_toInt_lt, show (0 : Int32).toInt = 0 from rfl] at h0
  rw [Int32.le_iff_toInt_le, nI_toInt hn] at h1
  omega
theorem inv_up {v b : Int32} (h0 : ¬ v < 0) (h1 : ¬ b ≤ v) : ¬ v + 1 < 0 := by
  rw [Int32.lt_iff_toInt_lt, show (0 : Int32).toInt = 0 from rfl] at h0 ⊢
  rw [Int32.le_iff_toInt_le] at h1
  have hb := b.toInt_lt
  have e : (v + 1).toInt = v.toInt + 1 := by
    rw [Int32.toInt_add, show (1 : Int32).toInt = 1 from rfl]
    exact Int.bmod_eq_of_le (by omega) (by omega)
  omega
theorem ne0_of {t : Int32} (h : ¬ t ≤ 0) : ¬ t = 0 := fun e => h (by rw [e]; decide)
theorem ne_toInt {x k : Int32} (h : ¬ x = k) : x.toInt ≠ k.toInt := fun e => h (Int32.toInt_inj.mp e)
theorem tI {x k : Int32} {z : Int} (h : ¬ x = k) (hz : k.toInt = z) : x.toInt ≠ z := fun e => h (Int32.toInt_inj.mp (e.trans hz.symm))
def bnd {α : Type} {β : Sort _} (v : α) (f : α → β) : β := f v
theorem bnd_eq {α : Type} {β : Sort _} {x v : α} {f : α → β} (h : x = v) : bnd v f = f x := by rw [h]; rfl
theorem lsw_out {x off : Int} (h : x = off) : x = off := h
def CW (cy : Nat → ClassId) (ad : Nat → Nat) (C : CS) : va_W := [
  (ad 0, .inr (6, [.ref (ad 1)])),
  (ad 1, .inl (cy 0, 8, .inl (C.1 0))),
  (ad 2, .inr (6, [.ref (ad 3)])),
  (ad 3, .inl (cy 0, 8, .inl (C.1 1))),
  (ad 4, .inr (6, [.ref (ad 5)])),
  (ad 5, .inl (cy 0, 100, .inl (C.1 2))),
  (ad 6, .inr (6, [.ref (ad 7)])),
  (ad 7, .inl (cy 0, 100, .inl (C.1 3))),
  (ad 8, .inr (6, [.ref (ad 9)])),
  (ad 9, .inl (cy 0, 100, .inl (C.1 4))),
  (ad 10, .inr (6, [.ref (ad 11)])),
  (ad 11, .inl (cy 0, 100, .inl (C.1 5))),
  (ad 12, .inr (6, [.ref (ad 13)])),
  (ad 13, .inl (cy 0, 100, .inl (C.1 6))),
  (ad 14, .inr (6, [.ref (ad 15)])),
  (ad 15, .inl (cy 0, 100, .inl (C.1 7))),
  (ad 16, .inr (6, [.ref (ad 17)])),
  (ad 17, .inl (cy 0, 100, .inl (C.1 8))),
  (ad 18, .inr (6, [.ref (ad 19)])),
  (ad 19, .inl (cy 0, 100, .inl (C.1 9))),
  (ad 20, .inr (6, [.ref (ad 21)])),
  (ad 21, .inl (cy 0, 100, .inl (C.1 10))),
  (ad 22, .inr (6, [.ref (ad 23)])),
  (ad 23, .inl (cy 0, 100, .inl (C.1 11))),
  (ad 24, .inr (6, [.ref (ad 25)])),
  (ad 25, .inl (cy 0, 100, .inl (C.1 12))),
  (ad 26, .inr (6, [.ref (ad 27)])),
  (ad 27, .inl (cy 0, 100, .inl (C.1 13))),
  (ad 28, .inr (6, [.ref (ad 29)])),
  (ad 29, .inl (cy 0, 60, .inl (C.1 14))),
  (ad 30, .inr (6, [.ref (ad 31)])),
  (ad 31, .inl (cy 0, 60, .inl (C.1 15))),
  (ad 32, .inr (6, [.ref (ad 33)])),
  (ad 33, .inl (cy 0, 60, .inl (C.1 16))),
  (ad 34, .inr (6, [.ref (ad 35)])),
  (ad 35, .inl (cy 0, 60, .inl (C.1 17))),
  (ad 36, .inr (6, [.ref (ad 37)])),
  (ad 37, .inl (cy 0, 60, .inl (C.1 18))),
  (ad 38, .inr (6, [.ref (ad 39)])),
  (ad 39, .inl (cy 0, 60, .inl (C.1 19))),
  (ad 40, .inr (6, [.ref (ad 41)])),
  (ad 41, .inl (cy 0, 3, .inl (C.1 20))),
  (ad 42, .inr (6, [.ref (ad 43)])),
  (ad 43, .inl (cy 0, 8, .inl (C.1 21))),
  (ad 44, .inr (6, [.ref (ad 45)])),
  (ad 45, .inl (cy 0, 8, .inl (C.1 22))),
  (ad 46, .inr (6, [.ref (ad 47)])),
  (ad 47, .inl (cy 0, 100, .inl (C.1 23))),
  (ad 48, .inr (6, [.ref (ad 49)])),
  (ad 49, .inl (cy 0, 100, .inl (C.1 24))),
  (ad 50, .inr (6, [.ref (ad 51)])),
  (ad 51, .inl (cy 0, 100, .inl (C.1 25))),
  (ad 52, .inr (6, [.ref (ad 53)])),
  (ad 53, .inl (cy 0, 100, .inl (C.1 26))),
  (ad 54, .inr (6, [.ref (ad 55)])),
  (ad 55, .inl (cy 0, 100, .inl (C.1 27))),
  (ad 56, .inr (6, [.ref (ad 57)])),
  (ad 57, .inl (cy 0, 100, .inl (C.1 28))),
  (ad 58, .inr (6, [.ref (ad 59)])),
  (ad 59, .inl (cy 0, 100, .inl (C.1 29))),
  (ad 60, .inr (6, [.ref (ad 61)])),
  (ad 61, .inl (cy 0, 100, .inl (C.1 30))),
  (ad 62, .inr (6, [.ref (ad 63)])),
  (ad 63, .inl (cy 0, 100, .inl (C.1 31))),
  (ad 64, .inr (6, [.ref (ad 65)])),
  (ad 65, .inl (cy 0, 100, .inl (C.1 32))),
  (ad 66, .inr (6, [.ref (ad 67)])),
  (ad 67, .inl (cy 0, 100, .inl (C.1 33))),
  (ad 68, .inr (6, [.ref (ad 69)])),
  (ad 69, .inl (cy 0, 100, .inl (C.1 34))),
  (ad 70, .inr (6, [.ref (ad 71)])),
  (ad 71, .inl (cy 0, 60, .inl (C.1 35))),
  (ad 72, .inr (6, [.ref (ad 73)])),
  (ad 73, .inl (cy 0, 60, .inl (C.1 36))),
  (ad 74, .inr (6, [.ref (ad 75)])),
  (ad 75, .inl (cy 0, 60, .inl (C.1 37))),
  (ad 76, .inr (6, [.ref (ad 77)])),
  (ad 77, .inl (cy 0, 60, .inl (C.1 38))),
  (ad 78, .inr (6, [.ref (ad 79)])),
  (ad 79, .inl (cy 0, 60, .inl (C.1 39))),
  (ad 80, .inr (6, [.ref (ad 81)])),
  (ad 81, .inl (cy 0, 60, .inl (C.1 40))),
  (ad 82, .inr (6, [.ref (ad 83)])),
  (ad 83, .inl (cy 0, 3, .inl (C.1 41))),
  (ad 84, .inr (6, [.ref (ad 85)])),
  (ad 85, .inl (cy 0, 40, .inl (C.1 42))),
  (ad 86, .inr (6, [.ref (ad 87)])),
  (ad 87, .inl (cy 0, 14, .inl (C.1 43))),
  (ad 88, .inr (6, [.ref (ad 89)])),
  (ad 89, .inl (cy 0, 14, .inl (C.1 44))),
  (ad 90, .inr (6, [.ref (ad 91)])),
  (ad 91, .inl (cy 0, 14, .inl (C.1 45))),
  (ad 92, .inr (8, [.ref (ad 93), .ref (ad 97), .ref (ad 101), .int (C.2.1 21), .int (C.2.1 22)])),
  (ad 93, .inr (3, [.ref (ad 0), .ref (ad 2), .ref (ad 94), .ref (ad 95), .ref (ad 96), .int (C.2.1 0), .int (C.2.1 1), .int (C.2.1 2), .int (C.2.1 3), .int (C.2.1 4)])),
  (ad 94, .inr (5, [.ref (ad 4), .ref (ad 6), .ref (ad 8), .int (C.2.1 5)])),
  (ad 95, .inr (2, [.ref (ad 10), .ref (ad 12), .ref (ad 14), .ref (ad 16), .ref (ad 18), .ref (ad 20), .ref (ad 22), .ref (ad 24), .ref (ad 26), .int (C.2.1 6)])),
  (ad 96, .inr (4, [.ref (ad 28), .ref (ad 30), .ref (ad 32), .ref (ad 34), .ref (ad 36), .ref (ad 38), .int (C.2.1 7), .ref (ad 40), .int (C.2.1 8), .long (C.2.2 0)])),
  (ad 97, .inr (3, [.ref (ad 42), .ref (ad 44), .ref (ad 98), .ref (ad 99), .ref (ad 100), .int (C.2.1 9), .int (C.2.1 10), .int (C.2.1 11), .int (C.2.1 12), .int (C.2.1 13)])),
  (ad 98, .inr (5, [.ref (ad 46), .ref (ad 48), .ref (ad 50), .int (C.2.1 14)])),
  (ad 99, .inr (2, [.ref (ad 52), .ref (ad 54), .ref (ad 56), .ref (ad 58), .ref (ad 60), .ref (ad 62), .ref (ad 64), .ref (ad 66), .ref (ad 68), .int (C.2.1 15)])),
  (ad 100, .inr (4, [.ref (ad 70), .ref (ad 72), .ref (ad 74), .ref (ad 76), .ref (ad 78), .ref (ad 80), .int (C.2.1 16), .ref (ad 82), .int (C.2.1 17), .long (C.2.2 1)])),
  (ad 101, .inr (7, [.ref (ad 84), .int (C.2.1 18), .int (C.2.1 19), .ref (ad 86), .ref (ad 88), .ref (ad 90), .int (C.2.1 20)]))]
def MW (cy : Nat → ClassId) (ad : Nat → Nat) (C : CS) : va_W := [
  (ad 0, .inr (9, [.int (C.2.1 0), .ref (ad 1), .long (C.2.2 0), .ref (ad 2), .long (C.2.2 1), .ref (ad 3), .long (C.2.2 2), .int (C.2.1 1), .ref (ad 4), .int (C.2.1 2), .int (C.2.1 3), .int (C.2.1 4), .int (C.2.1 5), .int (C.2.1 6), .int (C.2.1 7), .int (C.2.1 8)])),
  (ad 1, .inl (cy 0, 1787, .inl (C.1 0))),
  (ad 2, .inl (cy 0, 1787, .inl (C.1 1))),
  (ad 3, .inl (cy 0, 1787, .inl (C.1 2))),
  (ad 4, .inl (cy 1, 40, .inl (C.1 3)))]
def ln (k : Nat) : Nat := [8, 8, 100, 100, 100, 100, 100, 100, 100, 100, 100, 100, 100, 100, 60, 60, 60, 60, 60, 60, 3, 8, 8, 100, 100, 100, 100, 100, 100, 100, 100, 100, 100, 100, 100, 60, 60, 60, 60, 60, 60, 3, 40, 14, 14, 14].getD k 0
theorem ln_lt : ∀ k, k < 46 → ln k < 2147483648 := by decide +kernel
set_option maxRecDepth 100000 in
theorem cw_row {cy : Nat → ClassId} {ad : Nat → Nat} {rest : va_W} (C : CS) : ∀ k, k < 46 → (CW cy ad C ++ rest)[2 * k]? = some (ad (2 * k), .inr (6, [.ref (ad (2 * k + 1))])) ∧ (CW cy ad C ++ rest)[2 * k + 1]? = some (ad (2 * k + 1), .inl (cy 0, ln k, .inl (C.1 k))) ∧ ∀ g, (CW cy ad C ++ rest).set (2 * k + 1) (ad (2 * k + 1), .inl (cy 0, ln k, .inl g)) = CW cy ad (sR C k g) ++ rest
  | 0, _ => ⟨rfl, rfl, fun _ => rfl⟩
  | 1, _ => ⟨rfl, rfl, fun _ => rfl⟩
  | 2, _ => ⟨rfl, rfl, fun _ => rfl⟩
  | 3, _ => ⟨rfl, rfl, fun _ => rfl⟩
  | 4, _ => ⟨rfl, rfl, fun _ => rfl⟩
  | 5, _ => ⟨rfl, rfl, fun _ => rfl⟩
  | 6, _ => ⟨rfl, rfl, fun _ => rfl⟩
  | 7, _ => ⟨rfl, rfl, fun _ => rfl⟩
  | 8, _ => ⟨rfl, rfl, fun _ => rfl⟩
  | 9, _ => ⟨rfl, rfl, fun _ => rfl⟩
  | 10, _ => ⟨rfl, rfl, fun _ => rfl⟩
  | 11, _ => ⟨rfl, rfl, fun _ => rfl⟩
  | 12, _ => ⟨rfl, rfl, fun _ => rfl⟩
  | 13, _ => ⟨rfl, rfl, fun _ => rfl⟩
  | 14, _ => ⟨rfl, rfl, fun _ => rfl⟩
  | 15, _ => ⟨rfl, rfl, fun _ => rfl⟩
  | 16, _ => ⟨rfl, rfl, fun _ => rfl⟩
  | 17, _ => ⟨rfl, rfl, fun _ => rfl⟩
  | 18, _ => ⟨rfl, rfl, fun _ => rfl⟩
  | 19, _ => ⟨rfl, rfl, fun _ => rfl⟩
  | 20, _ => ⟨rfl, rfl, fun _ => rfl⟩
  | 21, _ => ⟨rfl, rfl, fun _ => rfl⟩
  | 22, _ => ⟨rfl, rfl, fun _ => rfl⟩
  | 23, _ => ⟨rfl, rfl, fun _ => rfl⟩
  | 24, _ => ⟨rfl, rfl, fun _ => rfl⟩
  | 25, _ => ⟨rfl, rfl, fun _ => rfl⟩
  | 26, _ => ⟨rfl, rfl, fun _ => rfl⟩
  | 27, _ => ⟨rfl, rfl, fun _ => rfl⟩
  | 28, _ => ⟨rfl, rfl, fun _ => rfl⟩
  | 29, _ => ⟨rfl, rfl, fun _ => rfl⟩
  | 30, _ => ⟨rfl, rfl, fun _ => rfl⟩
  | 31, _ => ⟨rfl, rfl, fun _ => rfl⟩
  | 32, _ => ⟨rfl, rfl, fun _ => rfl⟩
  | 33, _ => ⟨rfl, rfl, fun _ => rfl⟩
  | 34, _ => ⟨rfl, rfl, fun _ => rfl⟩
  | 35, _ => ⟨rfl, rfl, fun _ => rfl⟩
  | 36, _ => ⟨rfl, rfl, fun _ => rfl⟩
  | 37, _ => ⟨rfl, rfl, fun _ => rfl⟩
  | 38, _ => ⟨rfl, rfl, fun _ => rfl⟩
  | 39, _ => ⟨rfl, rfl, fun _ => rfl⟩
  | 40, _ => ⟨rfl, rfl, fun _ => rfl⟩
  | 41, _ => ⟨rfl, rfl, fun _ => rfl⟩
  | 42, _ => ⟨rfl, rfl, fun _ => rfl⟩
  | 43, _ => ⟨rfl, rfl, fun _ => rfl⟩
  | 44, _ => ⟨rfl, rfl, fun _ => rfl⟩
  | 45, _ => ⟨rfl, rfl, fun _ => rfl⟩
  | n + 46, h => absurd h (by omega)
