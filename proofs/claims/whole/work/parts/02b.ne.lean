/-! The String constructor of NoSuchElementException calls its superclass by entry 13, not 7: the words of 'new NoSuchElementException(text)' -/
def ne_six : ByteArray := ⟨#[0x2a, 0x2b, 0xb7, 0x00, 0x0d, 0xb1]⟩
theorem ne_six_0 : decode ne_six 0 = .ok (.aload_n 0, 1) := by decide +kernel
theorem ne_six_1 : decode ne_six 1 = .ok (.aload_n 1, 1) := by decide +kernel
theorem ne_six_2 : decode ne_six 2 = .ok (.invokespecial 13, 3) := by decide +kernel
theorem ne_six_5 : decode ne_six 5 = .ok (.return_, 1) := by decide +kernel
def ne_tail (own : String) (ic : Nat) (X : String) : List Cond := (Bundle.ownAtoms own ic X []).drop (Bundle.throwableAtoms ++ Bundle.throwableSAtoms ++ Bundle.chainSAtoms X []).length
def ne_chain (X : String) : List String → List Cond
  | [] => []
  | Y :: r => Bundle.passSAtoms X Y 13 ne_six ++ Bundle.chainSAtoms Y r
def ne_atoms (own : String) (ic : Nat) (X : String) (names : List String) : List Cond := Bundle.throwableAtoms ++ Bundle.throwableSAtoms ++ ne_chain X names ++ ne_tail own ic X
def ne_atS (own : String) (ic : Nat) (X : String) (names : List String) : List Cond := (ne_atoms own ic X names).filter vx_no
