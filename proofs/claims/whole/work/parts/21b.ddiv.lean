/-- a quotient of two ints as doubles, the divisor not 0, is no NaN -/
theorem ddiv_ok {a n : Int32} (h : ¬ n = 0) : vf_n64 (FP.ddiv (FP.i2d a) (FP.i2d n)) := by
  have h1 : FP.Core.dIsNaN (FP.Core.ddiv (FP.Core.i2d a) (FP.Core.i2d n)) = false :=
    FP.Core.ddiv_out (FP.Core.i2d_fin a).notNaN (FP.Core.i2d_fin n) (fun z => FP.Core.i2d_ne_zero h ((FP.Core.zero_bits2 _).mp z))
  have h2 : ¬ 9218868437227405312 < (FP.Core.ddiv (FP.Core.i2d a) (FP.Core.i2d n)).toNat % 2 ^ 63 := fun q => by
    rw [(FP.Core.isNaN_bits _).mpr q] at h1
    cases h1
  show (FP.Core.ddiv (FP.Core.i2d a) (FP.Core.i2d n)) &&& 0x7fffffffffffffff ≤ 0x7ff0000000000000
  rw [UInt64.le_iff_toNat_le, UInt64.toNat_and, show (0x7fffffffffffffff : UInt64).toNat = 2 ^ 63 - 1 from rfl, Nat.and_two_pow_sub_one_eq_mod, show (0x7ff0000000000000 : UInt64).toNat = 9218868437227405312 from rfl]
  omega
