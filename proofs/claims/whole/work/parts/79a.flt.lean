-- quotients of whole numbers are numbers
theorem n32_div {a b : Int32} (hb : b ≠ 0) : vf_n32 (FP.fdiv (FP.i2f a) (FP.i2f b)) := by
  have h1 := FP.Core.i2f_mag a
  have h2 := FP.Core.i2f_big (FP.Core.int32_ne hb)
  have h := FP.Core.fdiv_mag (K := 160) (L := 127) h1 h2.1 h2.2 (by decide) (by decide)
  unfold vf_n32
  rw [UInt32.le_iff_toNat_le, UInt32.toNat_and]
  have e : (0x7fffffff : UInt32).toNat = 2 ^ 31 - 1 := rfl
  rw [e, Nat.and_two_pow_sub_one_eq_mod]
  have e2 : (0x7f800000 : UInt32).toNat = 255 * 2 ^ 23 := rfl
  rw [e2]
  have h3 : (FP.fdiv (FP.i2f a) (FP.i2f b)).toNat % 2 ^ 31 < (160 + (149 - 23 - 1) - 127 + 3) * 2 ^ 23 := h
  omega
theorem n64_div {a b : Int32} (hb : b ≠ 0) : vf_n64 (FP.ddiv (FP.i2d a) (FP.i2d b)) := by
  have h1 := FP.Core.i2d_mag a
  have h2 := FP.Core.i2d_big (FP.Core.int32_ne hb)
  have h := FP.Core.ddiv_mag (K := 1056) (L := 1023) h1 h2.1 h2.2 (by decide) (by decide)
  unfold vf_n64
  rw [UInt64.le_iff_toNat_le, UInt64.toNat_and]
  have e : (0x7fffffffffffffff : UInt64).toNat = 2 ^ 63 - 1 := rfl
  rw [e, Nat.and_two_pow_sub_one_eq_mod]
  have e2 : (0x7ff0000000000000 : UInt64).toNat = 2047 * 2 ^ 52 := rfl
  rw [e2]
  have h3 : (FP.ddiv (FP.i2d a) (FP.i2d b)).toNat % 2 ^ 63 < _ := h
  omega
