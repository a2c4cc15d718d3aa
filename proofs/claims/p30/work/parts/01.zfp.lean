/-! NO QUOTIENT BY A NUMBER THAT IS NONE ZERO IS NONE -/
theorem fp_le {r : UInt64} (h : r.toNat % 2 ^ 63 < 1100 * 2 ^ 52) : r &&& 0x7fffffffffffffff ≤ 0x7ff0000000000000 := by
  rw [UInt64.le_iff_toNat_le, UInt64.toNat_and]
  have e : (0x7fffffffffffffff : UInt64).toNat = 2 ^ 63 - 1 := rfl
  rw [e, Nat.and_two_pow_sub_one_eq_mod]
  have e2 : (0x7ff0000000000000 : UInt64).toNat = 2047 * 2 ^ 52 := rfl
  rw [e2]
  omega
theorem fp_divL (x : Int64) {n : Int32} (h : n.toInt ≠ 0) : FP.ddiv (FP.l2d x) (FP.i2d n) &&& 0x7fffffffffffffff ≤ 0x7ff0000000000000 := by
  have hb := FP.Core.i2d_big h
  have hm := FP.Core.ddiv_mag (a := FP.Core.l2d x) (b := FP.Core.i2d n) (K := 1088) (L := 1023) (FP.Core.l2d_mag x) hb.1 hb.2 (by decide) (by decide)
  refine fp_le ?_
  show (FP.Core.ddiv (FP.Core.l2d x) (FP.Core.i2d n)).toNat % 2 ^ 63 < _
  omega
theorem fp_divI (x : Int32) {n : Int32} (h : n.toInt ≠ 0) : FP.ddiv (FP.i2d x) (FP.i2d n) &&& 0x7fffffffffffffff ≤ 0x7ff0000000000000 := by
  have hb := FP.Core.i2d_big h
  have hm := FP.Core.ddiv_mag (a := FP.Core.i2d x) (b := FP.Core.i2d n) (K := 1056) (L := 1023) (FP.Core.i2d_mag x) hb.1 hb.2 (by decide) (by decide)
  refine fp_le ?_
  show (FP.Core.ddiv (FP.Core.i2d x) (FP.Core.i2d n)).toNat % 2 ^ 63 < _
  omega
