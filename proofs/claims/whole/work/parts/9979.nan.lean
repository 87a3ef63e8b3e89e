/-! no quotient is a NaN -/
theorem nn64 {a : UInt64} (h : FP.Core.dIsNaN a = false) : a &&& 0x7fffffffffffffff ≤ 0x7ff0000000000000 := by
  have h2 := (FP.Core.ne_nan a).mp ((FP.Core.notNaN_iff a).mp h)
  rw [UInt64.le_iff_toNat_le, UInt64.toNat_and]
  have e1 : (0x7fffffffffffffff : UInt64).toNat = 2 ^ 63 - 1 := by decide
  have e2 : (0x7ff0000000000000 : UInt64).toNat = 9218868437227405312 := by decide
  rw [e1, e2, Nat.and_two_pow_sub_one_eq_mod]
  exact h2
theorem nn32 {a : UInt32} (h : FP.Core.fIsNaN a = false) : a &&& 0x7fffffff ≤ 0x7f800000 := by
  have h2 := (FP.Core.ne_nan32 a).mp ((FP.Core.notNaN_iff32 a).mp h)
  rw [UInt32.le_iff_toNat_le, UInt32.toNat_and]
  have e1 : (0x7fffffff : UInt32).toNat = 2 ^ 31 - 1 := by decide
  have e2 : (0x7f800000 : UInt32).toNat = 2139095040 := by decide
  rw [e1, e2, Nat.and_two_pow_sub_one_eq_mod]
  exact h2
theorem nd_ok : ndK := by
  intro x y hy
  have hz : ¬ FP.Core.DZero (FP.Core.i2d y) := by rw [FP.Core.zero_bits2]; exact FP.Core.i2d_ne_zero hy
  have h : FP.Core.dIsNaN (FP.Core.ddiv (FP.Core.i2d x) (FP.Core.i2d y)) = false := FP.Core.ddiv_out (FP.Core.DFin.notNaN (FP.Core.i2d_fin x)) (FP.Core.i2d_fin y) hz
  have s := FP.Core.dcmp_self ((FP.Core.notNaN_iff _).mp h)
  refine ⟨nn64 h, ?_⟩
  show Op.cmpValue (FP.Core.dcmp (FP.Core.ddiv (FP.Core.i2d x) (FP.Core.i2d y)) (FP.Core.ddiv (FP.Core.i2d x) (FP.Core.i2d y))) .l = 0
  rw [s]; rfl
theorem nf_ok : nfK := by
  intro x y hy
  have hz : ¬ FP.Core.FZero (FP.Core.i2f y) := by rw [FP.Core.zero_bits232]; exact FP.Core.i2f_ne_zero hy
  have h : FP.Core.fIsNaN (FP.Core.fdiv (FP.Core.i2f x) (FP.Core.i2f y)) = false := FP.Core.fdiv_out (FP.Core.FFin.notNaN (FP.Core.i2f_fin x)) (FP.Core.i2f_fin y) hz
  have h2 : FP.Core.dIsNaN (FP.f2d (FP.Core.fdiv (FP.Core.i2f x) (FP.Core.i2f y))) = false := (FP.f2d_nan _).trans h
  have s := FP.Core.dcmp_self ((FP.Core.notNaN_iff _).mp h2)
  refine ⟨nn32 h, nn64 h2, ?_⟩
  show Op.cmpValue (FP.Core.dcmp (FP.f2d (FP.Core.fdiv (FP.Core.i2f x) (FP.Core.i2f y))) (FP.f2d (FP.Core.fdiv (FP.Core.i2f x) (FP.Core.i2f y)))) .l = 0
  rw [s]; rfl
