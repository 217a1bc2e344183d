/-! numbers that aren't NaN -/
theorem nn32 {r : UInt32} (h : FP.Core.fIsNaN r = false) : vf_n32 r := by
  have h2 : r.toNat % 2 ^ 31 ≤ 2139095040 := by
    rcases Nat.lt_or_ge 2139095040 (r.toNat % 2 ^ 31) with h1 | h1
    · have := (FP.Core.isNaN_bits32 r).mpr h1
      rw [h] at this; cases this
    · exact h1
  unfold vf_n32
  rw [UInt32.le_iff_toNat_le, UInt32.toNat_and]
  show r.toNat &&& (2 ^ 31 - 1) ≤ 2139095040
  rw [Nat.and_two_pow_sub_one_eq_mod]
  exact h2
theorem nn32' {r : UInt32} (h : vf_n32 r) : FP.Core.fIsNaN r = false := by
  unfold vf_n32 at h
  rw [UInt32.le_iff_toNat_le, UInt32.toNat_and] at h
  have h : r.toNat &&& (2 ^ 31 - 1) ≤ 2139095040 := h
  rw [Nat.and_two_pow_sub_one_eq_mod] at h
  cases e : FP.Core.fIsNaN r with
  | false => rfl
  | true => have := (FP.Core.isNaN_bits32 r).mp e; omega
theorem nn64 {r : UInt64} (h : FP.Core.dIsNaN r = false) : vf_n64 r := by
  have h2 : r.toNat % 2 ^ 63 ≤ 9218868437227405312 := by
    rcases Nat.lt_or_ge 9218868437227405312 (r.toNat % 2 ^ 63) with h1 | h1
    · have := (FP.Core.isNaN_bits r).mpr h1
      rw [h] at this; cases this
    · exact h1
  unfold vf_n64
  rw [UInt64.le_iff_toNat_le, UInt64.toNat_and]
  show r.toNat &&& (2 ^ 63 - 1) ≤ 9218868437227405312
  rw [Nat.and_two_pow_sub_one_eq_mod]
  exact h2
theorem nn_fdiv (a b : Int32) (h : b.toInt ≠ 0) : vf_n32 (FP.fdiv (FP.i2f a) (FP.i2f b)) := by
  refine nn32 (FP.Core.fdiv_out (FP.Core.i2f_fin a).notNaN (FP.Core.i2f_fin b) (fun hz => ?_))
  have h1 : (FP.Core.i2f b).toNat % 2 ^ 31 = 0 := (FP.Core.zero_bits232 _).mp hz
  have h2 := FP.Core.i2f_big h
  omega
theorem nn_ddiv_i2d (a b : Int32) (h : b.toInt ≠ 0) : vf_n64 (FP.ddiv (FP.i2d a) (FP.i2d b)) := by
  refine nn64 (FP.Core.ddiv_out (FP.Core.i2d_fin a).notNaN (FP.Core.i2d_fin b) (fun hz => ?_))
  have h1 : (FP.Core.i2d b).toNat % 2 ^ 63 = 0 := (FP.Core.zero_bits2 _).mp hz
  have h2 := FP.Core.i2d_big h
  omega
theorem nn_ddiv_l2d (a : Int64) (b : Int32) (h : b.toInt ≠ 0) : vf_n64 (FP.ddiv (FP.l2d a) (FP.i2d b)) := by
  refine nn64 (FP.Core.ddiv_out (FP.Core.l2d_fin a).notNaN (FP.Core.i2d_fin b) (fun hz => ?_))
  have h1 : (FP.Core.i2d b).toNat % 2 ^ 63 = 0 := (FP.Core.zero_bits2 _).mp hz
  have h2 := FP.Core.i2d_big h
  omega
theorem nn_f2d {x : UInt32} (h : vf_n32 x) : vf_n64 (FP.f2d x) := by
  refine nn64 ?_
  have h1 := FP.f2d_nan x
  exact h1.trans (nn32' h)
theorem nn_f0 : vf_n32 FP.fconst0 := by unfold vf_n32; decide +kernel
theorem nn_d0 : vf_n64 FP.dconst0 := by unfold vf_n64; decide +kernel
