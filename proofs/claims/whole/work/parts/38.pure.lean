/-! what the two states share -/
theorem n64_of {a : UInt64} (h : FP.Core.dIsNaN a = false) : vf_n64 a := by
  have h1 : ¬ 9218868437227405312 < a.toNat % 2 ^ 63 := fun c => by
    have := (FP.Core.isNaN_bits a).mpr c
    rw [h] at this
    cases this
  show a &&& 0x7fffffffffffffff ≤ 0x7ff0000000000000
  rw [UInt64.le_iff_toNat_le, UInt64.toNat_and]
  have h2 : (0x7fffffffffffffff : UInt64).toNat = 2 ^ 63 - 1 := by decide
  have h3 : (0x7ff0000000000000 : UInt64).toNat = 9218868437227405312 := by decide
  rw [h2, h3, Nat.and_two_pow_sub_one_eq_mod]
  omega
theorem mean_nan (S : Int64) {N : Nat} (h1 : 1 ≤ N) (h2 : N < 2 ^ 31) : vf_n64 (FP.ddiv (FP.l2d S) (FP.i2d (nI N))) := by
  refine n64_of (FP.Core.ddiv_out (FP.Core.l2d_fin S).notNaN (FP.Core.i2d_fin _) ?_)
  intro hz
  refine FP.Core.i2d_ne_zero (v := nI N) ?_ ?_
  · intro h
    have := congrArg Int32.toInt h
    rw [nI_toInt h2] at this
    have h3 : (0 : Int32).toInt = 0 := by decide
    rw [h3] at this
    omega
  · obtain ⟨s, q, h⟩ := hz
    exact (FP.Core.zero_bits2 _).mp ⟨s, q, h⟩
