/-! a quotient of numbers is a number -/
theorem dv_n64 (a b : Nat) (ha : a < 2 ^ 30) (hb : b < 2 ^ 30) (h0 : 0 < b) : vf_n64 (FP.ddiv (FP.i2d (nI a)) (FP.i2d (nI b))) := by
  have hb0 : nI b ≠ 0 := fun z => by
    have e : (nI b).toInt = 0 := by rw [z]; rfl
    rw [nI_toInt (by omega)] at e
    omega
  have h1 : FP.Core.dIsNaN (FP.Core.i2d (nI a)) = false := (FP.Core.notNaN_iff _).mpr ((FP.Core.ne_nan _).mpr (Nat.le_of_lt ((FP.Core.fin_bits _).mp (FP.Core.i2d_fin _))))
  have h2 : ¬ FP.Core.DZero (FP.Core.i2d (nI b)) := fun z => FP.Core.i2d_ne_zero hb0 ((FP.Core.zero_bits2 _).mp z)
  have h3 := (FP.Core.ne_nan _).mp ((FP.Core.notNaN_iff _).mp (FP.Core.ddiv_out h1 (FP.Core.i2d_fin _) h2))
  show (FP.Core.ddiv (FP.Core.i2d (nI a)) (FP.Core.i2d (nI b))) &&& 0x7fffffffffffffff ≤ 0x7ff0000000000000
  generalize FP.Core.ddiv (FP.Core.i2d (nI a)) (FP.Core.i2d (nI b)) = r at h3 ⊢
  have e : (0x7fffffffffffffff : UInt64).toNat = 2 ^ 63 - 1 := by decide
  have e2 : (0x7ff0000000000000 : UInt64).toNat = 9218868437227405312 := by decide
  rw [UInt64.le_iff_toNat_le, UInt64.toNat_and, e, e2, Nat.and_two_pow_sub_one_eq_mod]
  exact h3
