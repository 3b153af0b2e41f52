theorem nn32 {x : UInt32} (h : Jvm.FP.Core.fIsNaN x = false) : vf_n32 x := by
  have h1 : ¬ (2139095040 < x.toNat % 2 ^ 31) := fun q => by rw [(Jvm.FP.Core.isNaN_bits32 x).mpr q] at h; cases h
  show x &&& 0x7fffffff ≤ 0x7f800000
  rw [UInt32.le_iff_toNat_le, UInt32.toNat_and]
  have h2 : (0x7fffffff : UInt32).toNat = 2 ^ 31 - 1 := by decide
  have h3 : (0x7f800000 : UInt32).toNat = 2139095040 := by decide
  rw [h2, h3, Nat.and_two_pow_sub_one_eq_mod]
  omega
theorem nn64 {x : UInt64} (h : Jvm.FP.Core.dIsNaN x = false) : vf_n64 x := by
  have h1 : ¬ (9218868437227405312 < x.toNat % 2 ^ 63) := fun q => by rw [(Jvm.FP.Core.isNaN_bits x).mpr q] at h; cases h
  show x &&& 0x7fffffffffffffff ≤ 0x7ff0000000000000
  rw [UInt64.le_iff_toNat_le, UInt64.toNat_and]
  have h2 : (0x7fffffffffffffff : UInt64).toNat = 2 ^ 63 - 1 := by decide
  have h3 : (0x7ff0000000000000 : UInt64).toNat = 9218868437227405312 := by decide
  rw [h2, h3, Nat.and_two_pow_sub_one_eq_mod]
  omega
theorem i2f_nn (x : Int32) : Jvm.FP.Core.fIsNaN (FP.i2f x) = false := by
  have h := (Jvm.FP.Core.fin_bits32 _).mp (Jvm.FP.Core.i2f_fin x)
  cases h2 : Jvm.FP.Core.fIsNaN (FP.i2f x) with
  | false => rfl
  | true => have h3 := (Jvm.FP.Core.isNaN_bits32 _).mp h2; exact absurd h3 (by have h4 : (FP.i2f x).toNat % 2 ^ 31 < 2139095040 := h; omega)
theorem fdv_nn {a b : Int32} (hb : b ≠ 0) : Jvm.FP.Core.fIsNaN (FP.fdiv (FP.i2f a) (FP.i2f b)) = false :=
  Jvm.FP.Core.fdiv_out (a := FP.i2f a) (b := FP.i2f b) (i2f_nn a) (Jvm.FP.Core.i2f_fin b) (fun h => Jvm.FP.Core.i2f_ne_zero hb ((Jvm.FP.Core.zero_bits232 _).mp h))
theorem fdv_ok {a b : Int} (hb : b ≠ 0 ∧ -2147483648 ≤ b ∧ b < 2147483648) : vf_n32 (FP.fdiv (FP.i2f (iI a)) (FP.i2f (iI b))) := nn32 (fdv_nn (iI_ne hb))
def cdV (sh : Nat) (zs al : Int) : Nat := if 0 ≤ zs ∧ zs < (sh : Int) then (if al = 0 then 2 else 0) else 1
def srF (c : Nat) (a b : Int) : UInt32 := if c = 0 then FP.fdiv (FP.i2f (iI a)) (FP.i2f (iI b)) else if c = 1 then FP.i2f (iI 0) else FP.fconst0
