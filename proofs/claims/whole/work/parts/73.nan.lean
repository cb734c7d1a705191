/-! what the machine calls no number -/
theorem nan_dec {a : UInt64} (h : isNaN64 a = true) : FP.Core.decode FP.Core.b64 a.toNat = .nan := by
  unfold isNaN64 at h
  have h := of_decide_eq_true h
  have h := UInt64.lt_iff_toNat_lt.mp h
  rw [UInt64.toNat_and] at h
  have e1 : (0x7fffffffffffffff : UInt64).toNat = 2 ^ 63 - 1 := rfl
  have e2 : (0x7ff0000000000000 : UInt64).toNat = 9218868437227405312 := rfl
  rw [e1, e2, Nat.and_two_pow_sub_one_eq_mod] at h
  have hl := a.toNat_lt
  generalize a.toNat = n at h hl
  have t : FP.Core.Fmt.tails FP.Core.b64 = 4503599627370496 := rfl
  have x : FP.Core.Fmt.exps FP.Core.b64 = 2048 := rfl
  unfold FP.Core.decode FP.Core.fieldE FP.Core.fieldT
  rw [t, x]
  have : n / 4503599627370496 % 2048 = 2047 ∧ ¬ n % 4503599627370496 = 0 := by omega
  rw [if_pos (by omega), if_neg this.2]
