/-! numbers with a point: alike the same, so equal or both none -/
theorem dec_nan {a : UInt64} (h : FP.Core.decode FP.Core.b64 a.toNat = .nan) : FP.dcmp a a = none := by
  show FP.Core.order (FP.Core.decode FP.Core.b64 a.toNat) (FP.Core.decode FP.Core.b64 a.toNat) = none
  rw [h]
  rfl
theorem dec_eq {a : UInt64} (h : FP.Core.decode FP.Core.b64 a.toNat ≠ .nan) : FP.dcmp a a = some .eq := by
  show FP.Core.order (FP.Core.decode FP.Core.b64 a.toNat) (FP.Core.decode FP.Core.b64 a.toNat) = some .eq
  cases e : FP.Core.decode FP.Core.b64 a.toNat with
  | nan => exact (h e).elim
  | inf s =>
    show some (compare (FP.Core.signed s 1) (FP.Core.signed s 1)) = _
    rw [show compare (FP.Core.signed s 1) (FP.Core.signed s 1) = Ordering.eq by simp [compare, compareOfLessAndEq]]
  | fin s c q =>
    show some (compare (FP.Core.signed s (FP.Core.inUnits c q (min q q))) (FP.Core.signed s (FP.Core.inUnits c q (min q q)))) = _
    rw [show compare (FP.Core.signed s (FP.Core.inUnits c q (min q q))) (FP.Core.signed s (FP.Core.inUnits c q (min q q))) = Ordering.eq by simp [compare, compareOfLessAndEq]]
