/-! two answers alike the same number -/
theorem dcmp_nan {a c : UInt64} (h : FP.Core.decode FP.Core.b64 a.toNat = .nan) : FP.dcmp a c = none := by
  show FP.Core.order (FP.Core.decode FP.Core.b64 a.toNat) (FP.Core.decode FP.Core.b64 c.toNat) = none
  rw [h]
  rfl
theorem pair_cmp {p q x : UInt64} (h1 : alike64 p x = true) (h2 : alike64 q x = true) : FP.dcmp p q = some .eq ∨ (FP.dcmp p q = none ∧ FP.dcmp p p = none ∧ FP.dcmp q q = none) := by
  unfold alike64 at h1 h2
  rw [Bool.or_eq_true, Bool.and_eq_true] at h1 h2
  have both : isNaN64 p = true → isNaN64 q = true → FP.dcmp p q = some .eq ∨ (FP.dcmp p q = none ∧ FP.dcmp p p = none ∧ FP.dcmp q q = none) := fun a b => Or.inr ⟨dcmp_nan (nan_dec a), dcmp_nan (nan_dec a), dcmp_nan (nan_dec b)⟩
  rcases h1 with h1 | ⟨h1, h1x⟩
  · have e1 : p = x := of_decide_eq_true h1
    rcases h2 with h2 | ⟨h2, h2x⟩
    · have e2 : q = x := of_decide_eq_true h2
      subst e1 e2
      by_cases z : FP.Core.decode FP.Core.b64 q.toNat = .nan
      · exact Or.inr ⟨dcmp_nan z, dcmp_nan z, dcmp_nan z⟩
      · exact Or.inl (dec_eq z)
    · exact both (by rw [e1]; exact h2x) h2
  · rcases h2 with h2 | ⟨h2, h2x⟩
    · have e2 : q = x := of_decide_eq_true h2
      exact both h1 (by rw [e2]; exact h1x)
    · exact both h1 h2
