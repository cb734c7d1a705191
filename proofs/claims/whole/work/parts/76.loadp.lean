/-! two loads: the same float, or both none -/
theorem nan32 {a : UInt32} (h : isNaN32 a = true) : FP.fIsNaN a = true := by
  refine (FP.Core.isNaN_bits32 a).mpr ?_
  unfold isNaN32 at h
  have h := of_decide_eq_true h
  have h := UInt32.lt_iff_toNat_lt.mp h
  rw [UInt32.toNat_and] at h
  have e1 : (0x7fffffff : UInt32).toNat = 2 ^ 31 - 1 := rfl
  have e2 : (0x7f800000 : UInt32).toNat = 2139095040 := rfl
  rw [e1, e2, Nat.and_two_pow_sub_one_eq_mod] at h
  exact h
theorem f2d_dec {a : UInt32} {p : UInt64} (h : FP.fIsNaN a = true) (hp : alike64 p (FP.f2d a) = true) : FP.Core.decode FP.Core.b64 p.toNat = .nan := by
  unfold alike64 at hp
  rw [Bool.or_eq_true, Bool.and_eq_true] at hp
  rcases hp with e | ⟨e, -⟩
  · have e : p = FP.f2d a := of_decide_eq_true e
    have h2 := FP.f2d_nan a
    rw [h, ← e] at h2
    exact of_decide_eq_true h2
  · exact nan_dec e
theorem load_two {b fl cap : Int32} {r s : UInt32} (h1 : loadP b fl cap r) (h2 : loadP b fl cap s) : r = s ∨ (FP.fIsNaN r = true ∧ FP.fIsNaN s = true) := by
  unfold loadP at h1 h2
  by_cases b0 : b = 0
  · rw [if_pos b0] at h1 h2
    exact Or.inl (h1.trans h2.symm)
  · rw [if_neg b0] at h1 h2
    by_cases c0 : cap = 0
    · rw [if_pos c0] at h1 h2
      exact Or.inl (h1.trans h2.symm)
    · rw [if_neg c0] at h1 h2
      unfold alike32 at h1 h2
      rw [Bool.or_eq_true, Bool.and_eq_true] at h1 h2
      rcases h1 with e1 | ⟨e1, z1⟩
      · have e1 := of_decide_eq_true e1
        rcases h2 with e2 | ⟨e2, z2⟩
        · have e2 := of_decide_eq_true e2
          exact Or.inl (e1.trans e2.symm)
        · exact Or.inr ⟨nan32 (by rw [e1]; exact z2), nan32 e2⟩
      · rcases h2 with e2 | ⟨e2, z2⟩
        · have e2 := of_decide_eq_true e2
          exact Or.inr ⟨nan32 e1, nan32 (by rw [e2]; exact z1)⟩
        · exact Or.inr ⟨nan32 e1, nan32 e2⟩
theorem load_cmp {b fl cap : Int32} {r s : UInt32} {p q : UInt64} (h1 : loadP b fl cap r) (h2 : loadP b fl cap s) (hp : alike64 p (FP.f2d r) = true) (hq : alike64 q (FP.f2d s) = true) : FP.dcmp p q = some .eq ∨ (FP.dcmp p q = none ∧ FP.dcmp p p = none ∧ FP.dcmp q q = none) := by
  rcases load_two h1 h2 with e | ⟨e1, e2⟩
  · subst e
    exact pair_cmp hp hq
  · exact Or.inr ⟨dcmp_nan (f2d_dec e1 hp), dcmp_nan (f2d_dec e1 hp), dcmp_nan (f2d_dec e2 hq)⟩
