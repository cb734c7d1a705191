/-! part, spray, pressure, say, wipe, command, tick, state -/
theorem if10 {τ : Type} {a b : τ} : (if (1 : Int32) = 0 then a else b) = b := if_neg (by decide)
theorem if00 {τ : Type} {a b : τ} : (if (0 : Int32) = 0 then a else b) = a := if_pos rfl
theorem hasC_c {b : Nat} {σ : Mem} {cnt : Nat} (h8 : σ (b + 20) 3 = nI cnt) (x : Int32) : f_X0_has σ (b + 20) x = some (if 0 ≤ x ∧ x ≤ nI cnt - 1 then 1 else 0) := by
  unfold f_X0_has
  rw [h8, in_X8]
  show chk (bit _) (some _) = _
  split <;> rfl
theorem of_in {x : Int32} {m : Nat} (hm : m < 2 ^ 31) (h : 0 ≤ x ∧ x ≤ nI m) : ∃ j, j ≤ m ∧ x = nI j := by
  obtain ⟨j, -, h2, h3⟩ := of_rng (a := 0) (b := m) hm h (by decide)
  exact ⟨j, h2, h3⟩
theorem ne_nI {j m : Nat} (h : j < m) (hm : m < 2 ^ 31) : ¬ nI j = nI m := fun e => by have := nI_inj (by omega) hm e; omega
theorem no_in {x : Int32} {m j : Nat} (hm : m < 2 ^ 31) (hj : j ≤ m) (h : ¬ (0 ≤ x ∧ x ≤ nI m)) : ¬ x = nI j := by
  intro e
  subst e
  exact h ⟨nI_le (a := 0) (by omega) (by omega), nI_le hj hm⟩
theorem vpc {x : Nat} (h : x ≤ 126) : vp_nar .char (((nI x).toUInt32 % 65536).toInt32) = nI x := by
  have : ∀ x : Fin 127, vp_nar .char (((nI x.1).toUInt32 % 65536).toInt32) = nI x.1 := by decide
  exact this ⟨x, by omega⟩
