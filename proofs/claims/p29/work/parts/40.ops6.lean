/-- the reference's row, going back: i nozzles, p pumps done -/
abbrev zat (i p a : Nat) : Prop := (a < 12 * i ∧ a < 144 ∧ 6 ≤ a % 12) ∨ (912 ≤ a ∧ a < 912 + 5 * p ∧ 2 ≤ (a - 912) % 5)
