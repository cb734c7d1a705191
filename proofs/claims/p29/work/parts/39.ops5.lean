/-! setUp, rewind, save, restore -/
theorem il {a c : Nat} (h : a ≤ c) (hc : c < 2 ^ 31) : nI a ≤ nI c := nI_le h hc
theorem nil {a c : Nat} (h : c < a) (ha : a < 2 ^ 31) : ¬ nI a ≤ nI c := by rw [le_i, nI_toInt ha, nI_toInt (by omega)]; omega
abbrev t12 : Nat → Nat := tab [10, 1000, 3, 200, 0, 10]
abbrev t5 : Nat → Nat := tab [100, 20]
/-- the reference's row in its beginning, i nozzles and p pumps done -/
def bgn (i p a : Nat) : Nat := if a < 12 * i ∧ a < 144 then t12 (a % 12) else if 912 ≤ a ∧ a < 912 + 5 * p then t5 ((a - 912) % 5) else 0
theorem Rc_gg {b : Nat} {V : Sh} {σ : Mem} (hV : Vok V) (h : Rc b V σ) : ∃ g, g ≤ 1000 ∧ σ (b + 3) 9 = nI g := ⟨V 18 8, by have := hV.2.2.1; unfold VokS at this; omega, h.2.2.1.2.2.2.2.2.2.2.2.2⟩
