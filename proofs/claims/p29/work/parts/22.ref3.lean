/-! the reference's openings, pumps and nozzles -/
def vset (V : Sh) (r c v : Nat) : Sh := fun r' c' => if r' = r ∧ c' = c then v else V r' c'
theorem vset_s (V : Sh) (r c v : Nat) : vset V r c v r c = v := by unfold vset; rw [if_pos ⟨rfl, rfl⟩]
theorem vset_n {V : Sh} {r c v r' c' : Nat} (h : ¬ (r' = r ∧ c' = c)) : vset V r c v r' c' = V r' c' := by unfold vset; rw [if_neg h]
