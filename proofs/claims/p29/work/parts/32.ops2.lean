/-! nozzle, pump, set, wind, command, tick -/
theorem p00 : ptr 0 0 = 1 := rfl
theorem p01 : ptr 0 1 = 25 := rfl
theorem p02 : ptr 0 2 = 49 := rfl
theorem p03 : ptr 0 3 = 74 := rfl
theorem p04 : ptr 0 4 = 99 := rfl
theorem vok_noz {V : Sh} {i j w : Nat} (hV : Vok V) (hj : j < 6) (h1 : loN j ≤ w) (h2 : w ≤ hiN j) : Vok (vset V j i w) := by
  obtain ⟨hN, hP, hS, hC, hH⟩ := hV
  have e18 : vset V j i w 18 = V 18 := vset_r (by omega)
  refine ⟨?_, ?_, ?_, ?_, ?_⟩
  · intro i' hi'
    rw [e18] at hi'
    rw [vset_r (r' := 6) (by omega), vset_r (r' := 7) (by omega), vset_r (r' := 8) (by omega), vset_r (r' := 9) (by omega), vset_r (r' := 10) (by omega), vset_r (r' := 11) (by omega)]
    have a := hN i' hi'
    by_cases e : i' = i
    · subst e
      have : j = 0 ∨ j = 1 ∨ j = 2 ∨ j = 3 ∨ j = 4 ∨ j = 5 := by omega
      rcases this with q | q | q | q | q | q <;> subst q <;> simp [vset, tab] at h1 h2 ⊢ <;> omega
    · rw [vset_n (by omega), vset_n (by omega), vset_n (by omega), vset_n (by omega), vset_n (by omega), vset_n (by omega)]
      exact a
  · intro p hp
    rw [e18, vset_r (r' := 12) (by omega), vset_r (r' := 13) (by omega), vset_r (r' := 14) (by omega), vset_r (r' := 15) (by omega), vset_r (r' := 16) (by omega)]
    exact hP p hp
  · unfold VokS
    rw [e18, vset_r (r' := 17) (by omega)]
    exact hS
  · unfold VokC
    rw [e18, vset_r (r' := 19) (by omega), vset_r (r' := 20) (by omega), vset_r (r' := 21) (by omega)]
    exact hC
  · intro t i' ht hi'
    rw [e18] at ht hi'
    rw [vset_r (by omega)]
    exact hH t i' ht hi'
theorem vok_pmp {V : Sh} {i j w : Nat} (hV : Vok V) (hj : j < 2) (h1 : loP j ≤ w) (h2 : w ≤ hiP j) : Vok (vset V (12 + j) i w) := by
  obtain ⟨hN, hP, hS, hC, hH⟩ := hV
  have e18 : vset V (12 + j) i w 18 = V 18 := vset_r (by omega)
  refine ⟨?_, ?_, ?_, ?_, ?_⟩
  · intro i' hi'
    rw [e18] at hi'
    rw [vset_r (r' := 0) (by omega), vset_r (r' := 1) (by omega), vset_r (r' := 2) (by omega), vset_r (r' := 3) (by omega), vset_r (r' := 4) (by omega), vset_r (r' := 5) (by omega), vset_r (r' := 6) (by omega), vset_r (r' := 7) (by omega), vset_r (r' := 8) (by omega), vset_r (r' := 9) (by omega), vset_r (r' := 10) (by omega), vset_r (r' := 11) (by omega)]
    exact hN i' hi'
  · intro p hp
    rw [e18, vset_r (r' := 14) (by omega), vset_r (r' := 15) (by omega), vset_r (r' := 16) (by omega)]
    have a := hP p hp
    by_cases e : p = i
    · subst e
      have : j = 0 ∨ j = 1 := by omega
      rcases this with q | q <;> subst q <;> simp [vset, tab] at h1 h2 ⊢ <;> omega
    · rw [vset_n (by omega), vset_n (by omega)]
      exact a
  · unfold VokS
    rw [e18, vset_r (r' := 17) (by omega)]
    exact hS
  · unfold VokC
    rw [e18, vset_r (r' := 19) (by omega), vset_r (r' := 20) (by omega), vset_r (r' := 21) (by omega)]
    exact hC
  · intro t i' ht hi'
    rw [e18] at ht hi'
    rw [vset_r (by omega)]
    exact hH t i' ht hi'
theorem vok_set {V : Sh} {j w : Nat} (hV : Vok V) (hj : j < 6) (h1 : loS j ≤ w) (h2 : w ≤ hiS j) : Vok (vset V 17 j w) := by
  obtain ⟨hN, hP, hS, hC, hH⟩ := hV
  have e18 : vset V 17 j w 18 = V 18 := vset_r (by omega)
  refine ⟨?_, ?_, ?_, ?_, ?_⟩
  · intro i' hi'
    rw [e18] at hi'
    rw [vset_r (r' := 0) (by omega), vset_r (r' := 1) (by omega), vset_r (r' := 2) (by omega), vset_r (r' := 3) (by omega), vset_r (r' := 4) (by omega), vset_r (r' := 5) (by omega), vset_r (r' := 6) (by omega), vset_r (r' := 7) (by omega), vset_r (r' := 8) (by omega), vset_r (r' := 9) (by omega), vset_r (r' := 10) (by omega), vset_r (r' := 11) (by omega)]
    exact hN i' hi'
  · intro p hp
    rw [e18, vset_r (r' := 12) (by omega), vset_r (r' := 13) (by omega), vset_r (r' := 14) (by omega), vset_r (r' := 15) (by omega), vset_r (r' := 16) (by omega)]
    exact hP p hp
  · unfold VokS at hS ⊢
    rw [e18]
    have : j = 0 ∨ j = 1 ∨ j = 2 ∨ j = 3 ∨ j = 4 ∨ j = 5 := by omega
    rcases this with q | q | q | q | q | q <;> subst q <;> simp [vset, tab] at h1 h2 ⊢ <;> omega
  · unfold VokC
    rw [e18, vset_r (r' := 19) (by omega), vset_r (r' := 20) (by omega), vset_r (r' := 21) (by omega)]
    exact hC
  · intro t i' ht hi'
    rw [e18] at ht hi'
    rw [vset_r (by omega)]
    exact hH t i' ht hi'
theorem vok_wind {V : Sh} {w : Nat} (hV : Vok V) (h2 : w ≤ 300) : Vok (vset V 18 0 w) := by
  obtain ⟨hN, hP, hS, hC, hH⟩ := hV
  have e : ∀ c, c ≠ 0 → vset V 18 0 w 18 c = V 18 c := fun c hc => vset_n (by omega)
  refine ⟨?_, ?_, ?_, ?_, ?_⟩
  · intro i' hi'
    rw [e 5 (by decide)] at hi'
    rw [vset_r (r' := 0) (by omega), vset_r (r' := 1) (by omega), vset_r (r' := 2) (by omega), vset_r (r' := 3) (by omega), vset_r (r' := 4) (by omega), vset_r (r' := 5) (by omega), vset_r (r' := 6) (by omega), vset_r (r' := 7) (by omega), vset_r (r' := 8) (by omega), vset_r (r' := 9) (by omega), vset_r (r' := 10) (by omega), vset_r (r' := 11) (by omega)]
    exact hN i' hi'
  · intro p hp
    rw [e 4 (by decide), vset_r (r' := 12) (by omega), vset_r (r' := 13) (by omega), vset_r (r' := 14) (by omega), vset_r (r' := 15) (by omega), vset_r (r' := 16) (by omega)]
    exact hP p hp
  · unfold VokS at hS ⊢
    rw [vset_r (r' := 17) (by omega), vset_s, e 1 (by decide), e 2 (by decide), e 3 (by decide), e 4 (by decide), e 5 (by decide), e 6 (by decide), e 7 (by decide), e 8 (by decide)]
    omega
  · unfold VokC
    rw [e 7 (by decide), vset_r (r' := 19) (by omega), vset_r (r' := 20) (by omega), vset_r (r' := 21) (by omega)]
    exact hC
  · intro t i' ht hi'
    rw [e 4 (by decide)] at ht
    rw [e 5 (by decide)] at hi'
    rw [vset_r (by omega)]
    exact hH t i' ht hi'
