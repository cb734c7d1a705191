/-! WHAT A TICK KEEPS, as numbers -/
theorem tow_b (a g s : Nat) : a ≤ tow a g s + s ∧ tow a g s ≤ a + s := by unfold tow; split <;> omega
theorem tow_z {a s : Nat} (h : 0 < tow a 0 s) : s ≤ a ∧ tow a 0 s = a - s := by
  unfold tow at h ⊢
  rw [if_neg (by omega)] at h ⊢
  omega
theorem tow_c {a g s c : Nat} (hg : g ≤ c) (h : c < tow a g s) : s ≤ a ∧ tow a g s = a - s := by
  unfold tow at h ⊢
  by_cases q : a < g
  · rw [if_pos q] at h
    omega
  · rw [if_neg q] at h ⊢
    omega
theorem tow_up {a g s : Nat} (h : a < tow a g s) : tow a g s ≤ g := by
  unfold tow at h ⊢
  by_cases q : a < g
  · rw [if_pos q]
    omega
  · rw [if_neg q] at h
    omega
theorem add_div {a b D : Nat} (h : 0 < D) : a / D + b / D ≤ (a + b) / D ∧ (a + b) / D ≤ a / D + b / D + 1 := by
  have a1 := Nat.div_add_mod a D
  have b1 := Nat.div_add_mod b D
  have a2 := Nat.mod_lt a h
  have b2 := Nat.mod_lt b h
  constructor
  · rw [Nat.le_div_iff_mul_le h, Nat.mul_comm, Nat.mul_add]
    omega
  · apply Nat.le_of_lt_succ
    rw [Nat.div_lt_iff_lt_mul h, Nat.mul_comm, show (a / D + b / D + 1).succ = a / D + b / D + 2 from rfl, Nat.mul_add, Nat.mul_add]
    omega
/-- the shares of a flow f of a demand D -/
theorem share {c : Nat → Bool} {d : Nat → Nat} {f D : Nat} (h : 0 < D) : ∀ n, sumV (fun i => if c i = true then d i * f / D else 0) n ≤ sumV (fun i => if c i = true then d i else 0) n * f / D ∧ sumV (fun i => if c i = true then d i else 0) n * f / D ≤ sumV (fun i => if c i = true then d i * f / D else 0) n + n
  | 0 => by
    show 0 ≤ 0 * f / D ∧ 0 * f / D ≤ 0 + 0
    rw [Nat.zero_mul, Nat.zero_div]
    omega
  | n + 1 => by
    obtain ⟨h1, h2⟩ := share (c := c) (d := d) (f := f) h n
    show sumV (fun i => if c i = true then d i * f / D else 0) n + (if c n = true then d n * f / D else 0) ≤ (sumV (fun i => if c i = true then d i else 0) n + (if c n = true then d n else 0)) * f / D ∧ (sumV (fun i => if c i = true then d i else 0) n + (if c n = true then d n else 0)) * f / D ≤ sumV (fun i => if c i = true then d i * f / D else 0) n + (if c n = true then d n * f / D else 0) + (n + 1)
    by_cases q : c n = true
    · rw [if_pos q, if_pos q, Nat.add_mul]
      have := add_div (a := sumV (fun i => if c i = true then d i else 0) n * f) (b := d n * f) h
      omega
    · rw [if_neg q, if_neg q, Nat.add_zero, Nat.add_zero]
      omega
/-- the sum of the flows of a pump's nozzles -/
def fsum (U : Sh) (p : Nat) (n : Nat) : Nat := sumV (fun i => if U 4 i = p then flowV U i else 0) n
def dsum (U : Sh) (p : Nat) (n : Nat) : Nat := sumV (fun i => if U 4 i = p then ownV U i else 0) n
theorem fsum_f (U : Sh) (p : Nat) : (demV U p ≤ runV U p → fsum U p (U 18 5) = demV U p) ∧ (runV U p < demV U p → fsum U p (U 18 5) ≤ runV U p ∧ runV U p ≤ fsum U p (U 18 5) + U 18 5) := by
  constructor
  · intro h
    refine sumV_eq (fun i _ => ?_)
    by_cases q : U 4 i = p
    · subst q
      rw [if_pos rfl, if_pos rfl]
      exact if_pos h
    · rw [if_neg q, if_neg q]
  · intro h
    have hD : 0 < demV U p := by omega
    have e : fsum U p (U 18 5) = sumV (fun i => if decide (U 4 i = p) = true then ownV U i * runV U p / demV U p else 0) (U 18 5) := by
      refine sumV_eq (fun i _ => ?_)
      by_cases q : U 4 i = p
      · subst q
        rw [if_pos rfl, if_pos (decide_eq_true rfl)]
        exact if_neg (by omega)
      · rw [if_neg q, if_neg (fun z => q (of_decide_eq_true z))]
    have e2 : demV U p = sumV (fun i => if decide (U 4 i = p) = true then ownV U i else 0) (U 18 5) := by
      refine sumV_eq (fun i _ => ?_)
      by_cases q : U 4 i = p
      · rw [if_pos q, if_pos (decide_eq_true q)]
      · rw [if_neg q, if_neg (fun z => q (of_decide_eq_true z))]
    have s := share (c := fun i => decide (U 4 i = p)) (d := ownV U) (f := runV U p) hD (U 18 5)
    rw [← e, ← e2, Nat.mul_comm, Nat.mul_div_cancel _ hD] at s
    exact s
theorem fsum_le {U : Sh} (hU : Vok U) (p : Nat) {n : Nat} (hn : n ≤ U 18 5) : fsum U p n ≤ 1200000 ∧ dsum U p n ≤ 1200000 := by
  have hS := hU.2.2.1
  unfold VokS at hS
  have a1 : fsum U p n ≤ n * 100000 := sumV_le (fun i hi => by
    have := ownV_le hU (i := i) (by omega)
    have := flowV_own (V := U) i
    split <;> omega)
  have a2 : dsum U p n ≤ n * 100000 := sumV_le (fun i hi => by
    have := ownV_le hU (i := i) (by omega)
    split <;> omega)
  omega
/-- the opening in the stages -/
theorem open_2 {U : Sh} {i : Nat} (h : (windV U).1 = 2) (h0 : 0 < openV U i) : U 3 i ≤ U 7 i ∧ openV U i = U 7 i - U 3 i := by
  have e : openV U i = tow (U 7 i) 0 (U 3 i) := by
    unfold openV goalV
    rw [if_neg (by omega), if_pos h]
  rw [e] at h0 ⊢
  exact tow_z h0
theorem open_1 {U : Sh} {i : Nat} (h : (windV U).1 = 1) (h0 : U 17 3 < openV U i) : U 3 i ≤ U 7 i ∧ openV U i = U 7 i - U 3 i := by
  have e : openV U i = tow (U 7 i) (min (goal0 U i) (U 17 3)) (U 3 i) := by
    unfold openV goalV
    rw [if_pos h]
  rw [e] at h0 ⊢
  exact tow_c (by omega) h0
