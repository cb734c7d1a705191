/-! the reference's step of the wind -/
theorem sca_id (V : Sh) : scaV V (V 18 1) (V 18 2) (V 18 3) = V := by
  funext r c
  unfold scaV vrow
  by_cases e : r = 18
  · subst e
    simp only [if_pos]
    split
    · rename_i q; rw [q]
    · split
      · rename_i q; rw [q]
      · split
        · rename_i q; rw [q]
        · rfl
  · rw [if_neg e]
theorem sca_17 (V : Sh) (F st ca : Nat) : scaV V F st ca 17 = V 17 := vrow_n (by decide)
theorem sca_1 (V : Sh) (F st ca : Nat) : scaV V F st ca 18 1 = F := by unfold scaV vrow; simp
theorem sca_2 (V : Sh) (F st ca : Nat) : scaV V F st ca 18 2 = st := by unfold scaV vrow; simp
theorem sca_3 (V : Sh) (F st ca : Nat) : scaV V F st ca 18 3 = ca := by unfold scaV vrow; simp
theorem sca_o (V : Sh) (F st ca F' st' ca' : Nat) (r c : Nat) (h : ¬ (r = 18 ∧ c = 1 ∧ F ≠ F') ∧ ¬ (r = 18 ∧ c = 2 ∧ st ≠ st') ∧ ¬ (r = 18 ∧ c = 3 ∧ ca ≠ ca')) : scaV V F' st' ca' r c = scaV V F st ca r c := by
  unfold scaV vrow
  by_cases e : r = 18
  · subst e
    simp only [if_pos]
    split
    · omega
    · split
      · omega
      · split
        · omega
        · rfl
  · rw [if_neg e, if_neg e]
/-- rounded down, out of a quotient and a rest -/
theorem fdiv9 {x : Int32} {f : Nat} (hf : 0 < f) (hf2 : f ≤ 64) (hx : -2 ^ 30 ≤ x.toInt ∧ x.toInt < 2 ^ 30) : (0 ≤ x.toInt → (x / nI f).toInt = x.toInt / (f : Int)) ∧ (x.toInt < 0 → irm x (nI f) = 0 → (x / nI f).toInt = x.toInt / (f : Int)) ∧ (x.toInt < 0 → ¬ irm x (nI f) = 0 → (x / nI f).toInt = x.toInt / (f : Int) + 1) := by
  have hft : (nI f).toInt = (f : Int) := nI_toInt (by omega)
  have hq : (x / nI f).toInt = x.toInt.tdiv (f : Int) := by rw [ti_div (by rw [hft]; omega), hft]
  refine ⟨fun h => by rw [hq, Int.tdiv_eq_ediv_of_nonneg h], ?_⟩
  suffices H : x.toInt < 0 → (irm x (nI f) = 0 → (x / nI f).toInt = x.toInt / (f : Int)) ∧ (¬ irm x (nI f) = 0 → (x / nI f).toInt = x.toInt / (f : Int) + 1) from ⟨fun h => (H h).1, fun h => (H h).2⟩
  intro hneg
  generalize hX : -x.toInt = X
  have hXp : 0 ≤ X := by omega
  have e1 : x.toInt.tdiv (f : Int) = -(X / (f : Int)) := by
    rw [show x.toInt = -X by omega, Int.neg_tdiv, Int.tdiv_eq_ediv_of_nonneg hXp]
  have hy : 0 < (f : Int) := by omega
  have hdm := Int.emod_add_mul_ediv X (f : Int)
  have hm1 := Int.emod_nonneg X (b := (f : Int)) (by omega)
  have hm2 := Int.emod_lt_of_pos X hy
  have hle : X / (f : Int) ≤ X := Int.ediv_le_self _ hXp
  have hge : 0 ≤ X / (f : Int) := Int.ediv_nonneg hXp (by omega)
  have hf0 : 0 ≤ X / (f : Int) * (f : Int) := Int.mul_nonneg hge (by omega)
  have hmulc : (f : Int) * (X / (f : Int)) = X / (f : Int) * (f : Int) := Int.mul_comm _ _
  have hprod : (x / nI f * nI f).toInt = -(X / (f : Int) * (f : Int)) := by
    rw [ti_mul, hq, e1, hft, Int.neg_mul]
    · rw [hq, e1, hft, Int.neg_mul]; omega
    · rw [hq, e1, hft, Int.neg_mul]; omega
  have hirm : (irm x (nI f)).toInt = -(X % (f : Int)) := by
    unfold irm
    rw [ti_sub, hprod]
    · omega
    · rw [hprod]; omega
    · rw [hprod]; omega
  have h0 : (irm x (nI f) = 0) ↔ X % (f : Int) = 0 := by
    rw [eq_i, hirm, Int32.toInt_zero]
    omega
  rw [h0, hq, e1, show x.toInt = -X by omega]
  constructor
  · intro hz
    have e2 : -X = (f : Int) * (-(X / (f : Int))) := by rw [Int.mul_neg]; omega
    rw [e2, Int.mul_ediv_cancel_left _ (by omega)]
  · intro hz
    have : -X / (f : Int) = -(X / (f : Int)) - 1 := by
      rw [Int.ediv_eq_iff_of_pos hy, Int.sub_mul, Int.neg_mul, Int.one_mul]
      constructor <;> omega
    omega
