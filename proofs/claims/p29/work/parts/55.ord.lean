/-! the cues are in order, and the next one is told -/
theorem cI_m (c : Nat) : nI c - 1 = cI c := by
  rw [← cI_p c, Int32.sub_eq_add_neg]
def nxI (N j k : Nat) : Int32 := if max j k < N then nI (max j k) else -6
theorem ordered_ok {V : Sh} {A B : Option Sh} {σ : Mem} {n w : Nat} (h : Lv V A B σ) (hn : 60 < n) (hw : 61 < w) : f_L_ordered n w σ 0 = some 1 := by
  have hS := h.vs
  unfold VokS at hS
  have hC := h.1.1.2.2.2.1
  obtain ⟨j, ⟨j1, j2, j3⟩, s8⟩ := o_s8 h hn
  have so : ∀ a b, a ≤ b → b < V 18 7 → V 19 a ≤ V 19 b := by
    intro a b hab hb
    have := sorted_le hC (b - a) a (by omega)
    rwa [show a + (b - a) = b by omega] at this
  have tm : ∀ k, k < V 18 7 → V 19 k ≤ 100000 := fun k hk => (hC.1 k hk).1
  have key : Ret (f_L_ordered n w σ 0) (fun r => r = 1) := by
    unfold f_L_ordered
    rw [(o_st h).1, bnd_s, (o_st h).2.2.1, bnd_s]
    refine Ret_nm ?_
    rw [cI_m]
    unfold f_L_ordered_L17
    refine Ret_iter (fun m s => s = (nxI (V 18 7) j m, cI m) ∧ m ≤ V 18 7) ?_ w (V 18 7) _ ⟨?_, Nat.le_refl _⟩ (by omega)
    · rintro m _ ⟨rfl, hm⟩
      unfold f_L_ordered_B17
      dsimp only
      cases m with
      | zero =>
        rw [if_pos cI_neg, s8, bnd_s, if_pos]
        · exact Ret_some rfl
        · unfold nxI
          rw [show max j 0 = j by omega]
          by_cases q : j = V 18 7
          · rw [if_pos q, if_neg (by omega)]
          · rw [if_neg q, if_pos (by omega)]
      | succ k =>
        rw [if_neg (cI_pos k (by omega)), cI_s]
        have l44 : Ret (f_L_ordered_L44 n w σ 0 (nI (V 18 4)) (nxI (V 18 7) j (k + 1)) (nI k)) (Lp (fun r => r = 1) (fun s' => ∃ m', m' < k + 1 ∧ s' = (nxI (V 18 7) j m', cI m') ∧ m' ≤ V 18 7)) := by
          unfold f_L_ordered_L44
          rw [(o_pt h (by omega : k < V 18 7)).1, bnd_s]
          have t1 := tm k (by omega)
          by_cases q : V 19 k < V 18 4
          · rw [if_pos (nI_lt q (by omega)), cI_p]
            have : k < j := by
              rcases Nat.lt_or_ge k j with z | z
              · exact z
              · have := j3 (by omega)
                have := so j k z (by omega)
                omega
            refine Ret_nm (Ret_some ⟨k, by omega, ?_, by omega⟩)
            unfold nxI
            rw [show max j (k + 1) = j by omega, show max j k = j by omega]
          · rw [if_neg (nI_nlt (by omega) (by omega)), cI_p]
            have : j ≤ k := by
              rcases Nat.lt_or_ge k j with z | z
              · exact absurd (j2 k z) q
              · exact z
            refine Ret_nm (Ret_some ⟨k, by omega, ?_, by omega⟩)
            unfold nxI
            rw [show max j k = k by omega, if_pos (by omega)]
        cases k with
        | zero =>
          rw [if_pos (c := nI 0 ≤ 0) (by decide)]
          exact l44
        | succ k =>
          rw [if_neg (c := nI (k + 1) ≤ 0) (nI_nle (by omega) (by omega)), (o_pt h (by omega : k + 1 < V 18 7)).1, bnd_s, l_1, nI_sub (by omega), Nat.add_sub_cancel, (o_pt h (by omega : k < V 18 7)).1, bnd_s, if_pos (nI_le (so k (k + 1) (by omega) (by omega)) (by have := tm (k + 1) (by omega); omega))]
          exact l44
    · unfold nxI
      rw [if_neg (by omega)]
  obtain ⟨r, e, rfl⟩ := key
  exact e
