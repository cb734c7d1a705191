/-! load and meanHeight: both sides' numbers -/
theorem sum_high {b : Nat} (hb : SB b) {V : Sh} {σ : Mem} {n : Nat} (hV : Vok V) (h : Rc b V σ) (hn : 60 < n) : f_X1_sumOfHeights n σ (b + 3) = some (nI (sumV (V 9) (V 18 5))) := by
  have hS := hV.2.2.1
  unfold VokS at hS
  have h8 := h.2.2.1.2.2.2.2.2.2.1
  have key : Ret (f_X1_sumOfHeights n σ (b + 3)) (fun r => r = nI (sumV (V 9) (V 18 5))) := by
    unfold f_X1_sumOfHeights f_X1_sumOfHeights_L4
    refine Ret_for1 (V 18 5) (fun i v => v = nI (sumV (V 9) i)) ?_ ?_ (i := 0) (Nat.zero_le _) (by omega) rfl
    · rintro i v hi rfl
      have a9 := (h.1 i hi).2.2.2.2.1
      unfold f_X1_sumOfHeights_B4
      dsimp only
      rw [h8, if_neg (c := nI (V 18 5) ≤ nI i) (nil hi (by omega)), P3_4 hb, A9 hb, ckI_nI (by omega) (by decide), chk_t, ix_nI (by omega), a9, nI_add]
      exact Ret_nm (Ret_nm (Ret_some ⟨_, by rw [show (1 : Int32) = nI 1 from rfl, nI_add]; rfl, rfl⟩))
    · rintro v rfl
      unfold f_X1_sumOfHeights_B4
      dsimp only
      rw [h8, if_pos (c := nI (V 18 5) ≤ nI (V 18 5)) (Int32.le_refl _)]
      exact Ret_some rfl
  obtain ⟨r, e, rfl⟩ := key
  exact e
theorem two_mean {σ : Mem} (h : Inv σ) : ∃ (M : Nat) (H : Nat → Nat), 1 ≤ M ∧ M ≤ 12 ∧ f_X1_sumOfHeights 3000 σ (ptr (ptr 0 0) 1) = some (nI (sumV H M)) ∧ σ (ptr (ptr 0 0) 1) 8 = nI M ∧ σ (ptr 105 0) 938 = nI M ∧ ∀ i, i < M → σ (ptr 105 0) (12 * i + 9) = nI (H i) := by
  obtain ⟨⟨V, hV, hT, hc, hr⟩, -⟩ := h
  have hS := hV.2.2.1
  unfold VokS at hS
  refine ⟨V 18 5, V 9, by omega, by omega, ?_, hc.2.2.1.2.2.2.2.2.2.1, (rr_sets hr).2.2.2.2.2.2.2.2.2.2.2.1, fun i hi => hr.1 i hi 9 (by decide)⟩
  exact sum_high SB1 hV hc (by decide)
theorem two_load {σ : Mem} (h : Inv σ) (x : Int32) : ∃ b fl cap, f_X8_within x 0 2 = some b ∧ (¬ b = 0 → f_X4_value σ (ptr (ptr (ptr 0 0) 2) 0) x 0 = some cap ∧ ckI x (alen (ptr (ptr (ptr 0 0) 2) 1)) = true ∧ σ (ptr (ptr (ptr 0 0) 2) 1) (ix x) = fl) ∧ f_X9_isPump x = some b ∧ (¬ b = 0 → ckI (912 + 5 * x + 0) (alen (ptr 105 0)) = true ∧ ckI (912 + 5 * x + 2) (alen (ptr 105 0)) = true ∧ σ (ptr 105 0) (ix (912 + 5 * x + 0)) = cap ∧ σ (ptr 105 0) (ix (912 + 5 * x + 2)) = fl) := by
  obtain ⟨⟨V, hV, hT, hc, hr⟩, -⟩ := h
  by_cases c : 0 ≤ x ∧ x ≤ 2
  · obtain ⟨i, hi, rfl⟩ := of_in (m := 2) (by decide) c
    obtain ⟨a0, a6, a7, a8⟩ := hc.2.1 i (by omega)
    refine ⟨1, nI (V 14 i), nI (V 12 i), by rw [in_X8, if_pos c], fun _ => ⟨?_, ?_, ?_⟩, by rw [isP_r, if_pos c], fun _ => ?_⟩
    · have := val_pump SB1 (σ := σ) (i := i) (j := 0) (by omega) (by decide)
      rw [a0 0 (by decide)] at this
      exact this
    · exact ckI_nI (N := 3) (by omega) (by decide)
    · rw [ix_nI (by omega)]
      exact a6
    · rw [PM0, AM0, show (912 : Int32) = nI 912 from rfl, show (5 : Int32) = nI 5 from rfl, show (0 : Int32) = nI 0 from rfl, show (2 : Int32) = nI 2 from rfl, nI_mul, nI_add, nI_add, nI_add, ix_nI (by omega), ix_nI (by omega)]
      exact ⟨ckI_nI (by omega) (by decide), ckI_nI (by omega) (by decide), hr.2.1 i (by omega) 0 (by decide), hr.2.1 i (by omega) 2 (by decide)⟩
  · exact ⟨0, 0, 0, by rw [in_X8, if_neg c], fun z => (z rfl).elim, by rw [isP_r, if_neg c], fun z => (z rfl).elim⟩
