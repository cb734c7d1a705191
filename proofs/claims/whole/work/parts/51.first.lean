/-! THE FIRST MEMORY -/
def First (σ : Mem) : Prop := (∀ b, SB b → (∀ i j, i < 12 → j < 6 → σ (b + 5) (6 * i + j) = nI (inN j)) ∧ (∀ p j, p < 3 → j < 2 → σ (b + 15) (2 * p + j) = nI (inP j)) ∧ (∀ j, j < 6 → σ (b + 2) j = nI (inS j)) ∧ (∀ i, i < 12 → σ (b + 6) i = 0 ∧ σ (b + 7) i = 0 ∧ σ (b + 8) i = 0 ∧ σ (b + 9) i = 0 ∧ σ (b + 10) i = 0 ∧ σ (b + 11) i = 0) ∧ (∀ p, p < 3 → σ (b + 16) p = 0 ∧ σ (b + 17) p = 0 ∧ σ (b + 18) p = 0) ∧ (∀ j, j < 4 → σ (b + 19) j = 0) ∧ σ b 5 = 0 ∧ σ b 6 = 0 ∧ σ (b + 3) 8 = nI 4 ∧ σ (b + 3) 9 = 0 ∧ σ (b + 20) 3 = 0) ∧ Th σ ∧ St σ ∧ RrA (iniV 4 0) (σ 106) ∧ σ 49 1 = 0 ∧ σ 74 1 = 0 ∧ σ 99 2 = 0 ∧ σ 105 5 = 0 ∧ σ 109 0 = 0 ∧ σ 109 1 = 0
theorem first_inv {σ : Mem} (h : First σ) : Inv σ := by
  obtain ⟨hb, ht, hs, hr, h49, h74, h99, h105, h90, h91⟩ := h
  refine ⟨⟨iniV 4 0, vok_ini ⟨by omega, by omega⟩ (by omega), by show 0 ≤ 200000; omega, ?_, hr⟩, ht, hs, ⟨0, fun _ => 0, by omega, h99, h105, fun j hj => by omega⟩, Or.inl ⟨h49, h90⟩, Or.inl ⟨h74, h91⟩, fun b hb' _ => ⟨0, by omega, (hb b hb').2.2.2.2.2.2.2.2.2.1⟩⟩
  obtain ⟨a1, a2, a3, a4, a5, a6, a7, a8, a9, a10, a11⟩ := hb 1 SB1
  refine ⟨?_, ?_, ?_, ?_, ?_⟩
  · intro i hi
    have hi : i < 4 := hi
    obtain ⟨c6, c7, c8, c9, c10, c11⟩ := a4 i (by omega)
    refine ⟨fun j hj => ?_, c6, c7, c8, c9, c10, c11⟩
    rw [a1 i j (by omega) hj]
    unfold iniV
    rw [if_pos hj]
  · intro p hp
    obtain ⟨c1, c2, c3⟩ := a5 p hp
    refine ⟨fun j hj => ?_, c1, c2, c3⟩
    rw [a2 p j hp hj]
    unfold iniV
    rw [if_neg (by omega), if_pos (by omega), show 12 + j - 12 = j by omega]
  · exact ⟨a3, a6 0 (by decide), a6 1 (by decide), a6 2 (by decide), a6 3 (by decide), a7, a9, a8, a11, a10⟩
  · intro k hk
    have : k < 0 := hk
    omega
  · intro i t _ h
    have : t < 0 := h
    omega
