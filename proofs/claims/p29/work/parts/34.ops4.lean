/-! command, tick, state -/
theorem rc_row6 {b : Nat} {V : Sh} {σ σ' : Mem} {g : Nat → Nat} (h : Rc b V σ) (ho : Only [b + 6] σ σ') (hg : ∀ i, i < V 18 5 → σ' (b + 6) i = nI (g i)) : Rc b (vrow V 6 g) σ' := by
  obtain ⟨h1, h2, h3, h4, h5⟩ := h
  have e : ∀ a, a ≠ b + 6 → σ' a = σ a := fun a q => ho a (by simp [q])
  refine ⟨?_, ?_, ?_, ?_, ?_⟩
  · unfold RcN
    rw [vrow_n (r' := 18) (by omega), vrow_s, vrow_n (r' := 7) (by omega), vrow_n (r' := 8) (by omega), vrow_n (r' := 9) (by omega), vrow_n (r' := 10) (by omega), vrow_n (r' := 11) (by omega), e (b + 5) (by omega), e (b + 7) (by omega), e (b + 8) (by omega), e (b + 9) (by omega), e (b + 10) (by omega), e (b + 11) (by omega)]
    intro i hi
    obtain ⟨a0, -, a7⟩ := h1 i hi
    refine ⟨?_, hg i hi, a7⟩
    intro j hj
    rw [vrow_n (by omega)]
    exact a0 j hj
  · unfold RcP
    rw [vrow_n (r' := 14) (by omega), vrow_n (r' := 15) (by omega), vrow_n (r' := 16) (by omega), e (b + 15) (by omega), e (b + 16) (by omega), e (b + 17) (by omega), e (b + 18) (by omega)]
    intro p hp
    refine ⟨?_, (h2 p hp).2⟩
    intro j hj
    rw [vrow_n (by omega)]
    exact (h2 p hp).1 j hj
  · unfold RcS
    rw [vrow_n (r' := 17) (by omega), vrow_n (r' := 18) (by omega), e (b + 2) (by omega), e (b + 19) (by omega), e b (by omega), e (b + 3) (by omega), e (b + 20) (by omega)]
    exact h3
  · unfold RcC
    rw [vrow_n (r' := 18) (by omega), vrow_n (r' := 19) (by omega), vrow_n (r' := 20) (by omega), vrow_n (r' := 21) (by omega), e (b + 21) (by omega), e (b + 22) (by omega), e (b + 23) (by omega)]
    exact h4
  · unfold RcH
    rw [vrow_n (r' := 18) (by omega), e (b + 12) (by omega)]
    intro i t hi q1 q2
    rw [vrow_n (by omega)]
    exact h5 i t hi q1 q2
theorem vok_row6 {V : Sh} {g : Nat → Nat} (hV : Vok V) (hg : ∀ i, i < V 18 5 → g i ≤ 1000) : Vok (vrow V 6 g) := by
  obtain ⟨hN, hP, hS, hC, hH⟩ := hV
  refine ⟨?_, ?_, ?_, ?_, ?_⟩
  · unfold VokN
    rw [vrow_n (r' := 18) (by omega), vrow_s, vrow_n (r' := 0) (by omega), vrow_n (r' := 1) (by omega), vrow_n (r' := 2) (by omega), vrow_n (r' := 3) (by omega), vrow_n (r' := 4) (by omega), vrow_n (r' := 5) (by omega), vrow_n (r' := 7) (by omega), vrow_n (r' := 8) (by omega), vrow_n (r' := 9) (by omega), vrow_n (r' := 10) (by omega), vrow_n (r' := 11) (by omega)]
    intro i hi
    obtain ⟨a0, a1, a2, a3, a4, a5, a6, a7⟩ := hN i hi
    exact ⟨a0, a1, a2, a3, a4, a5, hg i hi, a7⟩
  · unfold VokP
    rw [vrow_n (r' := 18) (by omega), vrow_n (r' := 12) (by omega), vrow_n (r' := 13) (by omega), vrow_n (r' := 14) (by omega), vrow_n (r' := 15) (by omega), vrow_n (r' := 16) (by omega)]
    exact hP
  · unfold VokS
    rw [vrow_n (r' := 17) (by omega), vrow_n (r' := 18) (by omega)]
    exact hS
  · unfold VokC
    rw [vrow_n (r' := 18) (by omega), vrow_n (r' := 19) (by omega), vrow_n (r' := 20) (by omega), vrow_n (r' := 21) (by omega)]
    exact hC
  · unfold VokH
    rw [vrow_n (r' := 18) (by omega)]
    intro t i ht hi
    rw [vrow_n (by omega)]
    exact hH t i ht hi
theorem Fr_only {b k : Nat} {σ σ' : Mem} (h : Only [k] σ σ') (h1 : b ≤ k ∧ k < b + 24) (h2 : k ≠ b + 1 ∧ k ≠ b + 4 ∧ k ≠ b + 14) : Fr b σ σ' := ⟨fun a ha => h a (by simp; omega), h _ (by simp; omega), h _ (by simp; omega), h _ (by simp; omega)⟩
/-- many ticks -/
def tkV (V : Sh) : Nat → Sh
  | 0 => V
  | k + 1 => tickV (tkV V k)
theorem tk_time (V : Sh) : ∀ k, tkV V k 18 4 = V 18 4 + k
  | 0 => rfl
  | k + 1 => by
    show tkV V k 18 4 + 1 = _
    rw [tk_time V k]
    omega
theorem tk_ok {V : Sh} (hV : Vok V) : ∀ k, V 18 4 + k ≤ 2000000 → Vok (tkV V k)
  | 0, _ => hV
  | k + 1, h => tickV_ok (tk_ok hV k (by omega)) (by rw [tk_time]; omega)
theorem tickN_c {n : Nat} (hn : 60 < n) {σ : Mem} {V : Sh} {e : Nat} (hV : Vok V) (hc : Rc 1 V σ) (he : e < n) (he2 : V 18 4 + e ≤ 2000000) (hh : e < 2 ^ 31) : Ret (f_X8_tick_L33 n σ 0 (nI e) 0) (fun q => q.1 = nI (V 18 4 + e) ∧ Rc 1 (tkV V e) q.2 ∧ Fr 1 σ q.2) := by
  unfold f_X8_tick_L33
  refine Ret_for e (fun i s => Rc 1 (tkV V i) s ∧ Fr 1 σ s) ?_ ?_ (i := 0) (Nat.zero_le _) he ⟨hc, Fr.rf _ _⟩
  · intro i s hi hI
    unfold f_X8_tick_B33
    dsimp only
    rw [if_neg (c := nI e ≤ nI i) (by rw [le_i, nI_toInt (by omega), nI_toInt (by omega)]; omega), p00]
    refine Ret_bnd (tickC SB1 hn (tk_ok hV i (by omega)) hI.1) ?_
    rintro s' ⟨a1, a2⟩
    refine Ret_nm (Ret_some ⟨s', ?_, a1, hI.2.tr a2⟩)
    rw [show (1 : Int32) = nI 1 from rfl, nI_add]
  · intro s hI
    unfold f_X8_tick_B33
    dsimp only
    rw [if_pos (c := nI e ≤ nI e) (Int32.le_refl _), p00]
    refine Ret_some ⟨?_, hI.1, hI.2⟩
    have := hI.1.2.2.1.2.2.2.2.2.1
    rw [tk_time] at this
    exact this
