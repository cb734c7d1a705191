/-! WHOLE SHOWS: copied, cleared, begun -/
def cov (l : List (Nat × Nat × Nat)) (r j : Nat) : Bool := l.any (fun e => decide (e.1 = r ∧ e.2.1 ≤ j ∧ j < e.2.2))
theorem cov_T {l : List (Nat × Nat × Nat)} {r lo hi j : Nat} (h : (r, lo, hi) ∈ l) (h1 : lo ≤ j) (h2 : j < hi) : cov l r j = true := List.any_eq_true.mpr ⟨_, h, decide_eq_true ⟨rfl, h1, h2⟩⟩
theorem cov_F {l : List (Nat × Nat × Nat)} {r j : Nat} (h : ∀ e ∈ l, ¬ (e.1 = r ∧ e.2.1 ≤ j ∧ j < e.2.2)) : ¬ cov l r j = true := fun q => by
  obtain ⟨e, h1, h2⟩ := List.any_eq_true.mp q
  exact h e h1 (of_decide_eq_true h2)
theorem cov_c (e : Nat × Nat × Nat) (l : List (Nat × Nat × Nat)) (r j : Nat) : cov (e :: l) r j = (decide (e.1 = r ∧ e.2.1 ≤ j ∧ j < e.2.2) || cov l r j) := rfl
/-- the places l of the show at b hold what the show at b' holds -/
def Cpf (b b' : Nat) (l : List (Nat × Nat × Nat)) (σ : Mem) : Mem := fun a j => if b ≤ a ∧ a < b + 24 ∧ cov l (a - b) j = true then σ (b' + (a - b)) j else σ a j
/-- the places l of the show at b hold 0 -/
def Zf (b : Nat) (l : List (Nat × Nat × Nat)) (σ : Mem) : Mem := fun a j => if b ≤ a ∧ a < b + 24 ∧ cov l (a - b) j = true then 0 else σ a j
def Ds (b b' : Nat) : Prop := b + 24 ≤ b' ∨ b' + 24 ≤ b
theorem Cpf_src {b b' r j : Nat} {l : List (Nat × Nat × Nat)} {σ : Mem} (hd : Ds b b') (hr : r < 24) : Cpf b b' l σ (b' + r) j = σ (b' + r) j := by
  unfold Cpf Ds at *
  rw [if_neg (by omega)]
theorem Cpf_T {b b' r j lo hi : Nat} {l : List (Nat × Nat × Nat)} {σ : Mem} (hr : r < 24) (h : (r, lo, hi) ∈ l) (h1 : lo ≤ j) (h2 : j < hi) : Cpf b b' l σ (b + r) j = σ (b' + r) j := by
  unfold Cpf
  rw [if_pos ⟨by omega, by omega, by rw [show b + r - b = r by omega]; exact cov_T h h1 h2⟩, show b + r - b = r by omega]
theorem Cpf_F {b b' r j : Nat} {l : List (Nat × Nat × Nat)} {σ : Mem} (h : ∀ e ∈ l, ¬ (e.1 = r ∧ e.2.1 ≤ j ∧ j < e.2.2)) : Cpf b b' l σ (b + r) j = σ (b + r) j := by
  unfold Cpf
  rw [if_neg]
  rintro ⟨-, -, q⟩
  rw [show b + r - b = r by omega] at q
  exact cov_F h q
theorem Zf_T {b r j lo hi : Nat} {l : List (Nat × Nat × Nat)} {σ : Mem} (hr : r < 24) (h : (r, lo, hi) ∈ l) (h1 : lo ≤ j) (h2 : j < hi) : Zf b l σ (b + r) j = 0 := by
  unfold Zf
  rw [if_pos ⟨by omega, by omega, by rw [show b + r - b = r by omega]; exact cov_T h h1 h2⟩]
theorem Zf_F {b r j : Nat} {l : List (Nat × Nat × Nat)} {σ : Mem} (h : ∀ e ∈ l, ¬ (e.1 = r ∧ e.2.1 ≤ j ∧ j < e.2.2)) : Zf b l σ (b + r) j = σ (b + r) j := by
  unfold Zf
  rw [if_neg]
  rintro ⟨-, -, q⟩
  rw [show b + r - b = r by omega] at q
  exact cov_F h q
theorem cp_sca {b b' r f : Nat} {l : List (Nat × Nat × Nat)} {σ : Mem} (hd : Ds b b') (hr : r < 24) : gst (Cpf b b' l σ) (b + r) f (Cpf b b' l σ (b' + r) f) = Cpf b b' ((r, f, f + 1) :: l) σ := by
  funext a j
  rw [gst_at, Cpf_src hd hr]
  unfold Cpf
  rw [cov_c]
  by_cases e : a = b + r ∧ j = f
  · obtain ⟨rfl, rfl⟩ := e
    rw [if_pos ⟨rfl, rfl⟩, if_pos ⟨by omega, by omega, by simp⟩, show b + r - b = r by omega]
  · rw [if_neg e]
    have : decide (r = a - b ∧ f ≤ j ∧ j < f + 1) = true → b ≤ a → False := by
      intro q h
      have := of_decide_eq_true q
      exact e ⟨by omega, by omega⟩
    by_cases z : b ≤ a ∧ a < b + 24 ∧ cov l (a - b) j = true
    · rw [if_pos z, if_pos ⟨z.1, z.2.1, by rw [z.2.2]; simp⟩]
    · rw [if_neg z, if_neg]
      rintro ⟨z1, z2, z3⟩
      rw [Bool.or_eq_true] at z3
      rcases z3 with z3 | z3
      · exact this z3 z1
      · exact z ⟨z1, z2, z3⟩
theorem z_sca {b r f : Nat} {l : List (Nat × Nat × Nat)} {σ : Mem} (hr : r < 24) : gst (Zf b l σ) (b + r) f 0 = Zf b ((r, f, f + 1) :: l) σ := by
  funext a j
  rw [gst_at]
  unfold Zf
  rw [cov_c]
  by_cases e : a = b + r ∧ j = f
  · obtain ⟨rfl, rfl⟩ := e
    rw [if_pos ⟨rfl, rfl⟩, if_pos ⟨by omega, by omega, by simp⟩]
  · rw [if_neg e]
    have : decide (r = a - b ∧ f ≤ j ∧ j < f + 1) = true → b ≤ a → False := by
      intro q h
      have := of_decide_eq_true q
      exact e ⟨by omega, by omega⟩
    by_cases z : b ≤ a ∧ a < b + 24 ∧ cov l (a - b) j = true
    · rw [if_pos z, if_pos ⟨z.1, z.2.1, by rw [z.2.2]; simp⟩]
    · rw [if_neg z, if_neg]
      rintro ⟨z1, z2, z3⟩
      rw [Bool.or_eq_true] at z3
      rcases z3 with z3 | z3
      · exact this z3 z1
      · exact z ⟨z1, z2, z3⟩
theorem copyRow_ok {σ : Mem} {x y L : Nat} (hx : alen x = L) (hy : alen y = L) (hL : L < 2 ^ 31) : f_X8_copyRow σ x y = some (gput σ y (fun j => if j < L then σ x j else σ y j)) := by
  unfold f_X8_copyRow
  rw [hx, hy, show Int32.ofNat L = nI L from rfl, mnI_n hL hL, show min L L = L by omega, show (0 : Int32) = nI 0 from rfl, ckC_nI (by omega) (by omega) hL hL, chk_t, ix_nI (by omega), ix_nI hL]
  unfold nm
  dsimp only
  congr 2
  funext j
  unfold va_cpy
  by_cases h : j < L
  · rw [if_pos (by omega), if_pos h]
    congr 1
    omega
  · rw [if_neg (by omega), if_neg h]
theorem cp_row {b b' r L : Nat} {l : List (Nat × Nat × Nat)} {σ : Mem} (hd : Ds b b') (hr : r < 24) (h1 : alen (b' + r) = L) (h2 : alen (b + r) = L) (hL : L < 2 ^ 31) : f_X8_copyRow (Cpf b b' l σ) (b' + r) (b + r) = some (Cpf b b' ((r, 0, L) :: l) σ) := by
  rw [copyRow_ok h1 h2 hL]
  congr 1
  funext a j
  by_cases e : a = b + r
  · subst e
    rw [gput_s]
    rw [Cpf_src hd hr]
    unfold Cpf
    rw [cov_c, show b + r - b = r by omega]
    by_cases q : j < L
    · rw [if_pos q, if_pos ⟨by omega, by omega, by simp; omega⟩]
    · rw [if_neg q]
      have : decide (r = r ∧ 0 ≤ j ∧ j < L) = false := by simp; omega
      rw [this, Bool.false_or]
  · rw [gput_n e]
    unfold Cpf
    rw [cov_c]
    by_cases z : b ≤ a ∧ a < b + 24
    · have : decide (r = a - b ∧ 0 ≤ j ∧ j < L) = false := by simp; omega
      rw [this, Bool.false_or]
    · rw [if_neg (fun q => z ⟨q.1, q.2.1⟩), if_neg (fun q => z ⟨q.1, q.2.1⟩)]
def cpL : List (Nat × Nat × Nat) := [(0, 6, 7), (0, 5, 6), (23, 0, 60), (22, 0, 60), (21, 0, 60), (20, 3, 4), (19, 3, 4), (19, 2, 3), (19, 1, 2), (19, 0, 1), (18, 0, 3), (17, 0, 3), (16, 0, 3), (15, 0, 6), (12, 0, 612), (11, 0, 12), (10, 0, 12), (9, 0, 12), (8, 0, 12), (7, 0, 12), (6, 0, 12), (5, 0, 72), (3, 8, 9), (2, 0, 6)]
theorem Cpf_0 (b b' : Nat) (σ : Mem) : Cpf b b' [] σ = σ := by
  funext a j
  unfold Cpf
  rw [if_neg (by rintro ⟨-, -, q⟩; exact Bool.noConfusion q)]
theorem Zf_0 (b : Nat) (σ : Mem) : Zf b [] σ = σ := by
  funext a j
  unfold Zf
  rw [if_neg (by rintro ⟨-, -, q⟩; exact Bool.noConfusion q)]
theorem cp_sca0 {b b' f : Nat} {l : List (Nat × Nat × Nat)} {σ : Mem} (hd : Ds b b') : gst (Cpf b b' l σ) b f (Cpf b b' l σ b' f) = Cpf b b' ((0, f, f + 1) :: l) σ := cp_sca (r := 0) hd (by decide)
theorem copy_ok {b b' : Nat} (hb : SB b) (hb' : SB b') (hd : Ds b b') {σ : Mem} : f_X5_copy σ b b' = some (Cpf b b' cpL σ) := by
  have e0 := Cpf_0 b b' σ
  unfold f_X5_copy f_X4_copy f_X1_copy f_X3_copy f_X7_copy f_X0_copy f_X4_copy
  rw [P0_0 hb, P0_0 hb', P0_1 hb, P0_1 hb', P0_2 hb, P0_2 hb', P0_3 hb, P0_3 hb', P0_4 hb, P0_4 hb', P1_4 hb, P1_4 hb', P3_0 hb, P3_0 hb', P3_1 hb, P3_1 hb', P3_2 hb, P3_2 hb', P3_3 hb, P3_3 hb', P3_4 hb, P3_4 hb', P3_5 hb, P3_5 hb', P3_6 hb, P3_6 hb', P3_7 hb, P3_7 hb', P4_4 hb, P4_4 hb', P13_0 hb, P13_0 hb', P13_1 hb, P13_1 hb', P13_2 hb, P13_2 hb', P13_3 hb, P13_3 hb', P14_4 hb, P14_4 hb', P20_0 hb, P20_0 hb', P20_1 hb, P20_1 hb', P20_2 hb, P20_2 hb']
  simp only [nm]
  rw [← e0, cp_row hd (by decide) (A2 hb') (A2 hb) (by decide), bnd_s, bnd_s, cp_sca hd (by decide)]
  rw [cp_row hd (by decide) (A5 hb') (A5 hb) (by decide), bnd_s, bnd_s]
  rw [cp_row hd (by decide) (A6 hb') (A6 hb) (by decide), bnd_s]
  rw [cp_row hd (by decide) (A7 hb') (A7 hb) (by decide), bnd_s]
  rw [cp_row hd (by decide) (A8 hb') (A8 hb) (by decide), bnd_s]
  rw [cp_row hd (by decide) (A9 hb') (A9 hb) (by decide), bnd_s]
  rw [cp_row hd (by decide) (A10 hb') (A10 hb) (by decide), bnd_s]
  rw [cp_row hd (by decide) (A11 hb') (A11 hb) (by decide), bnd_s]
  rw [cp_row hd (by decide) (A12 hb') (A12 hb) (by decide), bnd_s, bnd_s]
  rw [cp_row hd (by decide) (A15 hb') (A15 hb) (by decide), bnd_s, bnd_s]
  rw [cp_row hd (by decide) (A16 hb') (A16 hb) (by decide), bnd_s]
  rw [cp_row hd (by decide) (A17 hb') (A17 hb) (by decide), bnd_s]
  rw [cp_row hd (by decide) (A18 hb') (A18 hb) (by decide), bnd_s, bnd_s]
  rw [cp_sca hd (by decide), cp_sca hd (by decide), cp_sca hd (by decide), cp_sca hd (by decide), bnd_s, cp_sca hd (by decide)]
  rw [cp_row hd (by decide) (A21 hb') (A21 hb) (by decide), bnd_s]
  rw [cp_row hd (by decide) (A22 hb') (A22 hb) (by decide), bnd_s]
  rw [cp_row hd (by decide) (A23 hb') (A23 hb) (by decide), bnd_s, bnd_s]
  rw [cp_sca0 hd, cp_sca0 hd, e0]
  rfl
theorem fr_cp {b b' : Nat} {σ : Mem} {l : List (Nat × Nat × Nat)} (hl : ∀ e ∈ l, e.1 ≠ 1 ∧ e.1 ≠ 4 ∧ e.1 ≠ 14) : Fr b σ (Cpf b b' l σ) := by
  refine ⟨?_, ?_, ?_, ?_⟩
  · intro a ha
    funext j
    unfold Cpf
    rw [if_neg (by omega)]
  all_goals
    funext j
    exact Cpf_F (fun e he q => by have := hl e he; omega)
theorem fr_z {b : Nat} {σ : Mem} {l : List (Nat × Nat × Nat)} (hl : ∀ e ∈ l, e.1 ≠ 1 ∧ e.1 ≠ 4 ∧ e.1 ≠ 14) : Fr b σ (Zf b l σ) := by
  refine ⟨?_, ?_, ?_, ?_⟩
  · intro a ha
    funext j
    unfold Zf
    rw [if_neg (by omega)]
  all_goals
    funext j
    exact Zf_F (fun e he q => by have := hl e he; omega)
theorem rc_copy {b b' G : Nat} {V : Sh} {σ : Mem} (hV : Vok V) (h : Rc b' V σ) (hg : σ (b + 3) 9 = nI G) : Rc b (vset V 18 8 G) (Cpf b b' cpL σ) := by
  obtain ⟨h1, h2, h3, h4, h5⟩ := h
  have hS := hV.2.2.1
  unfold VokS at hS
  have e5 : vset V 18 8 G 18 5 = V 18 5 := vset_n (by omega)
  have e4 : vset V 18 8 G 18 4 = V 18 4 := vset_n (by omega)
  have e7 : vset V 18 8 G 18 7 = V 18 7 := vset_n (by omega)
  refine ⟨?_, ?_, ?_, ?_, ?_⟩
  · unfold RcN
    rw [e5, vset_r (r' := 6) (by omega), vset_r (r' := 7) (by omega), vset_r (r' := 8) (by omega), vset_r (r' := 9) (by omega), vset_r (r' := 10) (by omega), vset_r (r' := 11) (by omega)]
    intro i hi
    obtain ⟨a0, a6, a7, a8, a9, a10, a11⟩ := h1 i hi
    refine ⟨fun j hj => ?_, ?_, ?_, ?_, ?_, ?_, ?_⟩
    · rw [vset_r (by omega), Cpf_T (lo := 0) (hi := 72) (by decide) (by decide) (by omega) (by omega)]
      exact a0 j hj
    · rw [Cpf_T (lo := 0) (hi := 12) (by decide) (by decide) (by omega) (by omega)]; exact a6
    · rw [Cpf_T (lo := 0) (hi := 12) (by decide) (by decide) (by omega) (by omega)]; exact a7
    · rw [Cpf_T (lo := 0) (hi := 12) (by decide) (by decide) (by omega) (by omega)]; exact a8
    · rw [Cpf_T (lo := 0) (hi := 12) (by decide) (by decide) (by omega) (by omega)]; exact a9
    · rw [Cpf_T (lo := 0) (hi := 12) (by decide) (by decide) (by omega) (by omega)]; exact a10
    · rw [Cpf_T (lo := 0) (hi := 12) (by decide) (by decide) (by omega) (by omega)]; exact a11
  · unfold RcP
    rw [vset_r (r' := 14) (by omega), vset_r (r' := 15) (by omega), vset_r (r' := 16) (by omega)]
    intro p hp
    obtain ⟨a0, a6, a7, a8⟩ := h2 p hp
    refine ⟨fun j hj => ?_, ?_, ?_, ?_⟩
    · rw [vset_r (by omega), Cpf_T (lo := 0) (hi := 6) (by decide) (by decide) (by omega) (by omega)]
      exact a0 j hj
    · rw [Cpf_T (lo := 0) (hi := 3) (by decide) (by decide) (by omega) (by omega)]; exact a6
    · rw [Cpf_T (lo := 0) (hi := 3) (by decide) (by decide) (by omega) (by omega)]; exact a7
    · rw [Cpf_T (lo := 0) (hi := 3) (by decide) (by decide) (by omega) (by omega)]; exact a8
  · unfold RcS
    rw [vset_r (r' := 17) (by omega), vset_s, e5, e4, e7, vset_n (c' := 0) (by omega), vset_n (c' := 1) (by omega), vset_n (c' := 2) (by omega), vset_n (c' := 3) (by omega), vset_n (c' := 6) (by omega)]
    obtain ⟨a0, a1, a2, a3, a4, a5, a6, a7, a8, -⟩ := h3
    refine ⟨fun j hj => ?_, ?_, ?_, ?_, ?_, ?_, ?_, ?_, ?_, ?_⟩
    · rw [Cpf_T (lo := 0) (hi := 6) (by decide) (by decide) (by omega) (by omega)]
      exact a0 j hj
    · rw [Cpf_T (lo := 0) (hi := 1) (by decide) (by decide) (by omega) (by omega)]; exact a1
    · rw [Cpf_T (lo := 1) (hi := 2) (by decide) (by decide) (by omega) (by omega)]; exact a2
    · rw [Cpf_T (lo := 2) (hi := 3) (by decide) (by decide) (by omega) (by omega)]; exact a3
    · rw [Cpf_T (lo := 3) (hi := 4) (by decide) (by decide) (by omega) (by omega)]; exact a4
    · exact (Cpf_T (r := 0) (lo := 5) (hi := 6) (by decide) (by decide) (by omega) (by omega)).trans a5
    · rw [Cpf_T (lo := 8) (hi := 9) (by decide) (by decide) (by omega) (by omega)]; exact a6
    · exact (Cpf_T (r := 0) (lo := 6) (hi := 7) (by decide) (by decide) (by omega) (by omega)).trans a7
    · rw [Cpf_T (lo := 3) (hi := 4) (by decide) (by decide) (by omega) (by omega)]; exact a8
    · rw [Cpf_F (by decide)]; exact hg
  · unfold RcC
    rw [e7, vset_r (r' := 19) (by omega), vset_r (r' := 20) (by omega), vset_r (r' := 21) (by omega)]
    intro k hk
    obtain ⟨a0, a1, a2⟩ := h4 k hk
    refine ⟨?_, ?_, ?_⟩
    · rw [Cpf_T (lo := 0) (hi := 60) (by decide) (by decide) (by omega) (by omega)]; exact a0
    · rw [Cpf_T (lo := 0) (hi := 60) (by decide) (by decide) (by omega) (by omega)]; exact a1
    · rw [Cpf_T (lo := 0) (hi := 60) (by decide) (by decide) (by omega) (by omega)]; exact a2
  · unfold RcH
    rw [e5, e4]
    intro i t hi q1 q2
    have : t % 51 < 51 := Nat.mod_lt _ (by decide)
    rw [vset_r (by omega), Cpf_T (lo := 0) (hi := 612) (by decide) (by decide) (by omega) (by omega)]
    exact h5 i t hi q1 q2
theorem vok_gg {V : Sh} {G : Nat} (hV : Vok V) (hG : G ≤ 1000) : Vok (vset V 18 8 G) := by
  obtain ⟨h1, h2, h3, h4, h5⟩ := hV
  have e5 : vset V 18 8 G 18 5 = V 18 5 := vset_n (by omega)
  have e4 : vset V 18 8 G 18 4 = V 18 4 := vset_n (by omega)
  have e7 : vset V 18 8 G 18 7 = V 18 7 := vset_n (by omega)
  refine ⟨?_, ?_, ?_, ?_, ?_⟩
  · unfold VokN
    rw [e5, vset_r (r' := 0) (by omega), vset_r (r' := 1) (by omega), vset_r (r' := 2) (by omega), vset_r (r' := 3) (by omega), vset_r (r' := 4) (by omega), vset_r (r' := 5) (by omega), vset_r (r' := 6) (by omega), vset_r (r' := 7) (by omega), vset_r (r' := 8) (by omega), vset_r (r' := 9) (by omega), vset_r (r' := 10) (by omega), vset_r (r' := 11) (by omega)]
    exact h1
  · unfold VokP
    rw [e4, vset_r (r' := 12) (by omega), vset_r (r' := 13) (by omega), vset_r (r' := 14) (by omega), vset_r (r' := 15) (by omega), vset_r (r' := 16) (by omega)]
    exact h2
  · unfold VokS at h3 ⊢
    rw [vset_r (r' := 17) (by omega), vset_s, e5, e4, e7, vset_n (c' := 0) (by omega), vset_n (c' := 1) (by omega), vset_n (c' := 2) (by omega), vset_n (c' := 3) (by omega), vset_n (c' := 6) (by omega)]
    omega
  · unfold VokC
    rw [e7, vset_r (r' := 19) (by omega), vset_r (r' := 20) (by omega), vset_r (r' := 21) (by omega)]
    exact h4
  · unfold VokH
    rw [e5, e4]
    intro t i ht hi
    rw [vset_r (by omega)]
    exact h5 t i ht hi
