/-! CLASS AND REFERENCE SIDE BY SIDE -/
def tab (l : List Nat) (j : Nat) : Nat := l.getD j 0
abbrev loN : Nat → Nat := tab [1, 1, 0, 1, 0, 0]
abbrev hiN : Nat → Nat := tab [100, 5000, 50, 1000, 2, 100]
abbrev inN : Nat → Nat := tab [10, 1000, 3, 200, 0, 10]
abbrev loP : Nat → Nat := tab [0, 1]
abbrev hiP : Nat → Nat := tab [2000, 500]
abbrev inP : Nat → Nat := tab [100, 20]
abbrev loS : Nat → Nat := tab [1, 0, 0, 0, 0, 0]
abbrev hiS : Nat → Nat := tab [64, 300, 300, 1000, 600, 5000]
abbrev inS : Nat → Nat := tab [4, 80, 150, 500, 30, 200]
/-- the static rows -/
def St (σ : Mem) : Prop := (∀ j, j < 6 → σ 112 j = nI (loN j) ∧ σ 113 j = nI (hiN j) ∧ σ 114 j = nI (inN j)) ∧ (∀ j, j < 2 → σ 115 j = nI (loP j) ∧ σ 116 j = nI (hiP j) ∧ σ 117 j = nI (inP j)) ∧ ∀ j, j < 6 → σ 118 j = nI (loS j) ∧ σ 119 j = nI (hiS j) ∧ σ 120 j = nI (inS j)
/-- the greatest goals of the shows that are not live: any, in range -/
def Gg (σ : Mem) : Prop := ∀ b, SB b → b ≠ 1 → ∃ g, g ≤ 1000 ∧ σ (b + 3) 9 = nI g
theorem Gg_same {σ σ' : Mem} (h : Gg σ) (hs : ∀ b, SB b → b ≠ 1 → σ' (b + 3) = σ (b + 3)) : Gg σ' := fun b hb hn => by rw [hs b hb hn]; exact h b hb hn
theorem Rc_same {b : Nat} {V : Sh} {σ σ' : Mem} (h : Rc b V σ) (hs : ∀ a, b ≤ a → a < b + 24 → σ' a = σ a) : Rc b V σ' := by
  obtain ⟨h1, h2, h3, h4, h5⟩ := h
  refine ⟨?_, ?_, ?_, ?_, ?_⟩
  · unfold RcN
    rw [hs (b + 5) (by omega) (by omega), hs (b + 6) (by omega) (by omega), hs (b + 7) (by omega) (by omega), hs (b + 8) (by omega) (by omega), hs (b + 9) (by omega) (by omega), hs (b + 10) (by omega) (by omega), hs (b + 11) (by omega) (by omega)]
    exact h1
  · unfold RcP
    rw [hs (b + 15) (by omega) (by omega), hs (b + 16) (by omega) (by omega), hs (b + 17) (by omega) (by omega), hs (b + 18) (by omega) (by omega)]
    exact h2
  · unfold RcS
    rw [hs (b + 2) (by omega) (by omega), hs (b + 19) (by omega) (by omega), hs b (by omega) (by omega), hs (b + 3) (by omega) (by omega), hs (b + 20) (by omega) (by omega)]
    exact h3
  · unfold RcC
    rw [hs (b + 21) (by omega) (by omega), hs (b + 22) (by omega) (by omega), hs (b + 23) (by omega) (by omega)]
    exact h4
  · unfold RcH
    rw [hs (b + 12) (by omega) (by omega)]
    exact h5
theorem St_same {σ σ' : Mem} (h : St σ) (hs : ∀ a, 112 ≤ a → a < 121 → σ' a = σ a) : St σ' := by
  unfold St
  rw [hs 112 (by decide) (by decide), hs 113 (by decide) (by decide), hs 114 (by decide) (by decide), hs 115 (by decide) (by decide), hs 116 (by decide) (by decide), hs 117 (by decide) (by decide), hs 118 (by decide) (by decide), hs 119 (by decide) (by decide), hs 120 (by decide) (by decide)]
  exact h
theorem SB1 : SB 1 := Or.inl rfl
theorem SB25 : SB 25 := Or.inr (Or.inl rfl)
theorem SB50 : SB 50 := Or.inr (Or.inr (Or.inl rfl))
theorem SB75 : SB 75 := Or.inr (Or.inr (Or.inr rfl))
theorem Th_fr {b : Nat} {σ σ' : Mem} (h : Th σ) (hb : SB b) (hf : Fr b σ σ') : Th σ' := by
  intro b' hb'
  obtain ⟨f1, f2, f3, f4⟩ := hf
  by_cases e : b' = b
  · subst e
    rw [f2, f3, f4]
    exact h b' hb'
  · have := h b' hb'
    rw [f1 (b' + 1) ?_, f1 (b' + 4) ?_, f1 (b' + 14) ?_]
    · exact this
    all_goals (rcases hb with q | q | q | q <;> rcases hb' with q' | q' | q' | q' <;> omega)
theorem of_rng {x : Int32} {a b : Nat} (hb : b < 2 ^ 31) (h : nI a ≤ x ∧ x ≤ nI b) (ha : a < 2 ^ 31) : ∃ j, a ≤ j ∧ j ≤ b ∧ x = nI j := by
  rw [le_i, le_i, nI_toInt ha, nI_toInt hb] at h
  exact ⟨x.toInt.toNat, by omega, by omega, eq_nI (by omega) (by omega)⟩
/-- one of m things -/
theorem of_m {x : Int32} {m : Nat} (hm : m < 2 ^ 30) (h : 0 ≤ x ∧ x ≤ nI m - 1) : ∃ j, j < m ∧ x = nI j := by
  have hs := pk_sub_toInt (a := m) (b := 1) hm (by decide)
  rw [l_1, le_i, le_i, hs, Int32.toInt_zero] at h
  exact ⟨x.toInt.toNat, by omega, eq_nI (by omega) (by omega)⟩
theorem m_of {i m : Nat} (hm : m < 2 ^ 30) (hi : i < m) : 0 ≤ nI i ∧ nI i ≤ nI m - 1 := by
  have hs := pk_sub_toInt (a := m) (b := 1) hm (by decide)
  rw [l_1, le_i, le_i, hs, Int32.toInt_zero, nI_toInt (by omega)]
  omega
theorem bit1 : bit 1 = true := rfl
theorem bit0 : bit 0 = true := rfl
theorem hasN_c {b : Nat} {σ : Mem} {cnt : Nat} (h8 : σ (b + 3) 8 = nI cnt) (x : Int32) : f_X1_has σ (b + 3) x = some (if 0 ≤ x ∧ x ≤ nI cnt - 1 then 1 else 0) := by
  unfold f_X1_has
  rw [h8, in_X8]
  show chk (bit _) (some _) = _
  split <;> rfl
theorem bnd_s {α τ : Type} (a : α) (f : α → Option τ) : bnd (some a) f = f a := rfl
theorem bnd2_s {α β τ : Type} (a : α × β) (f : α → β → Option τ) : bnd2 (some a) f = f a.1 a.2 := rfl
theorem chk_t {τ : Type} (e : Option τ) : chk true e = e := rfl
/-- a setting that is there, and a value in its range -/
def okS (m : Nat) (lo hi : Nat → Nat) (s v : Int32) : Prop := ∃ j w, j < m ∧ s = nI j ∧ v = nI w ∧ lo j ≤ w ∧ w ≤ hi j
theorem change_T {σ : Mem} {k th L N a : Nat} {lo hi : Nat → Nat} (hth : σ k 3 = nI th) (h2 : alen (ptr k 2) = L) (h0 : alen (ptr k 0) = L) (h1 : alen (ptr k 1) = L) (h4 : ptr k 4 = a) (ha : alen a = N) (hN : N = L * th) (hL : 0 < L) (hNs : N < 2 ^ 20) (hlo : ∀ j, j < L → σ (ptr k 0) j = nI (lo j) ∧ σ (ptr k 1) j = nI (hi j)) (hb : ∀ j, j < L → lo j < 2 ^ 20 ∧ hi j < 2 ^ 20) {i j w : Nat} (hi' : i < th) (hj : j < L) (hw1 : lo j ≤ w) (hw2 : w ≤ hi j) : f_X4_change σ k (nI i) (nI j) (nI w) = some (σ a (L * i + j), gst σ a (L * i + j) (nI w)) := by
  have hth2 : th < 2 ^ 20 := by
    have : 1 * th ≤ L * th := Nat.mul_le_mul hL (Nat.le_refl _)
    omega
  have hL2 : L < 2 ^ 20 := by
    have : L * 1 ≤ L * th := Nat.mul_le_mul (Nat.le_refl _) (by omega)
    omega
  have hin : L * i + j < N := by
    have : L * (i + 1) ≤ L * th := Nat.mul_le_mul (Nat.le_refl _) hi'
    rw [Nat.mul_succ] at this
    omega
  obtain ⟨b1, b2⟩ := hb j hj
  unfold f_X4_change
  rw [hth, in_X8, if_pos (m_of (by omega) hi'), bnd_s, if_neg (by decide), h2, show Int32.ofNat L = nI L from rfl, in_X8, if_pos (m_of (by omega) hj), bnd_s, if_neg (by decide), h0, h1, ckI_nI hj (by omega), ix_nI (by omega), (hlo j hj).1, (hlo j hj).2, in_X8, if_pos ⟨nI_le hw1 (by omega), nI_le hw2 (by omega)⟩, chk_t, chk_t, bnd_s, if_neg (by decide)]
  unfold nm
  rw [h4, ha, nI_mul, nI_add, show i * L + j = L * i + j by rw [Nat.mul_comm]]
  dsimp only
  rw [ckI_nI hin (by omega), ix_nI (by omega)]
  rfl
theorem change_F {σ : Mem} {k th L : Nat} {lo hi : Nat → Nat} {x : Int32} (hth : σ k 3 = nI th) (h2 : alen (ptr k 2) = L) (h0 : alen (ptr k 0) = L) (h1 : alen (ptr k 1) = L) (hL2 : L < 2 ^ 20) (hlo : ∀ j, j < L → σ (ptr k 0) j = nI (lo j) ∧ σ (ptr k 1) j = nI (hi j)) (hb : ∀ j, j < L → lo j < 2 ^ 20 ∧ hi j < 2 ^ 20) {s v : Int32} (h : ¬ okS L lo hi s v) : f_X4_change σ k x s v = some ((-2), σ) := by
  unfold f_X4_change
  rw [hth, in_X8]
  by_cases c0 : 0 ≤ x ∧ x ≤ nI th - 1
  · rw [if_pos c0, bnd_s, if_neg (by decide), h2, show Int32.ofNat L = nI L from rfl, in_X8]
    by_cases c1 : 0 ≤ s ∧ s ≤ nI L - 1
    · obtain ⟨j, hj, rfl⟩ := of_m (by omega) c1
      obtain ⟨b1, b2⟩ := hb j hj
      rw [if_pos c1, bnd_s, if_neg (by decide), h0, h1, ckI_nI hj (by omega), ix_nI (by omega), (hlo j hj).1, (hlo j hj).2, in_X8, chk_t, chk_t]
      rw [if_neg (c := nI (lo j) ≤ v ∧ v ≤ nI (hi j))]
      · rfl
      · intro c2
        obtain ⟨w, w1, w2, rfl⟩ := of_rng (by omega) c2 (by omega)
        exact h ⟨j, w, hj, rfl, rfl, w1, w2⟩
    · rw [if_neg c1]
      rfl
  · rw [if_neg c0]
    rfl
theorem tab_b {l : List Nat} {m : Nat} (h : ∀ x ∈ l, x < m) (hm : 0 < m) (j : Nat) : tab l j < m := by
  unfold tab
  rw [List.getD_eq_getElem?_getD]
  cases e : l[j]? with
  | none => exact hm
  | some x => exact h x (List.mem_of_getElem? e)

