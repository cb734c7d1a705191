/-! LISTS OF CUES -/
def CB (k : Nat) : Prop := ptr k 0 = k + 1 ∧ ptr k 1 = k + 2 ∧ ptr k 2 = k + 3 ∧ alen (k + 1) = 60 ∧ alen (k + 2) = 60 ∧ alen (k + 3) = 60
theorem CB_b {b : Nat} (hb : SB b) : CB (b + 20) := ⟨P20_0 hb, P20_1 hb, P20_2 hb, A21 hb, A22 hb, A23 hb⟩
theorem CB_100 : CB 100 := ⟨rfl, rfl, rfl, rfl, rfl, rfl⟩
/-- the class's list at k: N cues -/
def Cq (k N : Nat) (W : Sh) (σ : Mem) : Prop := σ k 3 = nI N ∧ ∀ j, j < N → σ (k + 1) j = nI (W 0 j) ∧ σ (k + 2) j = nI (W 1 j) ∧ σ (k + 3) j = nI (W 2 j)
def NextIs (N : Nat) (T : Nat → Nat) (t j : Nat) : Prop := j ≤ N ∧ (∀ k, k < j → T k < t) ∧ (j < N → t ≤ T j)
theorem next_u {N : Nat} {T : Nat → Nat} {t j j' : Nat} (h : NextIs N T t j) (h' : NextIs N T t j') : j = j' := by
  obtain ⟨a1, a2, a3⟩ := h
  obtain ⟨b1, b2, b3⟩ := h'
  rcases Nat.lt_trichotomy j j' with q | q | q
  · have := b2 j q
    have := a3 (by omega)
    omega
  · exact q
  · have := a2 j' q
    have := b3 (by omega)
    omega
def insW (W : Sh) (at_ t s v : Nat) : Sh := fun r j => if j < at_ then W r j else if j = at_ then (if r = 0 then t else if r = 1 then s else v) else W r (j - 1)
def outW (W : Sh) (a : Nat) : Sh := fun r j => if j < a then W r j else W r (j + 1)
theorem next_ok {k N t n : Nat} {W : Sh} {σ : Mem} (hk : CB k) (h : Cq k N W σ) (hN : N ≤ 60) (hn : 60 < n) (ht : t < 2 ^ 30) (hW : ∀ j, j < N → W 0 j < 2 ^ 30) : ∃ j, NextIs N (W 0) t j ∧ f_X0_next n σ k (nI t) = some (if j = N then -6 else nI j) := by
  have key : Ret (f_X0_next n σ k (nI t)) (fun r => ∃ j, NextIs N (W 0) t j ∧ r = (if j = N then -6 else nI j)) := by
    unfold f_X0_next f_X0_next_L2
    refine Ret_for0 N (fun i => ∀ k, k < i → W 0 k < t) ?_ ?_ (i := 0) (Nat.zero_le _) (by omega) (fun k hk => by omega)
    · intro i hi hI
      unfold f_X0_next_B2
      rw [h.1, if_neg (c := nI N ≤ nI i) (by rw [le_i, nI_toInt (by omega), nI_toInt (by omega)]; omega), hk.1, hk.2.2.2.1, ckI_nI (by omega) (by decide), chk_t, ix_nI (by omega), (h.2 i hi).1]
      have w := hW i hi
      by_cases q : W 0 i < t
      · rw [if_pos (nI_lt q (by omega))]
        refine Ret_nm (Ret_some ⟨?_, ?_⟩)
        · rw [show (1 : Int32) = nI 1 from rfl, nI_add]
        · intro k hk
          by_cases e : k = i
          · subst e; exact q
          · exact hI k (by omega)
      · rw [if_neg (by rw [lt_i, nI_toInt (by omega), nI_toInt (by omega)]; omega)]
        refine Ret_some ⟨i, ⟨by omega, hI, fun _ => by omega⟩, ?_⟩
        rw [if_neg (by omega)]
    · intro hI
      unfold f_X0_next_B2
      rw [h.1, if_pos (c := nI N ≤ nI N) (Int32.le_refl _)]
      exact Ret_some ⟨N, ⟨Nat.le_refl _, hI, fun q => by omega⟩, (if_pos rfl).symm⟩
  obtain ⟨r, e, j, hj, er⟩ := key
  exact ⟨j, hj, by rw [e, er]⟩
theorem shift_ok {k a d m : Nat} {σ : Mem} (hk : CB k) (h1 : a + m ≤ 60) (h2 : d + m ≤ 60) : ∃ σ', f_X0_shift σ k (nI a) (nI d) (nI m) = some σ' ∧ Only [k + 1, k + 2, k + 3] σ σ' ∧ ∀ r j, 1 ≤ r ∧ r ≤ 3 → σ' (k + r) j = if d ≤ j ∧ j < d + m then σ (k + r) (a + (j - d)) else σ (k + r) j := by
  obtain ⟨p0, p1, p2, l0, l1, l2⟩ := hk
  unfold f_X0_shift
  rw [p0, p1, p2, l0, l1, l2, ckC_nI h1 h2 (by decide) (by decide)]
  simp only [chk_t, nm]
  rw [ix_nI (by omega), ix_nI (by omega), ix_nI (by omega)]
  refine ⟨_, rfl, ?_, ?_⟩
  · intro x hx
    simp at hx
    rw [gput_n (by omega), gput_n (by omega), gput_n (by omega)]
  · intro r j hr
    have : r = 1 ∨ r = 2 ∨ r = 3 := by omega
    rcases this with q | q | q <;> subst q
    · rw [gput_n (by omega), gput_n (by omega), gput_s]
      unfold va_cpy
      rfl
    · rw [gput_n (by omega), gput_s, gput_n (by omega)]
      unfold va_cpy
      rfl
    · rw [gput_s, gput_n (by omega), gput_n (by omega)]
      unfold va_cpy
      rfl
theorem insertL_ok {k N t s v n j : Nat} {W : Sh} {σ : Mem} (hk : CB k) (h : Cq k N W σ) (hN : N < 60) (hj : j ≤ N) : ∃ q, f_X0_insert_L34 n σ k (nI t) (nI s) (nI v) (nI j) = some q ∧ q.1 = nI j ∧ Cq k (N + 1) (insW W j t s v) q.2 ∧ Only [k, k + 1, k + 2, k + 3] σ q.2 := by
  obtain ⟨σ1, e1, o1, r1⟩ := shift_ok (σ := σ) (a := j) (d := j + 1) (m := N - j) hk (by omega) (by omega)
  obtain ⟨p0, p1, p2, l0, l1, l2⟩ := hk
  have f1 : σ1 k = σ k := o1 k (by simp)
  unfold f_X0_insert_L34
  rw [h.1, show (1 : Int32) = nI 1 from rfl, nI_add, nI_sub hj, e1, bnd_s, p0, p1, p2, l0, l1, l2, ckI_nI (by omega) (by decide), ix_nI (by omega)]
  simp only [chk_t, nm]
  refine ⟨_, rfl, rfl, ⟨?_, ?_⟩, ?_⟩
  · dsimp only
    rw [gst_s2, gst_row (by omega), gst_row (by omega), gst_row (by omega), f1, h.1, nI_add]
  · intro i hi
    dsimp only
    have d1 := r1 1 i (by omega)
    have d2 := r1 2 i (by omega)
    have d3 := r1 3 i (by omega)
    rw [gst_row (a := k + 1) (k := k) (by omega), gst_row (a := k + 1) (k := k + 3) (by omega), gst_row (a := k + 1) (k := k + 2) (by omega), gst_row (a := k + 2) (k := k) (by omega), gst_row (a := k + 2) (k := k + 3) (by omega), gst_row (a := k + 3) (k := k) (by omega)]
    unfold insW
    by_cases q : i < j
    · obtain ⟨a1, a2, a3⟩ := h.2 i (by omega)
      rw [if_neg (by omega)] at d1 d2 d3
      rw [if_pos q, if_pos q, if_pos q, gst_n2 (by omega), gst_n2 (by omega), gst_n2 (by omega), gst_row (by omega), gst_row (by omega), gst_row (by omega), d1, d2, d3]
      exact ⟨a1, a2, a3⟩
    · by_cases q2 : i = j
      · subst q2
        rw [gst_s2, gst_s2, gst_s2]
        simp
      · obtain ⟨a1, a2, a3⟩ := h.2 (i - 1) (by omega)
        have z : j + (i - (j + 1)) = i - 1 := by omega
        rw [if_pos (by omega), z] at d1 d2 d3
        rw [if_neg q, if_neg q2, if_neg q, if_neg q2, if_neg q, if_neg q2, gst_n2 (by omega), gst_n2 (by omega), gst_n2 (by omega), gst_row (by omega), gst_row (by omega), gst_row (by omega), d1, d2, d3]
        exact ⟨a1, a2, a3⟩
  · intro a ha
    simp at ha
    dsimp only
    rw [gst_row (by omega), gst_row (by omega), gst_row (by omega), gst_row (by omega)]
    exact o1 a (by simp; omega)
theorem insert_ok {k N t s v n : Nat} {W : Sh} {σ : Mem} (hk : CB k) (h : Cq k N W σ) (hN : N < 60) (hn : 60 < n) (ht : t ≤ 1000000) (hW : ∀ j, j < N → W 0 j < 2 ^ 30) : ∃ q j, f_X0_insert n σ k (nI t) (nI s) (nI v) = some q ∧ NextIs N (W 0) (t + 1) j ∧ q.1 = nI j ∧ Cq k (N + 1) (insW W j t s v) q.2 ∧ Only [k, k + 1, k + 2, k + 3] σ q.2 := by
  obtain ⟨j, hj, e⟩ := next_ok (n := n) (t := t + 1) hk h (by omega) hn (by omega) hW
  obtain ⟨q, e1, a1, a2, a3⟩ := insertL_ok (t := t) (s := s) (v := v) (n := n) hk h hN hj.1
  refine ⟨q, j, ?_, hj, a1, a2, a3⟩
  unfold f_X0_insert
  rw [h.1, if_pos (c := nI N < 60) (nI_lt (b := 60) hN (by decide)), show (1 : Int32) = nI 1 from rfl, nI_add, e, bnd_s]
  by_cases z : j = N
  · subst z
    rw [if_pos rfl, if_pos rfl]
    unfold nm
    exact e1
  · rw [if_neg z, if_neg]
    · exact e1
    · intro w
      have : (nI j).toInt = (-6 : Int32).toInt := by rw [w]
      rw [nI_toInt (by have := hj.1; omega), show (-6 : Int32).toInt = -6 from rfl] at this
      omega
theorem takeOut_ok {k N a : Nat} {W : Sh} {σ : Mem} (hk : CB k) (h : Cq k N W σ) (hN : N ≤ 60) (ha : a < N) : ∃ σ', f_X0_takeOut σ k (nI a) = some σ' ∧ Cq k (N - 1) (outW W a) σ' ∧ Only [k, k + 1, k + 2, k + 3] σ σ' := by
  obtain ⟨σ1, e1, o1, r1⟩ := shift_ok (σ := σ) (a := a + 1) (d := a) (m := N - a - 1) hk (by omega) (by omega)
  have f1 : σ1 k = σ k := o1 k (by simp)
  unfold f_X0_takeOut
  rw [h.1, show (1 : Int32) = nI 1 from rfl, nI_add, nI_sub (by omega), nI_sub (by omega), e1, bnd_s]
  unfold nm
  dsimp only
  rw [f1, h.1, nI_sub (by omega)]
  refine ⟨_, rfl, ⟨gst_s2, ?_⟩, ?_⟩
  · intro i hi
    have d1 := r1 1 i (by omega)
    have d2 := r1 2 i (by omega)
    have d3 := r1 3 i (by omega)
    rw [gst_row (by omega), gst_row (by omega), gst_row (by omega)]
    unfold outW
    by_cases q : i < a
    · rw [if_neg (by omega)] at d1 d2 d3
      rw [d1, d2, d3, if_pos q, if_pos q, if_pos q]
      exact h.2 i (by omega)
    · rw [if_pos (by omega), show a + 1 + (i - a) = i + 1 by omega] at d1 d2 d3
      rw [d1, d2, d3, if_neg q, if_neg q, if_neg q]
      exact h.2 (i + 1) (by omega)
  · intro x hx
    simp at hx
    rw [gst_row (by omega)]
    exact o1 x (by simp; omega)
