/-! LISTS OF CUES -/
def CB (k : Nat) : Prop := ptr k 0 = k + 1 ∧ ptr k 1 = k + 2 ∧ ptr k 2 = k + 3 ∧ alen (k + 1) = 60 ∧ alen (k + 2) = 60 ∧ alen (k + 3) = 60
theorem CB_b {b : Nat} (hb : SB b) : CB (b + 20) := ⟨P20_0 hb, P20_1 hb, P20_2 hb, A21 hb, A22 hb, A23 hb⟩
theorem CB_100 : CB 100 := ⟨rfl, rfl, rfl, rfl, rfl, rfl⟩
/-- the class's list at k: N cues -/
def Cq (k N : Nat) (W : Sh) (σ : Mem) : Prop := σ k 3 = nI N ∧ ∀ j, j < N → σ (k + 1) j = nI (W 0 j) ∧ σ (k + 2) j = nI (W 1 j) ∧ σ (k + 3) j = nI (W 2 j)
def Cr (N : Nat) (W : Sh) (f : Nat → Int32) : Prop := ∀ j, j < N → ∀ c, c < 3 → f (941 + 3 * j + c) = nI (W c j)
def NextIs (N : Nat) (T : Nat → Nat) (t j : Nat) : Prop := j ≤ N ∧ (∀ k, k < j → T k < t) ∧ (j < N → t ≤ T j)
theorem next_u {N : Nat} {T : Nat → Nat} {t j j' : Nat} (h : NextIs N T t j) (h' : NextIs N T t j') : j = j' := by
  obtain ⟨a1, a2, a3⟩ := h
  obtain ⟨b1, b2, b3⟩ := h'
  rcases Nat.lt_trichotomy j j' with q | q | q
  · have := b2 j q
    have := a3 (by omega)
    omega
  · exact q
  · have := a2 j' q
    have := b3 (by omega)
    omega
def insW (W : Sh) (at_ t s v : Nat) : Sh := fun r j => if j < at_ then W r j else if j = at_ then (if r = 0 then t else if r = 1 then s else v) else W r (j - 1)
def outW (W : Sh) (a : Nat) : Sh := fun r j => if j < a then W r j else W r (j + 1)
theorem next_ok {k N t n : Nat} {W : Sh} {σ : Mem} (hk : CB k) (h : Cq k N W σ) (hN : N ≤ 60) (hn : 60 < n) (ht : t < 2 ^ 30) (hW : ∀ j, j < N → W 0 j < 2 ^ 30) : ∃ j, NextIs N (W 0) t j ∧ f_X0_next n σ k (nI t) = some (if j = N then -6 else nI j) := by
  have key : Ret (f_X0_next n σ k (nI t)) (fun r => ∃ j, NextIs N (W 0) t j ∧ r = (if j = N then -6 else nI j)) := by
    unfold f_X0_next f_X0_next_L2
    refine Ret_for0 N (fun i => ∀ k, k < i → W 0 k < t) ?_ ?_ (i := 0) (Nat.zero_le _) (by omega) (fun k hk => by omega)
    · intro i hi hI
      unfold f_X0_next_B2
      rw [h.1, if_neg (c := nI N ≤ nI i) (by rw [le_i, nI_toInt (by omega), nI_toInt (by omega)]; omega), hk.1, hk.2.2.2.1, ckI_nI (by omega) (by decide), chk_t, ix_nI (by omega), (h.2 i hi).1]
      have w := hW i hi
      by_cases q : W 0 i < t
      · rw [if_pos (nI_lt q (by omega))]
        refine Ret_nm (Ret_some ⟨?_, ?_⟩)
        · rw [show (1 : Int32) = nI 1 from rfl, nI_add]
        · intro k hk
          by_cases e : k = i
          · subst e; exact q
          · exact hI k (by omega)
      · rw [if_neg (by rw [lt_i, nI_toInt (by omega), nI_toInt (by omega)]; omega)]
        refine Ret_some ⟨i, ⟨by omega, hI, fun _ => by omega⟩, ?_⟩
        rw [if_neg (by omega)]
    · intro hI
      unfold f_X0_next_B2
      rw [h.1, if_pos (c := nI N ≤ nI N) (Int32.le_refl _)]
      exact Ret_some ⟨N, ⟨Nat.le_refl _, hI, fun q => by omega⟩, (if_pos rfl).symm⟩
  obtain ⟨r, e, j, hj, er⟩ := key
  exact ⟨j, hj, by rw [e, er]⟩
theorem next9_ok {σ : Mem} {N T n : Nat} {W : Sh} (h0 : σ 106 940 = nI N) (h7 : σ 106 937 = nI T) (h : Cr N W (σ 106)) (hN : N ≤ 60) (hn : 60 < n) (ht : T < 2 ^ 30) (hW : ∀ j, j < N → W 0 j < 2 ^ 30) : ∃ j, NextIs N (W 0) T j ∧ f_X9_nextCue n σ 105 = some (if j = N then -6 else nI j) := by
  have key : Ret (f_X9_nextCue n σ 105) (fun r => ∃ j, NextIs N (W 0) T j ∧ r = (if j = N then -6 else nI j)) := by
    unfold f_X9_nextCue f_X9_nextCue_L2
    refine Ret_for0 N (fun i => ∀ k, k < i → W 0 k < T) ?_ ?_ (i := 0) (Nat.zero_le _) (by omega) (fun k hk => by omega)
    · intro i hi hI
      unfold f_X9_nextCue_B2 f_X9_ofCue
      rw [PM0, AM0, show ckI 940 1121 = true from rfl, chk_t, show ix 940 = 940 from rfl, h0, if_neg (c := nI N ≤ nI i) (by rw [le_i, nI_toInt (by omega), nI_toInt (by omega)]; omega)]
      rw [show (941 : Int32) = nI 941 from rfl, show (3 : Int32) = nI 3 from rfl, show (0 : Int32) = nI 0 from rfl, nI_mul, nI_add, nI_add, ckI_nI (by omega) (by decide), chk_t, ix_nI (by omega), bnd_s, show ckI 937 1121 = true from rfl, chk_t, show ix 937 = 937 from rfl, h7, h i hi 0 (by decide)]
      have w := hW i hi
      by_cases q : W 0 i < T
      · rw [if_pos (nI_lt q (by omega))]
        refine Ret_nm (Ret_some ⟨?_, ?_⟩)
        · rw [show (1 : Int32) = nI 1 from rfl, nI_add]
        · intro k hk
          by_cases e : k = i
          · subst e; exact q
          · exact hI k (by omega)
      · rw [if_neg (by rw [lt_i, nI_toInt (by omega), nI_toInt (by omega)]; omega)]
        refine Ret_some ⟨i, ⟨by omega, hI, fun _ => by omega⟩, ?_⟩
        rw [if_neg (by omega)]
    · intro hI
      unfold f_X9_nextCue_B2
      rw [PM0, AM0, show ckI 940 1121 = true from rfl, chk_t, show ix 940 = 940 from rfl, h0, if_pos (c := nI N ≤ nI N) (Int32.le_refl _)]
      exact Ret_some ⟨N, ⟨Nat.le_refl _, hI, fun q => by omega⟩, (if_pos rfl).symm⟩
  obtain ⟨r, e, j, hj, er⟩ := key
  exact ⟨j, hj, by rw [e, er]⟩
theorem shift_ok {k a d m : Nat} {σ : Mem} (hk : CB k) (h1 : a + m ≤ 60) (h2 : d + m ≤ 60) : ∃ σ', f_X0_shift σ k (nI a) (nI d) (nI m) = some σ' ∧ Only [k + 1, k + 2, k + 3] σ σ' ∧ ∀ r j, 1 ≤ r ∧ r ≤ 3 → σ' (k + r) j = if d ≤ j ∧ j < d + m then σ (k + r) (a + (j - d)) else σ (k + r) j := by
  obtain ⟨p0, p1, p2, l0, l1, l2⟩ := hk
  unfold f_X0_shift
  rw [p0, p1, p2, l0, l1, l2, ckC_nI h1 h2 (by decide) (by decide)]
  simp only [chk_t, nm]
  rw [ix_nI (by omega), ix_nI (by omega), ix_nI (by omega)]
  refine ⟨_, rfl, ?_, ?_⟩
  · intro x hx
    simp at hx
    rw [gput_n (by omega), gput_n (by omega), gput_n (by omega)]
  · intro r j hr
    have : r = 1 ∨ r = 2 ∨ r = 3 := by omega
    rcases this with q | q | q <;> subst q
    · rw [gput_n (by omega), gput_n (by omega), gput_s]
      unfold va_cpy
      rfl
    · rw [gput_n (by omega), gput_s, gput_n (by omega)]
      unfold va_cpy
      rfl
    · rw [gput_s, gput_n (by omega), gput_n (by omega)]
      unfold va_cpy
      rfl
theorem insertL_ok {k N t s v n j : Nat} {W : Sh} {σ : Mem} (hk : CB k) (h : Cq k N W σ) (hN : N < 60) (hj : j ≤ N) : ∃ q, f_X0_insert_L34 n σ k (nI t) (nI s) (nI v) (nI j) = some q ∧ q.1 = nI j ∧ Cq k (N + 1) (insW W j t s v) q.2 ∧ Only [k, k + 1, k + 2, k + 3] σ q.2 := by
  obtain ⟨σ1, e1, o1, r1⟩ := shift_ok (σ := σ) (a := j) (d := j + 1) (m := N - j) hk (by omega) (by omega)
  obtain ⟨p0, p1, p2, l0, l1, l2⟩ := hk
  have f1 : σ1 k = σ k := o1 k (by simp)
  unfold f_X0_insert_L34
  rw [h.1, show (1 : Int32) = nI 1 from rfl, nI_add, nI_sub hj, e1, bnd_s, p0, p1, p2, l0, l1, l2, ckI_nI (by omega) (by decide), ix_nI (by omega)]
  simp only [chk_t, nm]
  refine ⟨_, rfl, rfl, ⟨?_, ?_⟩, ?_⟩
  · dsimp only
    rw [gst_s2, gst_row (by omega), gst_row (by omega), gst_row (by omega), f1, h.1, nI_add]
  · intro i hi
    dsimp only
    have d1 := r1 1 i (by omega)
    have d2 := r1 2 i (by omega)
    have d3 := r1 3 i (by omega)
    rw [gst_row (a := k + 1) (k := k) (by omega), gst_row (a := k + 1) (k := k + 3) (by omega), gst_row (a := k + 1) (k := k + 2) (by omega), gst_row (a := k + 2) (k := k) (by omega), gst_row (a := k + 2) (k := k + 3) (by omega), gst_row (a := k + 3) (k := k) (by omega)]
    unfold insW
    by_cases q : i < j
    · obtain ⟨a1, a2, a3⟩ := h.2 i (by omega)
      rw [if_neg (by omega)] at d1 d2 d3
      rw [if_pos q, if_pos q, if_pos q, gst_n2 (by omega), gst_n2 (by omega), gst_n2 (by omega), gst_row (by omega), gst_row (by omega), gst_row (by omega), d1, d2, d3]
      exact ⟨a1, a2, a3⟩
    · by_cases q2 : i = j
      · subst q2
        rw [gst_s2, gst_s2, gst_s2]
        simp
      · obtain ⟨a1, a2, a3⟩ := h.2 (i - 1) (by omega)
        have z : j + (i - (j + 1)) = i - 1 := by omega
        rw [if_pos (by omega), z] at d1 d2 d3
        rw [if_neg q, if_neg q2, if_neg q, if_neg q2, if_neg q, if_neg q2, gst_n2 (by omega), gst_n2 (by omega), gst_n2 (by omega), gst_row (by omega), gst_row (by omega), gst_row (by omega), d1, d2, d3]
        exact ⟨a1, a2, a3⟩
  · intro a ha
    simp at ha
    dsimp only
    rw [gst_row (by omega), gst_row (by omega), gst_row (by omega), gst_row (by omega)]
    exact o1 a (by simp; omega)
theorem insert_ok {k N t s v n : Nat} {W : Sh} {σ : Mem} (hk : CB k) (h : Cq k N W σ) (hN : N < 60) (hn : 60 < n) (ht : t ≤ 1000000) (hW : ∀ j, j < N → W 0 j < 2 ^ 30) : ∃ q j, f_X0_insert n σ k (nI t) (nI s) (nI v) = some q ∧ NextIs N (W 0) (t + 1) j ∧ q.1 = nI j ∧ Cq k (N + 1) (insW W j t s v) q.2 ∧ Only [k, k + 1, k + 2, k + 3] σ q.2 := by
  obtain ⟨j, hj, e⟩ := next_ok (n := n) (t := t + 1) hk h (by omega) hn (by omega) hW
  obtain ⟨q, e1, a1, a2, a3⟩ := insertL_ok (t := t) (s := s) (v := v) (n := n) hk h hN hj.1
  refine ⟨q, j, ?_, hj, a1, a2, a3⟩
  unfold f_X0_insert
  rw [h.1, if_pos (c := nI N < 60) (nI_lt (b := 60) hN (by decide)), show (1 : Int32) = nI 1 from rfl, nI_add, e, bnd_s]
  by_cases z : j = N
  · subst z
    rw [if_pos rfl, if_pos rfl]
    unfold nm
    exact e1
  · rw [if_neg z, if_neg]
    · exact e1
    · intro w
      have : (nI j).toInt = (-6 : Int32).toInt := by rw [w]
      rw [nI_toInt (by have := hj.1; omega), show (-6 : Int32).toInt = -6 from rfl] at this
      omega
theorem takeOut_ok {k N a : Nat} {W : Sh} {σ : Mem} (hk : CB k) (h : Cq k N W σ) (hN : N ≤ 60) (ha : a < N) : ∃ σ', f_X0_takeOut σ k (nI a) = some σ' ∧ Cq k (N - 1) (outW W a) σ' ∧ Only [k, k + 1, k + 2, k + 3] σ σ' := by
  obtain ⟨σ1, e1, o1, r1⟩ := shift_ok (σ := σ) (a := a + 1) (d := a) (m := N - a - 1) hk (by omega) (by omega)
  have f1 : σ1 k = σ k := o1 k (by simp)
  unfold f_X0_takeOut
  rw [h.1, show (1 : Int32) = nI 1 from rfl, nI_add, nI_sub (by omega), nI_sub (by omega), e1, bnd_s]
  unfold nm
  dsimp only
  rw [f1, h.1, nI_sub (by omega)]
  refine ⟨_, rfl, ⟨gst_s2, ?_⟩, ?_⟩
  · intro i hi
    have d1 := r1 1 i (by omega)
    have d2 := r1 2 i (by omega)
    have d3 := r1 3 i (by omega)
    rw [gst_row (by omega), gst_row (by omega), gst_row (by omega)]
    unfold outW
    by_cases q : i < a
    · rw [if_neg (by omega)] at d1 d2 d3
      rw [d1, d2, d3, if_pos q, if_pos q, if_pos q]
      exact h.2 i (by omega)
    · rw [if_pos (by omega), show a + 1 + (i - a) = i + 1 by omega] at d1 d2 d3
      rw [d1, d2, d3, if_neg q, if_neg q, if_neg q]
      exact h.2 (i + 1) (by omega)
  · intro x hx
    simp at hx
    rw [gst_row (by omega)]
    exact o1 x (by simp; omega)
/-! the reference's -/
theorem layCue_ok {σ : Mem} {k : Nat} (hk : k < 60) (x y z : Int32) : ∃ σ', f_X9_layCue σ 105 (nI k) x y z = some σ' ∧ Only [106] σ σ' ∧ (∀ a, a < 941 → σ' 106 a = σ 106 a) ∧ (∀ j c, c < 3 → j ≠ k → σ' 106 (941 + 3 * j + c) = σ 106 (941 + 3 * j + c)) ∧ σ' 106 (941 + 3 * k + 0) = x ∧ σ' 106 (941 + 3 * k + 1) = y ∧ σ' 106 (941 + 3 * k + 2) = z := by
  unfold f_X9_layCue
  rw [PM0, AM0, show (941 : Int32) = nI 941 from rfl, show (3 : Int32) = nI 3 from rfl, show (1 : Int32) = nI 1 from rfl, show (2 : Int32) = nI 2 from rfl, nI_mul, nI_add, nI_add, nI_add, ckI_nI (by omega) (by decide), ckI_nI (by omega) (by decide), ckI_nI (by omega) (by decide), ix_nI (by omega), ix_nI (by omega), ix_nI (by omega)]
  simp only [chk_t, nm]
  refine ⟨_, rfl, ?_, ?_, ?_, ?_, ?_, ?_⟩
  · exact (gst_only _ _ _ _).one ((gst_only _ _ _ _).one (gst_only _ _ _ _))
  · intro a ha
    rw [gst_n2 (by omega), gst_n2 (by omega), gst_n2 (by omega)]
  · intro j c hc hj
    rw [gst_n2 (by omega), gst_n2 (by omega), gst_n2 (by omega)]
  · rw [gst_n2 (by omega), gst_n2 (by omega)]
    exact gst_s2
  · rw [gst_n2 (by omega)]
    exact gst_s2
  · exact gst_s2
theorem cue9 {σ : Mem} {k : Nat} (hk : k < 60) {c : Nat} (hc : c < 3) : f_X9_ofCue σ 105 (nI k) (nI c) = some (σ 106 (941 + 3 * k + c)) := by
  unfold f_X9_ofCue
  rw [PM0, AM0, show (941 : Int32) = nI 941 from rfl, show (3 : Int32) = nI 3 from rfl, nI_mul, nI_add, nI_add, ckI_nI (by omega) (by decide), chk_t, ix_nI (by omega)]
theorem cue9_0 {σ : Mem} {k : Nat} (hk : k < 60) : f_X9_ofCue σ 105 (nI k) 0 = some (σ 106 (941 + 3 * k + 0)) := cue9 (c := 0) hk (by decide)
theorem cue9_1 {σ : Mem} {k : Nat} (hk : k < 60) : f_X9_ofCue σ 105 (nI k) 1 = some (σ 106 (941 + 3 * k + 1)) := cue9 (c := 1) hk (by decide)
theorem cue9_2 {σ : Mem} {k : Nat} (hk : k < 60) : f_X9_ofCue σ 105 (nI k) 2 = some (σ 106 (941 + 3 * k + 2)) := cue9 (c := 2) hk (by decide)
theorem insertL9_ok {σ : Mem} {N t s v n j : Nat} {W : Sh} (h0 : σ 106 940 = nI N) (hN : N < 60) (hj : j ≤ N) (h1 : ∀ i, i < j → ∀ c, c < 3 → σ 106 (941 + 3 * i + c) = nI (W c i)) (h2 : ∀ i, j < i → i ≤ N → ∀ c, c < 3 → σ 106 (941 + 3 * i + c) = nI (W c (i - 1))) : ∃ q, f_X9_insert_L67 n σ 105 (nI t) (nI s) (nI v) (nI j) = some q ∧ q.1 = nI j ∧ q.2 106 940 = nI (N + 1) ∧ Cr (N + 1) (insW W j t s v) (q.2 106) ∧ Only [106] σ q.2 ∧ ∀ a, a < 940 → q.2 106 a = σ 106 a := by
  obtain ⟨σ1, e1, o1, l1, n1, x, y, z⟩ := layCue_ok (σ := σ) (k := j) (by omega) (nI t) (nI s) (nI v)
  unfold f_X9_insert_L67
  rw [e1, bnd_s, PM0, AM0, show ckI 940 1121 = true from rfl, show ix 940 = 940 from rfl, l1 940 (by decide), h0]
  simp only [chk_t, nm]
  rw [show (1 : Int32) = nI 1 from rfl, nI_add]
  refine ⟨_, rfl, rfl, ?_, ?_, o1.one (gst_only _ _ _ _), ?_⟩
  · dsimp only
    exact gst_s2
  · intro i hi c hc
    dsimp only
    rw [gst_n2 (by omega)]
    unfold insW
    by_cases q : i < j
    · rw [if_pos q, n1 i c hc (by omega)]
      exact h1 i q c hc
    · by_cases q2 : i = j
      · subst q2
        rw [if_neg q, if_pos rfl]
        have : c = 0 ∨ c = 1 ∨ c = 2 := by omega
        rcases this with w | w | w <;> subst w
        · rw [x]; rfl
        · rw [y]; rfl
        · rw [z]; rfl
      · rw [if_neg q, if_neg q2, n1 i c hc q2]
        exact h2 i (by omega) (by omega) c hc
  · intro a ha
    dsimp only
    rw [gst_n2 (by omega)]
    exact l1 a (by omega)
theorem insert9_ok {σ : Mem} {N t s v n : Nat} {W : Sh} (h0 : σ 106 940 = nI N) (h : Cr N W (σ 106)) (hN : N < 60) (hn : 60 < n) (ht : t ≤ 1000000) (hW : ∀ j, j < N → W 0 j < 2 ^ 30) (hs : ∀ j, j + 1 < N → W 0 j ≤ W 0 (j + 1)) : ∃ q j, f_X9_insert n σ 105 (nI t) (nI s) (nI v) = some q ∧ NextIs N (W 0) (t + 1) j ∧ q.1 = nI j ∧ q.2 106 940 = nI (N + 1) ∧ Cr (N + 1) (insW W j t s v) (q.2 106) ∧ Only [106] σ q.2 ∧ ∀ a, a < 940 → q.2 106 a = σ 106 a := by
  have mono : ∀ d i, i + d < N → W 0 i ≤ W 0 (i + d) := by
    intro d
    induction d with
    | zero => intro i _; exact Nat.le_refl _
    | succ d ih => intro i hi; exact Nat.le_trans (ih i (by omega)) (hs (i + d) (by omega))
  have key : Ret (f_X9_insert n σ 105 (nI t) (nI s) (nI v)) (fun q => ∃ j, NextIs N (W 0) (t + 1) j ∧ q.1 = nI j ∧ q.2 106 940 = nI (N + 1) ∧ Cr (N + 1) (insW W j t s v) (q.2 106) ∧ Only [106] σ q.2 ∧ ∀ a, a < 940 → q.2 106 a = σ 106 a) := by
    unfold f_X9_insert
    rw [PM0, AM0, show ckI 940 1121 = true from rfl, chk_t, show ix 940 = 940 from rfl, h0]
    unfold nm f_X9_insert_L10
    refine Ret_iter (fun m x => ∃ σ', x = (σ', nI m) ∧ m ≤ N ∧ Only [106] σ σ' ∧ (∀ a, a < 941 → σ' 106 a = σ 106 a) ∧ (∀ i, i < m → ∀ c, c < 3 → σ' 106 (941 + 3 * i + c) = nI (W c i)) ∧ (∀ i, m < i → i ≤ N → ∀ c, c < 3 → σ' 106 (941 + 3 * i + c) = nI (W c (i - 1))) ∧ ∀ i, m ≤ i → i < N → t < W 0 i) ?_ n N _ ⟨σ, rfl, Nat.le_refl _, fun _ _ => rfl, fun _ _ => rfl, h, fun i _ _ => by omega, fun i _ _ => by omega⟩ (by omega)
    rintro m _ ⟨σ1, rfl, hm, o1, l1, a1, a2, a3⟩
    have h01 : σ1 106 940 = nI N := by rw [l1 940 (by decide)]; exact h0
    have fin : NextIs N (W 0) (t + 1) m → Ret (exi (f_X9_insert_L67 n σ1 105 (nI t) (nI s) (nI v) (nI m)) : Option ((Int32 × Mem) ⊕ (Mem × Int32))) (Lp (fun q => ∃ j, NextIs N (W 0) (t + 1) j ∧ q.1 = nI j ∧ q.2 106 940 = nI (N + 1) ∧ Cr (N + 1) (insW W j t s v) (q.2 106) ∧ Only [106] σ q.2 ∧ ∀ a, a < 940 → q.2 106 a = σ 106 a) (fun s' => ∃ m', m' < m ∧ ∃ σ', s' = (σ', nI m') ∧ m' ≤ N ∧ Only [106] σ σ' ∧ (∀ a, a < 941 → σ' 106 a = σ 106 a) ∧ (∀ i, i < m' → ∀ c, c < 3 → σ' 106 (941 + 3 * i + c) = nI (W c i)) ∧ (∀ i, m' < i → i ≤ N → ∀ c, c < 3 → σ' 106 (941 + 3 * i + c) = nI (W c (i - 1))) ∧ ∀ i, m' ≤ i → i < N → t < W 0 i)) := by
      intro hx
      obtain ⟨q, e, b1, b2, b3, b4, b5⟩ := insertL9_ok (n := n) (t := t) (s := s) (v := v) h01 hN hm a1 a2
      exact Ret_exi ⟨q, e, m, hx, b1, b2, b3, o1.one b4, fun a ha => by rw [b5 a ha]; exact l1 a (by omega)⟩
    unfold f_X9_insert_B10
    dsimp only
    by_cases z : m = 0
    · subst z
      rw [if_pos (c := nI 0 ≤ 0) (Int32.le_refl _)]
      exact fin ⟨by omega, fun i hi => by omega, fun q => a3 0 (by omega) q⟩
    · rw [if_neg (c := nI m ≤ 0) (by rw [le_i, nI_toInt (by omega), Int32.toInt_zero]; omega), show (1 : Int32) = nI 1 from rfl, nI_sub (by omega), cue9_0 (by omega), cue9 (k := m - 1) (c := 1) (by omega) (by decide), cue9_2 (by omega), bnd_s, a1 (m - 1) (by omega) 0 (by decide), a1 (m - 1) (by omega) 1 (by decide), a1 (m - 1) (by omega) 2 (by decide)]
      have w := hW (m - 1) (by omega)
      by_cases q : W 0 (m - 1) ≤ t
      · rw [if_pos (nI_le q (by omega))]
        refine fin ⟨hm, ?_, fun q => a3 m (by omega) q⟩
        intro i hi
        have := mono (m - 1 - i) i (by omega)
        rw [show i + (m - 1 - i) = m - 1 by omega] at this
        omega
      · rw [if_neg (by rw [le_i, nI_toInt (by omega), nI_toInt (by omega)]; omega), bnd_s, bnd_s, bnd_s]
        obtain ⟨σ2, e2, o2, l2, n2, x, y, u⟩ := layCue_ok (σ := σ1) (k := m) (by omega) (nI (W 0 (m - 1))) (nI (W 1 (m - 1))) (nI (W 2 (m - 1)))
        rw [e2, bnd_s]
        refine Ret_nm (Ret_some ⟨m - 1, by omega, σ2, ?_, by omega, o1.one o2, fun a ha => (l2 a ha).trans (l1 a ha), ?_, ?_, ?_⟩)
        · have : nI m + (-1) = nI (m - 1) := by
            rw [show (-1 : Int32) = - nI 1 from rfl, ← Int32.sub_eq_add_neg, nI_sub (by omega)]
          exact congrArg (Prod.mk σ2) this
        · intro i hi c hc
          rw [n2 i c hc (by omega)]
          exact a1 i (by omega) c hc
        · intro i hi hi2 c hc
          by_cases e : i = m
          · subst e
            have : c = 0 ∨ c = 1 ∨ c = 2 := by omega
            rcases this with w | w | w <;> subst w
            · exact x
            · exact y
            · exact u
          · rw [n2 i c hc e]
            exact a2 i (by omega) hi2 c hc
        · intro i hi hi2
          by_cases e : i = m - 1
          · subst e; omega
          · exact a3 i (by omega) hi2
  obtain ⟨q, e, j, hj⟩ := key
  exact ⟨q, j, e, hj⟩
theorem takeOut9_ok {σ : Mem} {N a n : Nat} {W : Sh} (h0 : σ 106 940 = nI N) (h : Cr N W (σ 106)) (hN : N ≤ 60) (hn : 60 < n) (ha : a < N) : ∃ σ', f_X9_takeOut n σ 105 (nI a) = some σ' ∧ σ' 106 940 = nI (N - 1) ∧ Cr (N - 1) (outW W a) (σ' 106) ∧ Only [106] σ σ' ∧ ∀ a, a < 940 → σ' 106 a = σ 106 a := by
  have key : Ret (f_X9_takeOut n σ 105 (nI a)) (fun σ' => σ' 106 940 = nI (N - 1) ∧ Cr (N - 1) (outW W a) (σ' 106) ∧ Only [106] σ σ' ∧ ∀ a, a < 940 → σ' 106 a = σ 106 a) := by
    unfold f_X9_takeOut
    rw [PM0, AM0, show ckI 940 1121 = true from rfl, chk_t, chk_t, show ix 940 = 940 from rfl, h0, show (1 : Int32) = nI 1 from rfl, nI_sub (by omega)]
    unfold nm f_X9_takeOut_L14
    refine Ret_for (N - 1) (fun m σ' => a ≤ m ∧ Only [106] σ σ' ∧ σ' 106 940 = nI (N - 1) ∧ (∀ a, a < 940 → σ' 106 a = σ 106 a) ∧ (∀ i, i < m → ∀ c, c < 3 → σ' 106 (941 + 3 * i + c) = nI (outW W a c i)) ∧ (∀ i, m ≤ i → i < N → ∀ c, c < 3 → σ' 106 (941 + 3 * i + c) = nI (W c i))) ?_ ?_ (i := a) (by omega) (by omega) ⟨Nat.le_refl _, gst_only _ _ _ _, gst_s2, fun x hx => gst_n2 (by omega), ?_, ?_⟩
    · rintro m σ1 hm ⟨am, o1, z1, l1, a1, a2⟩
      unfold f_X9_takeOut_B14
      dsimp only
      rw [PM0, AM0, show ckI 940 1121 = true from rfl, chk_t, show ix 940 = 940 from rfl, if_neg (c := σ1 106 940 ≤ nI m) (by rw [z1, le_i, nI_toInt (by omega), nI_toInt (by omega)]; omega), show (1 : Int32) = nI 1 from rfl, nI_add]
      rw [show nI 1 = (1 : Int32) from rfl, cue9_0 (by omega), cue9_1 (by omega), cue9_2 (by omega), bnd_s, bnd_s, bnd_s, a2 (m + 1) (by omega) (by omega) 0 (by decide), a2 (m + 1) (by omega) (by omega) 1 (by decide), a2 (m + 1) (by omega) (by omega) 2 (by decide)]
      obtain ⟨σ2, e2, o2, l2, n2, x, y, u⟩ := layCue_ok (σ := σ1) (k := m) (by omega) (nI (W 0 (m + 1))) (nI (W 1 (m + 1))) (nI (W 2 (m + 1)))
      rw [e2, bnd_s]
      refine Ret_nm (Ret_some ⟨σ2, ?_, by omega, o1.one o2, (l2 940 (by decide)).trans z1, fun q hq => (l2 q (by omega)).trans (l1 q hq), ?_, ?_⟩)
      · rfl
      · intro i hi c hc
        by_cases e : i = m
        · subst e
          unfold outW
          rw [if_neg (by omega)]
          have : c = 0 ∨ c = 1 ∨ c = 2 := by omega
          rcases this with w | w | w <;> subst w
          · exact x
          · exact y
          · exact u
        · rw [n2 i c hc e]
          exact a1 i (by omega) c hc
      · intro i hi hi2 c hc
        rw [n2 i c hc (by omega)]
        exact a2 i (by omega) hi2 c hc
    · rintro σ1 ⟨am, o1, z1, l1, a1, a2⟩
      unfold f_X9_takeOut_B14
      dsimp only
      rw [PM0, AM0, show ckI 940 1121 = true from rfl, chk_t, show ix 940 = 940 from rfl, if_pos (c := σ1 106 940 ≤ nI (N - 1)) (by rw [z1]; exact Int32.le_refl _)]
      exact Ret_some ⟨z1, a1, o1, l1⟩
    · intro i hi c hc
      rw [gst_n2 (by omega)]
      unfold outW
      rw [if_pos hi]
      exact h i (by omega) c hc
    · intro i hi hi2 c hc
      rw [gst_n2 (by omega)]
      exact h i (by omega) c hc
  exact key
