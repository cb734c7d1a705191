/-! clearing and beginning -/
theorem z_row {b r L n : Nat} {l : List (Nat × Nat × Nat)} {σ : Mem} (hr : r < 24) (h1 : alen (b + r) = L) (hL : L < 1000) (hn : 1000 < n) : f_X8_clear n (Zf b l σ) (b + r) = some (Zf b ((r, 0, L) :: l) σ) := by
  have key : Ret (f_X8_clear n (Zf b l σ) (b + r)) (fun s => s = Zf b ((r, 0, L) :: l) σ) := by
    unfold f_X8_clear f_X8_clear_L2
    refine Ret_for L (fun i s => s = gput (Zf b l σ) (b + r) (fun j => if j < i then 0 else Zf b l σ (b + r) j)) ?_ ?_ (i := 0) (Nat.zero_le _) (by omega) ?_
    · intro i s hi hs
      subst hs
      unfold f_X8_clear_B2
      dsimp only
      rw [h1, show Int32.ofNat L = nI L from rfl, if_neg (c := nI L ≤ nI i) (by rw [le_i, nI_toInt (by omega), nI_toInt (by omega)]; omega), ckI_nI hi (by omega), chk_t, ix_nI (by omega)]
      refine Ret_nm (Ret_nm (Ret_some ⟨_, by rw [show (1 : Int32) = nI 1 from rfl, nI_add], ?_⟩))
      funext a j
      rw [gst_at]
      by_cases e : a = b + r
      · subst e
        rw [gput_s, gput_s]
        by_cases q : j = i
        · rw [if_pos ⟨rfl, q⟩, if_pos (by omega)]
        · rw [if_neg (fun w => q w.2)]
          by_cases q2 : j < i
          · rw [if_pos q2, if_pos (by omega)]
          · rw [if_neg q2, if_neg (by omega)]
      · rw [if_neg (fun w => e w.1), gput_n e, gput_n e]
    · intro s hs
      subst hs
      unfold f_X8_clear_B2
      dsimp only
      rw [h1, show Int32.ofNat L = nI L from rfl, if_pos (c := nI L ≤ nI L) (Int32.le_refl _)]
      refine Ret_some ?_
      funext a j
      by_cases e : a = b + r
      · subst e
        rw [gput_s]
        unfold Zf
        rw [cov_c, show b + r - b = r by omega]
        by_cases q : j < L
        · rw [if_pos q, if_pos ⟨by omega, by omega, by simp; omega⟩]
        · rw [if_neg q]
          have : decide (r = r ∧ 0 ≤ j ∧ j < L) = false := by simp; omega
          rw [this, Bool.false_or]
      · rw [gput_n e]
        unfold Zf
        rw [cov_c]
        by_cases z : b ≤ a ∧ a < b + 24
        · have : decide (r = a - b ∧ 0 ≤ j ∧ j < L) = false := by simp; omega
          rw [this, Bool.false_or]
        · rw [if_neg (fun q => z ⟨q.1, q.2.1⟩), if_neg (fun q => z ⟨q.1, q.2.1⟩)]
    · funext a j
      by_cases e : a = b + r
      · subst e
        rw [gput_s, if_neg (by omega)]
      · rw [gput_n e]
  obtain ⟨s, e, rfl⟩ := key
  exact e
def zL : List (Nat × Nat × Nat) := [(0, 6, 7), (0, 5, 6), (19, 3, 4), (19, 2, 3), (19, 1, 2), (18, 0, 3), (17, 0, 3), (16, 0, 3), (12, 0, 612), (11, 0, 12), (10, 0, 12), (9, 0, 12), (8, 0, 12), (7, 0, 12), (6, 0, 12)]
theorem z_sca0 {b f : Nat} {l : List (Nat × Nat × Nat)} {σ : Mem} : gst (Zf b l σ) b f 0 = Zf b ((0, f, f + 1) :: l) σ := z_sca (r := 0) (by decide)
theorem goBack_ok {b n : Nat} (hb : SB b) (hn : 1000 < n) {σ : Mem} : f_X5_goBack n σ b = some (Zf b zL σ) := by
  have e0 := Zf_0 b σ
  unfold f_X5_goBack f_X1_goBack f_X3_goBack f_X7_goBack
  rw [P0_1 hb, P0_2 hb, P0_3 hb, P3_1 hb, P3_2 hb, P3_3 hb, P3_4 hb, P3_5 hb, P3_6 hb, P3_7 hb, P13_1 hb, P13_2 hb, P13_3 hb]
  simp only [nm]
  rw [← e0, z_row (by decide) (A6 hb) (by decide) hn, bnd_s]
  rw [z_row (by decide) (A7 hb) (by decide) hn, bnd_s]
  rw [z_row (by decide) (A8 hb) (by decide) hn, bnd_s]
  rw [z_row (by decide) (A9 hb) (by decide) hn, bnd_s]
  rw [z_row (by decide) (A10 hb) (by decide) hn, bnd_s]
  rw [z_row (by decide) (A11 hb) (by decide) hn, bnd_s]
  rw [z_row (by decide) (A12 hb) (by decide) hn, bnd_s, bnd_s]
  rw [z_row (by decide) (A16 hb) (by decide) hn, bnd_s]
  rw [z_row (by decide) (A17 hb) (by decide) hn, bnd_s]
  rw [z_row (by decide) (A18 hb) (by decide) hn, bnd_s, bnd_s]
  rw [z_sca (by decide), z_sca (by decide), z_sca (by decide), bnd_s, z_sca0, z_sca0, e0]
  rfl
theorem Zf_R {b r : Nat} {l : List (Nat × Nat × Nat)} {σ : Mem} (h : ∀ e ∈ l, e.1 ≠ r) : Zf b l σ (b + r) = σ (b + r) := by
  funext j
  exact Zf_F (fun e he q => h e he q.1)
def rewV (V : Sh) : Sh := fun r i => if (6 ≤ r ∧ r < 12) ∨ (14 ≤ r ∧ r < 17) ∨ (r = 18 ∧ (i = 1 ∨ i = 2 ∨ i = 3 ∨ i = 4 ∨ i = 6)) then 0 else V r i
theorem rew_0 {V : Sh} {r i : Nat} (h : (6 ≤ r ∧ r < 12) ∨ (14 ≤ r ∧ r < 17) ∨ (r = 18 ∧ (i = 1 ∨ i = 2 ∨ i = 3 ∨ i = 4 ∨ i = 6))) : rewV V r i = 0 := if_pos h
theorem rew_n {V : Sh} {r i : Nat} (h : ¬ ((6 ≤ r ∧ r < 12) ∨ (14 ≤ r ∧ r < 17) ∨ (r = 18 ∧ (i = 1 ∨ i = 2 ∨ i = 3 ∨ i = 4 ∨ i = 6)))) : rewV V r i = V r i := if_neg h
/-- what stays of a show when it goes back -/
def Rst (b : Nat) (V : Sh) (σ : Mem) : Prop := (∀ i, i < V 18 5 → ∀ j, j < 6 → σ (b + 5) (6 * i + j) = nI (V j i)) ∧ (∀ p, p < 3 → ∀ j, j < 2 → σ (b + 15) (2 * p + j) = nI (V (12 + j) p)) ∧ (∀ j, j < 6 → σ (b + 2) j = nI (V 17 j)) ∧ σ (b + 19) 0 = nI (V 18 0) ∧ σ (b + 3) 8 = nI (V 18 5) ∧ σ (b + 20) 3 = nI (V 18 7) ∧ σ (b + 3) 9 = nI (V 18 8) ∧ RcC b V σ
theorem rst_rc {b : Nat} {V : Sh} {σ : Mem} (h : Rc b V σ) : Rst b V σ := by
  obtain ⟨h1, h2, ⟨a0, a1, -, -, -, -, a6, -, a8, a9⟩, h4, -⟩ := h
  exact ⟨fun i hi => (h1 i hi).1, fun p hp => (h2 p hp).1, a0, a1, a6, a8, a9, h4⟩
theorem rc_rew {b : Nat} {V : Sh} {σ : Mem} (hM : V 18 5 ≤ 12) (h : Rst b V σ) : Rc b (rewV V) (Zf b zL σ) := by
  obtain ⟨h1, h2, h3, h4, h5, h6, h7, h8⟩ := h
  have e5 : rewV V 18 5 = V 18 5 := rew_n (by omega)
  have e4 : rewV V 18 4 = 0 := rew_0 (by omega)
  have e7 : rewV V 18 7 = V 18 7 := rew_n (by omega)
  refine ⟨?_, ?_, ?_, ?_, ?_⟩
  · intro i hi
    rw [e5] at hi
    refine ⟨fun j hj => ?_, ?_, ?_, ?_, ?_, ?_, ?_⟩
    · rw [rew_n (by omega), Zf_R (by decide)]
      exact h1 i hi j hj
    all_goals
      rw [rew_0 (by omega), Zf_T (lo := 0) (hi := 12) (by decide) (by decide) (by omega) (by omega)]
      rfl
  · intro p hp
    refine ⟨fun j hj => ?_, ?_, ?_, ?_⟩
    · rw [rew_n (by omega), Zf_R (by decide)]
      exact h2 p hp j hj
    all_goals
      rw [rew_0 (by omega), Zf_T (lo := 0) (hi := 3) (by decide) (by decide) (by omega) (by omega)]
      rfl
  · refine ⟨fun j hj => ?_, ?_, ?_, ?_, ?_, ?_, ?_, ?_, ?_, ?_⟩
    · rw [rew_n (by omega), Zf_R (by decide)]
      exact h3 j hj
    · rw [rew_n (by omega), Zf_F (by decide)]; exact h4
    · rw [rew_0 (by omega), Zf_T (lo := 1) (hi := 2) (by decide) (by decide) (by omega) (by omega)]; rfl
    · rw [rew_0 (by omega), Zf_T (lo := 2) (hi := 3) (by decide) (by decide) (by omega) (by omega)]; rfl
    · rw [rew_0 (by omega), Zf_T (lo := 3) (hi := 4) (by decide) (by decide) (by omega) (by omega)]; rfl
    · rw [rew_0 (by omega)]
      exact Zf_T (r := 0) (lo := 5) (hi := 6) (by decide) (by decide) (by omega) (by omega)
    · rw [rew_n (by omega), Zf_F (by decide)]; exact h5
    · rw [rew_0 (by omega)]
      exact Zf_T (r := 0) (lo := 6) (hi := 7) (by decide) (by decide) (by omega) (by omega)
    · rw [rew_n (by omega), Zf_F (by decide)]; exact h6
    · rw [rew_n (by omega), Zf_F (by decide)]; exact h7
  · intro k hk
    rw [e7] at hk
    rw [rew_n (by omega), rew_n (by omega), rew_n (by omega), Zf_R (by decide), Zf_R (by decide), Zf_R (by decide)]
    exact h8 k hk
  · intro i t hi q1 q2
    rw [e4] at q1
    omega
theorem vok_rew {V : Sh} (hN : ∀ i, i < V 18 5 → (1 ≤ V 0 i ∧ V 0 i ≤ 100) ∧ (1 ≤ V 1 i ∧ V 1 i ≤ 5000) ∧ V 2 i ≤ 50 ∧ (1 ≤ V 3 i ∧ V 3 i ≤ 1000) ∧ V 4 i ≤ 2 ∧ V 5 i ≤ 100) (hP : ∀ p, p < 3 → V 12 p ≤ 2000 ∧ (1 ≤ V 13 p ∧ V 13 p ≤ 500)) (hS : (1 ≤ V 17 0 ∧ V 17 0 ≤ 64) ∧ V 17 1 ≤ 300 ∧ V 17 2 ≤ 300 ∧ V 17 3 ≤ 1000 ∧ V 17 4 ≤ 600 ∧ V 17 5 ≤ 5000 ∧ V 18 0 ≤ 300 ∧ (1 ≤ V 18 5 ∧ V 18 5 ≤ 12) ∧ V 18 7 ≤ 60 ∧ V 18 8 ≤ 1000) (hC : VokC V) : Vok (rewV V) := by
  have e5 : rewV V 18 5 = V 18 5 := rew_n (by omega)
  have e4 : rewV V 18 4 = 0 := rew_0 (by omega)
  have e7 : rewV V 18 7 = V 18 7 := rew_n (by omega)
  refine ⟨?_, ?_, ?_, ?_, ?_⟩
  · intro i hi
    rw [e5] at hi
    have := hN i hi
    rw [rew_n (r := 0) (by omega), rew_n (r := 1) (by omega), rew_n (r := 2) (by omega), rew_n (r := 3) (by omega), rew_n (r := 4) (by omega), rew_n (r := 5) (by omega), rew_0 (r := 6) (by omega), rew_0 (r := 7) (by omega), rew_0 (r := 8) (by omega), rew_0 (r := 9) (by omega), rew_0 (r := 10) (by omega), rew_0 (r := 11) (by omega)]
    omega
  · intro p hp
    have := hP p hp
    rw [rew_n (r := 12) (by omega), rew_n (r := 13) (by omega), rew_0 (r := 14) (by omega), rew_0 (r := 15) (by omega), rew_0 (r := 16) (by omega)]
    omega
  · unfold VokS
    rw [e5, e4, e7, rew_n (r := 17) (i := 0) (by omega), rew_n (r := 17) (i := 1) (by omega), rew_n (r := 17) (i := 2) (by omega), rew_n (r := 17) (i := 3) (by omega), rew_n (r := 17) (i := 4) (by omega), rew_n (r := 17) (i := 5) (by omega), rew_n (r := 18) (i := 0) (by omega), rew_0 (r := 18) (i := 1) (by omega), rew_0 (r := 18) (i := 2) (by omega), rew_0 (r := 18) (i := 3) (by omega), rew_0 (r := 18) (i := 6) (by omega), rew_n (r := 18) (i := 8) (by omega)]
    omega
  · obtain ⟨c1, c2⟩ := hC
    refine ⟨?_, ?_⟩
    · intro k hk
      rw [e7] at hk
      rw [rew_n (by omega), rew_n (by omega), rew_n (by omega)]
      exact c1 k hk
    · intro k hk
      rw [e7] at hk
      rw [rew_n (by omega), rew_n (by omega)]
      exact c2 k hk
  · intro t i ht
    rw [e4] at ht
    omega
/-! initial settings -/
theorem reset_ok {σ : Mem} {k th L d N src n : Nat} (h3 : σ k 3 = nI th) (h2 : ptr k 2 = src) (h2l : alen src = L) (h4 : ptr k 4 = d) (h4l : alen d = N) (hN : th * L = N) (hN2 : N < 2 ^ 20) (hL : 0 < L) (hL2 : L < 2 ^ 20) (hn : 1000 < n) (hth : th < 1000) (hs : src ≠ d) (hk : k ≠ d) : f_X4_reset n σ k = some (gput σ d (fun j => if j < N then σ src (j % L) else σ d j)) := by
  have key : Ret (f_X4_reset n σ k) (fun s => s = gput σ d (fun j => if j < N then σ src (j % L) else σ d j)) := by
    unfold f_X4_reset f_X4_reset_L2
    refine Ret_for th (fun i s => s = gput σ d (fun j => if j < i * L then σ src (j % L) else σ d j)) ?_ ?_ (i := 0) (Nat.zero_le _) (by omega) ?_
    · intro i s hi hs'
      have hm : (i + 1) * L ≤ th * L := Nat.mul_le_mul hi (Nat.le_refl _)
      rw [hN, Nat.succ_mul] at hm
      have hk3 : s k 3 = nI th := by rw [hs', gput_n hk, h3]
      unfold f_X4_reset_B2
      dsimp only
      rw [if_neg (c := s k 3 ≤ nI i) (by rw [hk3, le_i, nI_toInt (by omega), nI_toInt (by omega)]; omega)]
      subst hs'
      rw [h2, h2l, h4, h4l, show Int32.ofNat L = nI L from rfl, nI_mul, show (0 : Int32) = nI 0 from rfl, ckC_nI (by omega) hm (by omega) (by omega), chk_t, ix_nI (by omega), ix_nI (by omega), ix_nI (by omega)]
      refine Ret_nm (Ret_nm (Ret_some ⟨_, by rw [show (1 : Int32) = nI 1 from rfl, nI_add], ?_⟩))
      funext a j
      by_cases e : a = d
      · subst e
        rw [gput_s, gput_s, gput_s, gput_n hs]
        unfold va_cpy
        rw [Nat.succ_mul]
        by_cases q : i * L ≤ j ∧ j < i * L + L
        · rw [if_pos q, if_pos q.2]
          have : (j - i * L + L * i) % L = (j - i * L) % L := Nat.add_mul_mod_self_left _ _ _
          rw [Nat.mod_eq_of_lt (a := j - i * L) (by omega), Nat.mul_comm L i, Nat.sub_add_cancel q.1] at this
          rw [this, Nat.zero_add]
        · rw [if_neg q]
          dsimp only
          by_cases q2 : j < i * L
          · rw [if_pos q2, if_pos (by omega)]
          · rw [if_neg q2, if_neg (by omega)]
      · rw [gput_n e, gput_n e, gput_n e]
    · intro s hs'
      have hk3 : s k 3 = nI th := by rw [hs', gput_n hk, h3]
      unfold f_X4_reset_B2
      dsimp only
      rw [if_pos (c := s k 3 ≤ nI th) (by rw [hk3]; exact Int32.le_refl _)]
      subst hs'
      rw [hN]
      exact Ret_some rfl
    · funext a j
      by_cases e : a = d
      · subst e
        rw [gput_s, Nat.zero_mul, if_neg (by omega)]
      · rw [gput_n e]
  obtain ⟨s, e, rfl⟩ := key
  exact e
def iniV (c G : Nat) : Sh := fun r i => if r < 6 then inN r else if r = 12 ∨ r = 13 then inP (r - 12) else if r = 17 then inS i else if r = 18 then (if i = 5 then c else if i = 8 then G else 0) else 0
theorem rew_ini (c G : Nat) : rewV (iniV c G) = iniV c G := by
  funext r i
  unfold rewV
  split
  · rename_i h
    unfold iniV
    rcases h with h | h | ⟨h, h2⟩
    · rw [if_neg (by omega), if_neg (by omega), if_neg (by omega), if_neg (by omega)]
    · rw [if_neg (by omega), if_neg (by omega), if_neg (by omega), if_neg (by omega)]
    · rw [if_neg (by omega), if_neg (by omega), if_neg (by omega), if_pos h, if_neg (by omega), if_neg (by omega)]
  · rfl
theorem vok_ini {c G : Nat} (hc : 1 ≤ c ∧ c ≤ 12) (hG : G ≤ 1000) : Vok (iniV c G) := by
  rw [← rew_ini]
  refine vok_rew ?_ ?_ ?_ ?_
  · intro i _
    show (1 ≤ 10 ∧ 10 ≤ 100) ∧ (1 ≤ 1000 ∧ 1000 ≤ 5000) ∧ 3 ≤ 50 ∧ (1 ≤ 200 ∧ 200 ≤ 1000) ∧ 0 ≤ 2 ∧ 10 ≤ 100
    omega
  · intro p _
    show 100 ≤ 2000 ∧ (1 ≤ 20 ∧ 20 ≤ 500)
    omega
  · show (1 ≤ 4 ∧ 4 ≤ 64) ∧ 80 ≤ 300 ∧ 150 ≤ 300 ∧ 500 ≤ 1000 ∧ 30 ≤ 600 ∧ 200 ≤ 5000 ∧ 0 ≤ 300 ∧ (1 ≤ c ∧ c ≤ 12) ∧ 0 ≤ 60 ∧ G ≤ 1000
    omega
  · refine ⟨fun k hk => ?_, fun k hk => ?_⟩
    · have : k < 0 := hk
      omega
    · have : k + 1 < 0 := hk
      omega
theorem begin_ok {b n c G : Nat} (hb : SB b) (hn : 1000 < n) {σ : Mem} (ht : Th σ) (hs : St σ) (hc : c ≤ 12) (hg : σ (b + 3) 9 = nI G) : Ret (f_X5_begin n σ b (nI c)) (fun σ' => Rc b (iniV c G) σ' ∧ Fr b σ σ') := by
  obtain ⟨t1, t2, t3⟩ := ht b hb
  have hb24 : b + 24 ≤ 100 := by rcases hb with q | q | q | q <;> omega
  unfold f_X5_begin f_X1_begin
  rw [P0_0 hb, P0_1 hb, P0_2 hb, P0_3 hb, P0_4 hb, P3_0 hb, P13_0 hb]
  rw [reset_ok (L := 6) (N := 6) (th := 1) (src := 120) (d := b + 2) t1 (P1_2 hb) rfl (P1_4 hb) (A2 hb) rfl (by decide) (by decide) (by decide) hn (by decide) (by omega) (by omega), bnd_s]
  simp only [nm]
  have g1 : σ 114 = (gst (gput σ (b + 2) (fun j => if j < 6 then σ 120 (j % 6) else σ (b + 2) j)) (b + 3) 8 (nI c)) 114 := by rw [gst_row (by omega), gput_n (by omega)]
  rw [reset_ok (L := 6) (N := 72) (th := 12) (src := 114) (d := b + 5) (by rw [gst_row (by omega), gput_n (by omega)]; exact t2) (P4_2 hb) rfl (P4_4 hb) (A5 hb) rfl (by decide) (by decide) (by decide) hn (by decide) (by omega) (by omega), bnd_s, bnd_s]
  rw [reset_ok (L := 2) (N := 6) (th := 3) (src := 117) (d := b + 15) (by rw [gput_n (by omega), gst_row (by omega), gput_n (by omega)]; exact t3) (P14_2 hb) rfl (P14_4 hb) (A15 hb) rfl (by decide) (by decide) (by decide) hn (by decide) (by omega) (by omega), bnd_s]
  rw [goBack_ok hb hn, bnd_s]
  refine Ret_some ⟨?_, ?_⟩
  · rw [← rew_ini]
    refine rc_rew (by exact hc) ⟨?_, ?_, ?_, ?_, ?_, ?_, ?_, ?_⟩
    · intro i hi j hj
      have hi : i < c := hi
      rw [gst_row (by omega), gst_row (by omega), gput_n (by omega), gput_s, if_pos (by omega), gst_row (by omega), gput_n (by omega), Nat.mul_add_mod, Nat.mod_eq_of_lt hj]
      rw [(hs.1 j hj).2.2]
      unfold iniV
      rw [if_pos hj]
    · intro p hp j hj
      rw [gst_row (by omega), gst_row (by omega), gput_s, if_pos (by omega), gput_n (by omega), gst_row (by omega), gput_n (by omega), Nat.mul_add_mod, Nat.mod_eq_of_lt hj]
      rw [(hs.2.1 j hj).2.2]
      unfold iniV
      rw [if_neg (by omega), if_pos (by omega), show 12 + j - 12 = j by omega]
    · intro j hj
      rw [gst_row (by omega), gst_row (by omega), gput_n (by omega), gput_n (by omega), gst_row (by omega), gput_s, if_pos hj, Nat.mod_eq_of_lt hj]
      rw [(hs.2.2 j hj).2.2]
      rfl
    · rw [gst_row (by omega), gst_s2]
      rfl
    · rw [gst_row (by omega), gst_row (by omega), gput_n (by omega), gput_n (by omega), gst_s2]
      rfl
    · rw [gst_s2]
      rfl
    · rw [gst_row (by omega), gst_row (by omega), gput_n (by omega), gput_n (by omega), gst_n2 (by decide), gput_n (by omega), hg]
      rfl
    · intro k hk
      have : k < 0 := hk
      omega
  · refine Fr.tr ?_ (fr_z (by decide))
    refine ⟨fun a ha => ?_, ?_, ?_, ?_⟩
    all_goals rw [gst_row (by omega), gst_row (by omega), gput_n (by omega), gput_n (by omega), gst_row (by omega), gput_n (by omega)]

