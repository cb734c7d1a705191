/-! THE CLASS ALONE: the live show V; what the slots hold -/
def SlK (s b : Nat) (W : Option Sh) (σ : Mem) : Prop := match W with
  | none => σ s 1 = 0
  | some W => σ s 1 = 1 ∧ Vok W ∧ W 18 4 ≤ 200000 ∧ Rc b W σ
def Lv (V : Sh) (A B : Option Sh) (σ : Mem) : Prop := (Vok V ∧ V 18 4 ≤ 200000 ∧ Rc 1 V σ) ∧ Th σ ∧ St σ ∧ σ 99 2 = 0 ∧ SlK 49 50 A σ ∧ SlK 74 75 B σ ∧ Gg σ
theorem SlK_same {s b : Nat} {W : Option Sh} {σ σ' : Mem} (h : SlK s b W σ) (h1 : σ' s = σ s) (h4 : ∀ a, b ≤ a → a < b + 24 → σ' a = σ a) : SlK s b W σ' := by
  cases W with
  | none => show σ' s 1 = 0; rw [h1]; exact h
  | some W =>
    obtain ⟨a1, a2, a3, a4⟩ := h
    exact ⟨by rw [h1]; exact a1, a2, a3, Rc_same a4 h4⟩
theorem sb_lt {b : Nat} (h : SB b) : b + 24 ≤ 99 := by rcases h with q | q | q | q <;> omega
/-- the law's own rows don't matter -/
theorem Lv_same {V : Sh} {A B : Option Sh} {σ σ' : Mem} (h : Lv V A B σ) (e : ∀ a, a < 105 ∨ 112 ≤ a → σ' a = σ a) : Lv V A B σ' := by
  obtain ⟨⟨v1, v2, v3⟩, t, s, p, s1, s2, g⟩ := h
  refine ⟨⟨v1, v2, Rc_same v3 (fun a _ _ => e a (by omega))⟩, ?_, St_same s (fun a _ _ => e a (by omega)), by rw [e 99 (by omega)]; exact p, SlK_same s1 (e _ (by omega)) (fun a _ _ => e a (by omega)), SlK_same s2 (e _ (by omega)) (fun a _ _ => e a (by omega)), Gg_same g (fun b hb _ => e _ (by have := sb_lt hb; omega))⟩
  intro b hb
  have := sb_lt hb
  rw [e (b + 1) (by omega), e (b + 4) (by omega), e (b + 14) (by omega)]
  exact t b hb
theorem Lv_gst {V : Sh} {A B : Option Sh} {σ : Mem} {k j : Nat} {v : Int32} (h : Lv V A B σ) (hk : 105 ≤ k ∧ k < 112) : Lv V A B (gst σ k j v) := Lv_same h (fun a ha => gst_row (by omega))
theorem Lv_gput {V : Sh} {A B : Option Sh} {σ : Mem} {k : Nat} {f : Nat → Int32} (h : Lv V A B σ) (hk : 105 ≤ k ∧ k < 112) : Lv V A B (gput σ k f) := Lv_same h (fun a ha => gput_n (by omega))
/-- the live show is another, the rest as it was -/
theorem Lv_next {V V' : Sh} {A B : Option Sh} {σ σ1 : Mem} (h : Lv V A B σ) (hf : Fr 1 σ σ1) (hV : Vok V') (hT : V' 18 4 ≤ 200000) (hc : Rc 1 V' σ1) : Lv V' A B σ1 := by
  obtain ⟨-, t, s, p, s1, s2, g⟩ := h
  have e : ∀ a, ¬ (1 ≤ a ∧ a < 25) → σ1 a = σ a := fun a h1 => hf.1 a (by omega)
  exact ⟨⟨hV, hT, hc⟩, Th_fr t SB1 hf, St_same s (fun a _ _ => e a (by omega)), by rw [e 99 (by omega)]; exact p, SlK_same s1 (e _ (by omega)) (fun a _ _ => e a (by omega)), SlK_same s2 (e _ (by omega)) (fun a _ _ => e a (by omega)), Gg_same g (fun b hb hn => e (b + 3) (by rcases hb with q | q | q | q <;> omega))⟩
/-- a trial -/
theorem Lv_trial {V : Sh} {A B : Option Sh} {σ σ1 : Mem} {G : Nat} (h : Lv V A B σ) (hf : Fr 25 σ σ1) (hG : G ≤ 1000) (hg : σ1 28 9 = nI G) : Lv V A B σ1 := by
  obtain ⟨⟨v1, v2, v3⟩, t, s, p, s1, s2, g⟩ := h
  have e : ∀ a, ¬ (25 ≤ a ∧ a < 49) → σ1 a = σ a := fun a h1 => hf.1 a (by omega)
  refine ⟨⟨v1, v2, Rc_same v3 (fun a _ _ => e a (by omega))⟩, Th_fr t SB25 hf, St_same s (fun a _ _ => e a (by omega)), by rw [e 99 (by omega)]; exact p, SlK_same s1 (e _ (by omega)) (fun a _ _ => e a (by omega)), SlK_same s2 (e _ (by omega)) (fun a _ _ => e a (by omega)), ?_⟩
  intro b hb hn
  by_cases q : b = 25
  · subst q
    exact ⟨G, hG, hg⟩
  · rw [e (b + 3) (by rcases hb with w | w | w | w <;> omega)]
    exact g b hb hn
section LvR
variable {V : Sh} {A B : Option Sh} {σ : Mem}
theorem Lv.vs (h : Lv V A B σ) : VokS V := h.1.1.2.2.1
/-! reads -/
theorem o_sp (h : Lv V A B σ) {i : Nat} (hi : i < V 18 5) : f_X8_spray σ 0 (nI i) 0 = some (nI (V 0 i)) ∧ f_X8_spray σ 0 (nI i) 1 = some (nI (V 1 i)) ∧ f_X8_spray σ 0 (nI i) 2 = some (nI (V 2 i)) ∧ f_X8_spray σ 0 (nI i) 3 = some (nI (V 3 i)) ∧ f_X8_spray σ 0 (nI i) 4 = some (nI (V 4 i)) ∧ f_X8_spray σ 0 (nI i) 5 = some (nI (V 5 i)) ∧ f_X8_spray σ 0 (nI i) 6 = some (nI (V 6 i)) ∧ f_X8_spray σ 0 (nI i) 7 = some (nI (V 7 i)) ∧ f_X8_spray σ 0 (nI i) 8 = some (nI (V 8 i)) ∧ f_X8_spray σ 0 (nI i) 9 = some (nI (V 9 i)) ∧ f_X8_spray σ 0 (nI i) 10 = some (nI (V 10 i)) ∧ f_X8_spray σ 0 (nI i) 11 = some (nI (V 11 i)) := by
  obtain ⟨⟨hV, hT, hc⟩, ht, hs, -⟩ := h
  have hS := hV.2.2.1
  unfold VokS at hS
  have c5 := hc.2.2.1.2.2.2.2.2.2.1
  have c := m_of (m := V 18 5) (by omega) hi
  obtain ⟨a0, a6, a7, a8, a9, a10, a11⟩ := hc.1 i hi
  have lo : ∀ j, j < 6 → f_X8_spray σ 0 (nI i) (nI j) = some (nI (V j i)) := by
    intro j w
    unfold f_X8_spray
    rw [p00, P0_1 SB1, P3_0 SB1, hasN_c c5, bnd_s, if_pos c, if10, if_neg (c := nI j = 6) (ne_nI (m := 6) (by omega) (by decide)), if_neg (c := nI j = 7) (ne_nI (m := 7) (by omega) (by decide)), if_neg (c := nI j = 8) (ne_nI (m := 8) (by omega) (by decide)), if_neg (c := nI j = 9) (ne_nI (m := 9) (by omega) (by decide)), if_neg (c := nI j = 10) (ne_nI (m := 10) (by omega) (by decide)), if_neg (c := nI j = 11) (ne_nI (m := 11) (by omega) (by decide)), in_X8, bnd_s, if_pos (c := 0 ≤ nI j ∧ nI j ≤ 5) (m_of (m := 6) (by decide) w), if10, val_noz SB1 (by omega) w, bnd_s, a0 j w]
  refine ⟨lo 0 (by decide), lo 1 (by decide), lo 2 (by decide), lo 3 (by decide), lo 4 (by decide), lo 5 (by decide), ?_, ?_, ?_, ?_, ?_, ?_⟩
  · unfold f_X8_spray
    rw [p00, P0_1 SB1, P3_1 SB1, A6 SB1, hasN_c c5, bnd_s, if_pos c, if10, if_pos (by decide), ckI_nI (by omega) (by decide), ix_nI (by omega), chk_t, a6]
  · unfold f_X8_spray
    rw [p00, P0_1 SB1, P3_2 SB1, A7 SB1, hasN_c c5, bnd_s, if_pos c, if10, if_neg (by decide), if_pos (by decide), ckI_nI (by omega) (by decide), ix_nI (by omega), chk_t, a7]
  · unfold f_X8_spray
    rw [p00, P0_1 SB1, P3_3 SB1, A8 SB1, hasN_c c5, bnd_s, if_pos c, if10, if_neg (by decide), if_neg (by decide), if_pos (by decide), ckI_nI (by omega) (by decide), ix_nI (by omega), chk_t, a8]
  · unfold f_X8_spray
    rw [p00, P0_1 SB1, P3_4 SB1, A9 SB1, hasN_c c5, bnd_s, if_pos c, if10, if_neg (by decide), if_neg (by decide), if_neg (by decide), if_pos (by decide), ckI_nI (by omega) (by decide), ix_nI (by omega), chk_t, a9]
  · unfold f_X8_spray
    rw [p00, P0_1 SB1, P3_5 SB1, A10 SB1, hasN_c c5, bnd_s, if_pos c, if10, if_neg (by decide), if_neg (by decide), if_neg (by decide), if_neg (by decide), if_pos (by decide), ckI_nI (by omega) (by decide), ix_nI (by omega), chk_t, a10]
  · unfold f_X8_spray
    rw [p00, P0_1 SB1, P3_6 SB1, A11 SB1, hasN_c c5, bnd_s, if_pos c, if10, if_neg (by decide), if_neg (by decide), if_neg (by decide), if_neg (by decide), if_neg (by decide), if_pos (by decide), ckI_nI (by omega) (by decide), ix_nI (by omega), chk_t, a11]
theorem o_pr (h : Lv V A B σ) {i : Nat} (hi : i < 3) : f_X8_pressure σ 0 (nI i) 0 = some (nI (V 12 i)) ∧ f_X8_pressure σ 0 (nI i) 1 = some (nI (V 13 i)) ∧ f_X8_pressure σ 0 (nI i) 2 = some (nI (V 14 i)) ∧ f_X8_pressure σ 0 (nI i) 3 = some (nI (V 15 i)) ∧ f_X8_pressure σ 0 (nI i) 4 = some (nI (V 16 i)) := by
  obtain ⟨⟨hV, hT, hc⟩, ht, hs, -⟩ := h
  have c : (0 : Int32) ≤ nI i ∧ nI i ≤ 2 := m_of (m := 3) (by decide) hi
  obtain ⟨a0, a6, a7, a8⟩ := hc.2.1 i (by omega)
  have lo : ∀ j, j < 2 → f_X8_pressure σ 0 (nI i) (nI j) = some (nI (V (12 + j) i)) := by
    intro j w
    unfold f_X8_pressure
    rw [p00, P0_2 SB1, P13_0 SB1, in_X8, bnd_s, if_pos c, if10, if_neg (c := nI j = 2) (ne_nI (m := 2) (by omega) (by decide)), if_neg (c := nI j = 3) (ne_nI (m := 3) (by omega) (by decide)), if_neg (c := nI j = 4) (ne_nI (m := 4) (by omega) (by decide)), in_X8, bnd_s, if_pos (c := 0 ≤ nI j ∧ nI j ≤ 1) (m_of (m := 2) (by decide) w), if10, val_pump SB1 (by omega) w, bnd_s, a0 j w]
  refine ⟨lo 0 (by decide), lo 1 (by decide), ?_, ?_, ?_⟩
  · unfold f_X8_pressure
    rw [p00, P0_2 SB1, P13_1 SB1, A16 SB1, in_X8, bnd_s, if_pos c, if10, if_pos (by decide), ckI_nI (by omega) (by decide), ix_nI (by omega), chk_t, a6]
  · unfold f_X8_pressure
    rw [p00, P0_2 SB1, P13_2 SB1, A17 SB1, in_X8, bnd_s, if_pos c, if10, if_neg (by decide), if_pos (by decide), ckI_nI (by omega) (by decide), ix_nI (by omega), chk_t, a7]
  · unfold f_X8_pressure
    rw [p00, P0_2 SB1, P13_3 SB1, A18 SB1, in_X8, bnd_s, if_pos c, if10, if_neg (by decide), if_neg (by decide), if_pos (by decide), ckI_nI (by omega) (by decide), ix_nI (by omega), chk_t, a8]
theorem o_pt (h : Lv V A B σ) {i : Nat} (hi : i < V 18 7) : f_X8_part σ 0 (nI i) 0 = some (nI (V 19 i)) ∧ f_X8_part σ 0 (nI i) 1 = some (nI (V 20 i)) ∧ f_X8_part σ 0 (nI i) 2 = some (nI (V 21 i)) := by
  obtain ⟨⟨hV, hT, hc⟩, ht, hs, -⟩ := h
  have hS := hV.2.2.1
  unfold VokS at hS
  have c7 := hc.2.2.1.2.2.2.2.2.2.2.2.1
  have c := m_of (m := V 18 7) (by omega) hi
  obtain ⟨a1, a2, a3⟩ := hc.2.2.2.1 i hi
  refine ⟨?_, ?_, ?_⟩
  · unfold f_X8_part
    rw [p00, P0_4 SB1, P20_0 SB1, A21 SB1, hasC_c c7, bnd_s, if_pos c, if10, if_pos (by decide), ckI_nI (by omega) (by decide), ix_nI (by omega), chk_t, a1]
  · unfold f_X8_part
    rw [p00, P0_4 SB1, P20_1 SB1, A22 SB1, hasC_c c7, bnd_s, if_pos c, if10, if_neg (by decide), if_pos (by decide), ckI_nI (by omega) (by decide), ix_nI (by omega), chk_t, a2]
  · unfold f_X8_part
    rw [p00, P0_4 SB1, P20_2 SB1, A23 SB1, hasC_c c7, bnd_s, if_pos c, if10, if_neg (by decide), if_neg (by decide), if_pos (by decide), ckI_nI (by omega) (by decide), ix_nI (by omega), chk_t, a3]
variable {n : Nat}
theorem o_st (h : Lv V A B σ) : f_X8_state n σ 0 0 = some (nI (V 18 4)) ∧ f_X8_state n σ 0 1 = some (nI (V 18 5)) ∧ f_X8_state n σ 0 2 = some (nI (V 18 7)) ∧ f_X8_state n σ 0 3 = some (nI (V 18 0)) ∧ f_X8_state n σ 0 4 = some (nI (V 18 1 / 1024)) ∧ f_X8_state n σ 0 5 = some (nI (V 18 2)) ∧ f_X8_state n σ 0 6 = some (nI (V 18 3)) ∧ f_X8_state n σ 0 7 = some (nI (V 18 6)) := by
  have hS := h.vs
  unfold VokS at hS
  obtain ⟨⟨hV, hT, hc⟩, ht, hs, -⟩ := h
  obtain ⟨s0, s1, s2, s3, s4, s5, s6, s7, s8, s9⟩ := hc.2.2.1
  refine ⟨?_, ?_, ?_, ?_, ?_, ?_, ?_, ?_⟩ <;> unfold f_X8_state
  · rw [if_pos (by decide), p00, s5]
  · rw [if_neg (by decide), if_pos (by decide), p00, P0_1 SB1, s6]
  · rw [if_neg (by decide), if_neg (by decide), if_pos (by decide), p00, P0_4 SB1, s8]
  · rw [if_neg (by decide), if_neg (by decide), if_neg (by decide), if_pos (by decide), p00, P0_3 SB1, s1]
  · rw [if_neg (by decide), if_neg (by decide), if_neg (by decide), if_neg (by decide), if_pos (by decide), p00, P0_3 SB1]
    unfold f_X7_measured
    rw [s2, bnd_s, show (1024 : Int32) = nI 1024 from rfl, nI_div (by omega) (by decide) (by decide)]
  · rw [if_neg (by decide), if_neg (by decide), if_neg (by decide), if_neg (by decide), if_neg (by decide), if_pos (by decide), p00, P0_3 SB1, s3]
  · rw [if_neg (by decide), if_neg (by decide), if_neg (by decide), if_neg (by decide), if_neg (by decide), if_neg (by decide), if_pos (by decide), p00, P0_3 SB1, s4]
  · rw [if_neg (by decide), if_neg (by decide), if_neg (by decide), if_neg (by decide), if_neg (by decide), if_neg (by decide), if_neg (by decide), if_pos (by decide), p00, s7]
theorem o_ss (h : Lv V A B σ) {j : Nat} (hj : j < 6) : f_X8_state n σ 0 (nI (10 + j)) = some (nI (V 17 j)) := by
  obtain ⟨⟨hV, hT, hc⟩, ht, hs, -⟩ := h
  have s0 := hc.2.2.1.1 j hj
  have z : ∀ m, m < 10 → ¬ nI (10 + j) = nI m := fun m hm e => by have := nI_inj (by omega) (by omega) e; omega
  unfold f_X8_state
  rw [if_neg (c := nI (10 + j) = 0) (z 0 (by decide)), if_neg (c := nI (10 + j) = 1) (z 1 (by decide)), if_neg (c := nI (10 + j) = 2) (z 2 (by decide)), if_neg (c := nI (10 + j) = 3) (z 3 (by decide)), if_neg (c := nI (10 + j) = 4) (z 4 (by decide)), if_neg (c := nI (10 + j) = 5) (z 5 (by decide)), if_neg (c := nI (10 + j) = 6) (z 6 (by decide)), if_neg (c := nI (10 + j) = 7) (z 7 (by decide)), if_neg (c := nI (10 + j) = 8) (z 8 (by decide)), if_neg (c := nI (10 + j) = 9) (z 9 (by decide)), in_X8, bnd_s, if_pos (c := (10 : Int32) ≤ nI (10 + j) ∧ nI (10 + j) ≤ 15) ⟨nI_le (a := 10) (by omega) (by omega), nI_le (b := 15) (by omega) (by decide)⟩, if10, p00, P0_0 SB1, show (10 : Int32) = nI 10 from rfl, nI_sub (by omega), show 10 + j - 10 = j by omega, val_show SB1 hj, bnd_s, s0]
/-- the first cue from t on, or -6 -/
theorem o_s8 (h : Lv V A B σ) (hn : 60 < n) : ∃ j, NextIs (V 18 7) (V 19) (V 18 4) j ∧ f_X8_state n σ 0 8 = some (if j = V 18 7 then -6 else nI j) := by
  have hS := h.vs
  unfold VokS at hS
  obtain ⟨⟨hV, hT, hc⟩, ht, hs, -⟩ := h
  have s5 := hc.2.2.1.2.2.2.2.2.1
  obtain ⟨j, j1, j2⟩ := next_ok (n := n) (t := V 18 4) (CB_b SB1) (rc_cq hc) (by omega) hn (by omega) (wok_V hV).le
  refine ⟨j, j1, ?_⟩
  unfold f_X8_state
  rw [if_neg (by decide), if_neg (by decide), if_neg (by decide), if_neg (by decide), if_neg (by decide), if_neg (by decide), if_neg (by decide), if_neg (by decide), if_pos (by decide), p00, P0_4 SB1, s5, j2, bnd_s]
/-! writes -/
theorem o_noz (h : Lv V A B σ) {i j w : Nat} (hi : i < V 18 5) (hj : j < 6) (w1 : loN j ≤ w) (w2 : w ≤ hiN j) : Ret (f_X8_nozzle σ 0 (nI i) (nI j) (nI w)) (fun q => Lv (vset V j i w) A B q.2) := by
  have hh := h
  have hS := h.vs
  unfold VokS at hS
  obtain ⟨⟨hV, hT, hc⟩, ht, hs, -⟩ := h
  have c5 := hc.2.2.1.2.2.2.2.2.2.1
  unfold f_X8_nozzle
  rw [p00, P0_1 SB1, P3_0 SB1, hasN_c c5, bnd_s, if_pos (m_of (by omega) hi), if10, chN_T SB1 ht hs (by omega) hj w1 w2, bnd2_s]
  exact Ret_some (Lv_next hh (Fr_gst (by omega) (by omega)) (vok_noz hV hj w1 w2) (by rw [vset_r (by omega)]; exact hT) (rc_noz (i := i) (w := w) hc hj))
theorem o_pump (h : Lv V A B σ) {i j w : Nat} (hi : i < 3) (hj : j < 2) (w1 : loP j ≤ w) (w2 : w ≤ hiP j) : Ret (f_X8_pump σ 0 (nI i) (nI j) (nI w)) (fun q => Lv (vset V (12 + j) i w) A B q.2) := by
  have hh := h
  obtain ⟨⟨hV, hT, hc⟩, ht, hs, -⟩ := h
  unfold f_X8_pump
  rw [p00, P0_2 SB1, P13_0 SB1, in_X8, bnd_s, if_pos (c := (0 : Int32) ≤ nI i ∧ nI i ≤ 2) (m_of (m := 3) (by decide) hi), if10, chP_T SB1 ht hs (by omega) hj w1 w2, bnd2_s]
  exact Ret_some (Lv_next hh (Fr_gst (by omega) (by omega)) (vok_pmp hV hj w1 w2) (by rw [vset_r (by omega)]; exact hT) (rc_pmp (i := i) (w := w) hc hj))
theorem o_set (h : Lv V A B σ) {j w : Nat} (hj : j < 6) (w1 : loS j ≤ w) (w2 : w ≤ hiS j) : Ret (f_X8_set σ 0 (nI j) (nI w)) (fun q => q.1 = nI (V 17 j) ∧ Lv (vset V 17 j w) A B q.2) := by
  have hh := h
  obtain ⟨⟨hV, hT, hc⟩, ht, hs, -⟩ := h
  unfold f_X8_set
  rw [p00, P0_0 SB1, chS_T SB1 ht hs hj w1 w2, bnd2_s]
  exact Ret_some ⟨hc.2.2.1.1 j hj, Lv_next hh (Fr_gst (by omega) (by omega)) (vok_set hV hj w1 w2) (by rw [vset_r (by omega)]; exact hT) (rc_set (j := j) (w := w) hc)⟩
theorem o_wind (h : Lv V A B σ) {w : Nat} (hw : w ≤ 300) : Ret (f_X8_wind σ 0 (nI w)) (fun q => q.1 = nI (V 18 0) ∧ Lv (vset V 18 0 w) A B q.2) := by
  have hh := h
  obtain ⟨⟨hV, hT, hc⟩, ht, hs, -⟩ := h
  have e1 : σ (1 + 19) 0 = nI (V 18 0) := hc.2.2.1.2.1
  unfold f_X8_wind
  rw [p00, P0_3 SB1, in_X8, bnd_s, if_pos (c := (0 : Int32) ≤ nI w ∧ nI w ≤ 300) (m_of (m := 301) (by decide) (by omega)), if10]
  exact Ret_nm (Ret_nm (Ret_some ⟨e1, Lv_next hh (Fr_gst (by omega) (by omega)) (vok_wind hV hw) (by rw [vset_n (by decide)]; exact hT) (rc_wind (w := w) hc)⟩))
theorem o_cmd (h : Lv V A B σ) (hn : 60 < n) {s v : Nat} (s1 : 1 ≤ s) (s2 : s ≤ 4095) (hv : v ≤ 1000) : Ret (f_X8_command n σ 0 (nI s) (nI v)) (fun q => q.1 = nI (V 18 4) ∧ Lv (vrow V 6 (obeyV (V 6) s v)) A B q.2) := by
  have hh := h
  have hS := h.vs
  unfold VokS at hS
  obtain ⟨⟨hV, hT, hc⟩, ht, hs, -⟩ := h
  unfold f_X8_command
  rw [p00, P0_1 SB1, in_X8, bnd_s, if_pos (c := (1 : Int32) ≤ nI s ∧ nI s ≤ 4095) ⟨nI_le (a := 1) s1 (by omega), nI_le (b := 4095) s2 (by decide)⟩, if10, in_X8, bnd_s, if_pos (c := (0 : Int32) ≤ nI v ∧ nI v ≤ 1000) (m_of (m := 1001) (by decide) (by omega)), if10]
  obtain ⟨σ1, e1, o1, q1⟩ := obey_ok SB1 (n := n) (s := s) (v := v) (by omega) hS.2.2.2.2.2.2.2.2.2.2.2.1.2 hc.2.2.1.2.2.2.2.2.2.1 s2 (fun i hi => (hc.1 i hi).2.1)
  rw [e1, bnd_s]
  have R1 := rc_row6 hc o1 q1
  refine Ret_some ⟨?_, Lv_next hh (Fr_only o1 (by omega) (by omega)) (vok_row6 hV (fun i hi => ?_)) (by rw [vrow_n (by decide)]; exact hT) R1⟩
  · show σ1 1 5 = _
    rw [show σ1 1 = σ 1 from o1 1 (by decide)]
    exact hc.2.2.1.2.2.2.2.2.1
  · unfold obeyV
    have := (hV.1 i hi).2.2.2.2.2.2.1
    split <;> omega
theorem o_tick (h : Lv V A B σ) (hn : 2000 < n) {e : Nat} (e1 : 1 ≤ e) (e2 : e ≤ 2000) (hT2 : V 18 4 + e ≤ 200000) : Ret (f_X8_tick n σ 0 (nI e)) (fun q => q.1 = nI (V 18 4 + e) ∧ Lv (tkV V e) A B q.2 ∧ Fr 1 σ q.2) := by
  have hh := h
  obtain ⟨⟨hV, hT, hc⟩, ht, hs, -⟩ := h
  have t1 : σ 1 5 = nI (V 18 4) := hc.2.2.1.2.2.2.2.2.1
  unfold f_X8_tick
  rw [p00, in_X8, bnd_s, if_pos (c := (1 : Int32) ≤ nI e ∧ nI e ≤ 2000) ⟨nI_le (a := 1) e1 (by omega), nI_le (b := 2000) e2 (by decide)⟩, if10, t1, nI_add, if_pos (c := nI (V 18 4 + e) ≤ 200000) (nI_le (b := 200000) hT2 (by decide))]
  refine Ret_mono (tickN_c (n := n) (by omega) hV hc (e := e) (by omega) (by omega) (by omega)) ?_
  rintro q ⟨a1, a2, a3⟩
  exact ⟨a1, Lv_next hh a3 (tk_ok hV e (by omega)) (by rw [tk_time]; exact hT2) a2, a3⟩
theorem o_setUp (h : Lv V A B σ) (hn : 1200 < n) {c : Nat} (c1 : 1 ≤ c) (c2 : c ≤ 12) : Ret (f_X8_setUp n σ 0 (nI c)) (fun q => q.1 = nI (V 18 5) ∧ ∃ G, G ≤ 1000 ∧ Lv (iniV c G) A B q.2) := by
  have hh := h
  obtain ⟨⟨hV, hT, hc⟩, ht, hs, -⟩ := h
  have c5 := hc.2.2.1.2.2.2.2.2.2.1
  obtain ⟨G, g1, g2⟩ := Rc_gg hV hc
  unfold f_X8_setUp
  rw [p00, P0_1 SB1, in_X8, bnd_s, if_pos (c := (1 : Int32) ≤ nI c ∧ nI c ≤ 12) ⟨nI_le (a := 1) c1 (by omega), nI_le (b := 12) c2 (by decide)⟩, if10]
  simp only [nm]
  obtain ⟨σ1, e1, R1, F1⟩ := begin_ok SB1 (n := n) (by omega) ht hs c2 g2
  rw [e1, bnd_s]
  exact Ret_some ⟨c5, G, g1, Lv_next hh F1 (vok_ini ⟨c1, c2⟩ g1) (by show 0 ≤ 200000; omega) R1⟩
theorem o_rew (h : Lv V A B σ) (hn : 1200 < n) : Ret (f_X8_rewind n σ 0) (fun q => q.1 = nI (V 18 4) ∧ Lv (rewV V) A B q.2) := by
  have hh := h
  have hS := h.vs
  unfold VokS at hS
  obtain ⟨⟨hV, hT, hc⟩, ht, hs, -⟩ := h
  have t1 : σ 1 5 = nI (V 18 4) := hc.2.2.1.2.2.2.2.2.1
  unfold f_X8_rewind
  simp only [nm]
  rw [p00, goBack_ok SB1 (by omega), bnd_s]
  refine Ret_some ⟨t1, Lv_next hh (fr_z (by decide)) (vok_rew (fun i hi => ?_) (fun p hp => ?_) ?_ hV.2.2.2.1) ?_ (rc_rew (by omega) (rst_rc hc))⟩
  · obtain ⟨a0, a1, a2, a3, a4, a5, -⟩ := hV.1 i hi
    exact ⟨a0, a1, a2, a3, a4, a5⟩
  · obtain ⟨a0, a1, -⟩ := hV.2.1 p hp
    exact ⟨a0, a1⟩
  · obtain ⟨a0, a1, a2, a3, a4, a5, a6, -, -, -, -, a7, -, a8, a9⟩ := hS
    exact ⟨a0, a1, a2, a3, a4, a5, a6, a7, a8, a9⟩
  · rw [rew_0 (by omega)]
    omega
theorem o_cue (h : Lv V A B σ) (hn : 60 < n) {t s v : Nat} (ht : t ≤ 100000) (s1 : 1 ≤ s) (s2 : s ≤ 4095) (hv : v ≤ 1000) (h60 : V 18 7 < 60) : Ret (f_X8_cue n σ 0 (nI t) (nI s) (nI v)) (fun q => ∃ j, NextIs (V 18 7) (V 19) (t + 1) j ∧ q.1 = nI j ∧ Lv (setC V (V 18 7 + 1) (insW (cuesV V) j t s v)) A B q.2) := by
  have hh := h
  have hS := h.vs
  unfold VokS at hS
  obtain ⟨⟨hV, hT, hc⟩, hth, hs, -⟩ := h
  have hq := rc_cq hc
  unfold f_X8_cue
  rw [p00, P0_4 SB1, in_X8, bnd_s, if_pos (c := (0 : Int32) ≤ nI t ∧ nI t ≤ 100000) (m_of (m := 100001) (by decide) (by omega)), if10, in_X8, bnd_s, if_pos (c := (1 : Int32) ≤ nI s ∧ nI s ≤ 4095) ⟨nI_le (a := 1) s1 (by omega), nI_le (b := 4095) s2 (by decide)⟩, if10, in_X8, bnd_s, if_pos (c := (0 : Int32) ≤ nI v ∧ nI v ≤ 1000) (m_of (m := 1001) (by decide) (by omega)), if10]
  obtain ⟨q1, j, e1, j1, a1, a2, a3⟩ := insert_ok (n := n) (t := t) (s := s) (v := v) (CB_b SB1) hq h60 hn (by omega) (wok_V hV).le
  rw [e1, bnd2_s]
  have wo := wok_ins (wok_V hV) j1 ht s2 hv
  exact Ret_some ⟨j, j1, a1, Lv_next hh (Fr_cues a3) (vok_setC hV (by omega) wo.1 wo.2) (by rw [setC_18 (by decide)]; exact hT) (rc_setC hc a3 a2)⟩
theorem o_move (h : Lv V A B σ) (hn : 60 < n) {a t : Nat} {y : Int32} (ha : a < V 18 7) (hy : (-100000 : Int32) ≤ y ∧ y ≤ 100000) (hty : nI (V 19 a) + y = nI t) (ht : t ≤ 100000) : Ret (f_X8_move n σ 0 (nI a) y) (fun q => ∃ j, NextIs (V 18 7 - 1) (outW (cuesV V) a 0) (t + 1) j ∧ q.1 = nI j ∧ Lv (setC V (V 18 7) (movW (cuesV V) a t j)) A B q.2) := by
  have hh := h
  have hS := h.vs
  unfold VokS at hS
  obtain ⟨⟨hV, hT, hc⟩, hth, hs, -⟩ := h
  have hq := rc_cq hc
  have hk := CB_b SB1
  have d1 := (hq.2 a ha).1
  have ck : cuesV V 0 a = V 19 a := rfl
  unfold f_X8_move
  rw [p00, P0_4 SB1, hasC_c hq.1, bnd_s, if_pos (m_of (by omega) ha), if10, in_X8, bnd_s, if_pos hy, if10, hk.1, hk.2.2.2.1, ckI_nI (by omega) (by decide), chk_t, ix_nI (by omega), d1, in_X8, bnd_s, ck, hty, if_pos (c := (0 : Int32) ≤ nI t ∧ nI t ≤ 100000) (m_of (m := 100001) (by decide) (by omega)), if10]
  obtain ⟨q1, j, e1, j1, a1, a2, a3⟩ := postpone_ok (n := n) (y := y) hk hq (by omega) hn ha hty ht (wok_V hV)
  rw [e1, bnd2_s]
  have wo := wok_mov (wok_V hV) ha ht j1
  exact Ret_some ⟨j, j1, a1, Lv_next hh (Fr_cues a3) (vok_setC hV (by omega) wo.1 wo.2) (by rw [setC_18 (by decide)]; exact hT) (rc_setC hc a3 a2)⟩
theorem o_moveF (h : Lv V A B σ) {a : Nat} {y : Int32} (ha : a < V 18 7) (hy : (-100000 : Int32) ≤ y ∧ y ≤ 100000) (hty : ¬ (0 ≤ nI (V 19 a) + y ∧ nI (V 19 a) + y ≤ 100000)) : f_X8_move n σ 0 (nI a) y = some (-2, σ) := by
  have hS := h.vs
  unfold VokS at hS
  obtain ⟨⟨hV, hT, hc⟩, hth, hs, -⟩ := h
  have hq := rc_cq hc
  have hk := CB_b SB1
  have d1 := (hq.2 a ha).1
  have ck : cuesV V 0 a = V 19 a := rfl
  unfold f_X8_move
  rw [p00, P0_4 SB1, hasC_c hq.1, bnd_s, if_pos (m_of (by omega) ha), if10, in_X8, bnd_s, if_pos hy, if10, hk.1, hk.2.2.2.1, ckI_nI (by omega) (by decide), chk_t, ix_nI (by omega), d1, in_X8, bnd_s, ck, if_neg hty, if00]
end LvR
