/-! WHAT IS REFUSED -/
def Far (y : Int32) : Prop := y.toInt ≤ -11 ∨ 100001 ≤ y.toInt
theorem far_in {y a b : Int32} (h : Far y) (ha : -10 ≤ a.toInt) (hb : b.toInt ≤ 100000) : ¬ (a ≤ y ∧ y ≤ b) := by
  rw [le_i, le_i]
  unfold Far at h
  omega
theorem far_has {y : Int32} {m : Nat} (h : Far y) (hm : m ≤ 1000) : ¬ (0 ≤ y ∧ y ≤ nI m - 1) := by
  have hs := pk_sub_toInt (a := m) (b := 1) (by omega) (by decide)
  rw [le_i, le_i, l_1, hs, Int32.toInt_zero]
  unfold Far at h
  omega
theorem far_ne {y : Int32} {m : Nat} (h : Far y) (hm : m ≤ 100000) : ¬ y = nI m := by
  intro e
  rw [e] at h
  unfold Far at h
  rw [nI_toInt (by omega)] at h
  omega
theorem far_ok1 {y v : Int32} {m : Nat} {lo hi : Nat → Nat} (h : Far y) (hm : m ≤ 100000) : ¬ okS m lo hi y v := by
  rintro ⟨j, w, hj, e, -⟩
  exact far_ne h (by omega) e
theorem far_ok2 {y s : Int32} {m : Nat} {lo hi : Nat → Nat} (h : Far y) (hh : ∀ j, hi j ≤ 100000) : ¬ okS m lo hi s y := by
  rintro ⟨j, w, hj, e, e2, w1, w2⟩
  have := hh j
  exact far_ne h (by omega) e2
theorem in_pos {x a b : Int32} (h : a ≤ x ∧ x ≤ b) : f_X8_within x a b = some 1 := by rw [in_X8, if_pos h]
theorem in_neg {x a b : Int32} (h : ¬ (a ≤ x ∧ x ≤ b)) : f_X8_within x a b = some 0 := by rw [in_X8, if_neg h]
section RfR
variable {V : Sh} {A B : Option Sh} {σ : Mem} {n : Nat} {y : Int32}
theorem e_setUp (hy : Far y) : f_X8_setUp n σ 0 y = some (-2, σ) := by
  unfold f_X8_setUp
  rw [in_X8, bnd_s, if_neg (far_in hy (by decide) (by decide)), if00]
theorem e_noz1 (h : Lv V A B σ) (hy : Far y) (s v : Int32) : f_X8_nozzle σ 0 y s v = some (-1, σ) := by
  have hS := h.vs
  unfold VokS at hS
  have c5 := h.1.2.2.2.2.1.2.2.2.2.2.2.1
  unfold f_X8_nozzle
  rw [p00, P0_1 SB1, hasN_c c5, bnd_s, if_neg (far_has hy (by omega)), if00]
theorem e_noz2 (h : Lv V A B σ) {s v : Int32} (hq : ¬ okS 6 loN hiN s v) : f_X8_nozzle σ 0 0 s v = some (-2, σ) := by
  have hS := h.vs
  unfold VokS at hS
  obtain ⟨⟨hV, hT, hc⟩, ht, hs, -⟩ := h
  have c5 := hc.2.2.1.2.2.2.2.2.2.1
  unfold f_X8_nozzle
  rw [p00, P0_1 SB1, P3_0 SB1, hasN_c c5, bnd_s, if_pos (c := (0 : Int32) ≤ 0 ∧ (0 : Int32) ≤ nI (V 18 5) - 1) (m_of (m := V 18 5) (i := 0) (by omega) (by omega)), if10, chN_F SB1 ht hs hq, bnd2_s]
theorem e_pump1 (hy : Far y) (s v : Int32) : f_X8_pump σ 0 y s v = some (-1, σ) := by
  unfold f_X8_pump
  rw [in_X8, bnd_s, if_neg (far_in hy (by decide) (by decide)), if00]
theorem e_pump2 (h : Lv V A B σ) {s v : Int32} (hq : ¬ okS 2 loP hiP s v) : f_X8_pump σ 0 0 s v = some (-2, σ) := by
  obtain ⟨⟨hV, hT, hc⟩, ht, hs, -⟩ := h
  unfold f_X8_pump
  rw [in_pos (by decide), bnd_s, if10, p00, P0_2 SB1, P13_0 SB1, chP_F SB1 ht hs hq, bnd2_s]
theorem e_set (h : Lv V A B σ) {s v : Int32} (hq : ¬ okS 6 loS hiS s v) : f_X8_set σ 0 s v = some (-2, σ) := by
  obtain ⟨⟨hV, hT, hc⟩, ht, hs, -⟩ := h
  unfold f_X8_set
  rw [p00, P0_0 SB1, chS_F SB1 ht hs hq, bnd2_s]
theorem e_wind (hy : Far y) : f_X8_wind σ 0 y = some (-2, σ) := by
  unfold f_X8_wind
  rw [in_X8, bnd_s, if_neg (far_in hy (by decide) (by decide)), if00]
theorem e_cue1 (hy : Far y) (s v : Int32) : f_X8_cue n σ 0 y s v = some (-2, σ) := by
  unfold f_X8_cue
  rw [in_X8, bnd_s, if_neg (far_in hy (by decide) (by decide)), if00]
theorem e_cue2 (hy : Far y) (v : Int32) : f_X8_cue n σ 0 0 y v = some (-2, σ) := by
  unfold f_X8_cue
  rw [in_pos (by decide), bnd_s, if10, in_X8, bnd_s, if_neg (far_in hy (by decide) (by decide)), if00]
theorem e_cue3 (hy : Far y) : f_X8_cue n σ 0 0 1 y = some (-2, σ) := by
  unfold f_X8_cue
  rw [in_pos (by decide), bnd_s, if10, in_pos (by decide), bnd_s, if10, in_X8, bnd_s, if_neg (far_in hy (by decide) (by decide)), if00]
theorem e_cnt (h : Lv V A B σ) (hy : Far y) : f_X0_has σ (1 + 20) y = some 0 := by
  have hS := h.vs
  unfold VokS at hS
  rw [hasC_c (b := 1) h.1.2.2.2.2.1.2.2.2.2.2.2.2.2.1, if_neg (far_has hy (by omega))]
theorem e_remove (h : Lv V A B σ) (hy : Far y) : f_X8_remove σ 0 y = some (-1, σ) := by
  unfold f_X8_remove
  rw [p00, P0_4 SB1, e_cnt h hy, bnd_s, if00]
theorem e_move (h : Lv V A B σ) (hy : Far y) (v : Int32) : f_X8_move n σ 0 y v = some (-1, σ) := by
  unfold f_X8_move
  rw [p00, P0_4 SB1, e_cnt h hy, bnd_s, if00]
theorem e_part (h : Lv V A B σ) (hy : Far y) (v : Int32) : f_X8_part σ 0 y v = some (-1) := by
  unfold f_X8_part
  rw [p00, P0_4 SB1, e_cnt h hy, bnd_s, if00]
theorem e_cmd (hy : Far y) (v : Int32) : f_X8_command n σ 0 y v = some (-2, σ) := by
  unfold f_X8_command
  rw [in_X8, bnd_s, if_neg (far_in hy (by decide) (by decide)), if00]
theorem e_tick (hy : Far y) : f_X8_tick n σ 0 y = some (-2, σ) := by
  unfold f_X8_tick
  rw [in_X8, bnd_s, if_neg (far_in hy (by decide) (by decide)), if00]
theorem e_spray1 (h : Lv V A B σ) (hy : Far y) (v : Int32) : f_X8_spray σ 0 y v = some (-1) := by
  have hS := h.vs
  unfold VokS at hS
  have c5 := h.1.2.2.2.2.1.2.2.2.2.2.2.1
  unfold f_X8_spray
  rw [p00, P0_1 SB1, hasN_c c5, bnd_s, if_neg (far_has hy (by omega)), if00]
theorem e_spray2 (h : Lv V A B σ) (hy : Far y) : f_X8_spray σ 0 0 y = some (-2) := by
  have hS := h.vs
  unfold VokS at hS
  have c5 := h.1.2.2.2.2.1.2.2.2.2.2.2.1
  unfold f_X8_spray
  rw [p00, P0_1 SB1, hasN_c c5, bnd_s, if_pos (c := (0 : Int32) ≤ 0 ∧ (0 : Int32) ≤ nI (V 18 5) - 1) (m_of (m := V 18 5) (i := 0) (by omega) (by omega)), if10, if_neg (c := y = 6) (far_ne (m := 6) hy (by decide)), if_neg (c := y = 7) (far_ne (m := 7) hy (by decide)), if_neg (c := y = 8) (far_ne (m := 8) hy (by decide)), if_neg (c := y = 9) (far_ne (m := 9) hy (by decide)), if_neg (c := y = 10) (far_ne (m := 10) hy (by decide)), if_neg (c := y = 11) (far_ne (m := 11) hy (by decide)), in_X8, bnd_s, if_neg (far_in hy (by decide) (by decide)), if00]
theorem e_press1 (hy : Far y) (v : Int32) : f_X8_pressure σ 0 y v = some (-1) := by
  unfold f_X8_pressure
  rw [in_X8, bnd_s, if_neg (far_in hy (by decide) (by decide)), if00]
theorem e_press2 (hy : Far y) : f_X8_pressure σ 0 0 y = some (-2) := by
  unfold f_X8_pressure
  rw [in_pos (by decide), bnd_s, if10, if_neg (c := y = 2) (far_ne (m := 2) hy (by decide)), if_neg (c := y = 3) (far_ne (m := 3) hy (by decide)), if_neg (c := y = 4) (far_ne (m := 4) hy (by decide)), in_X8, bnd_s, if_neg (far_in hy (by decide) (by decide)), if00]
theorem e_state (hy : Far y) : f_X8_state n σ 0 y = some (-2) := by
  unfold f_X8_state
  rw [if_neg (c := y = 0) (far_ne (m := 0) hy (by decide)), if_neg (c := y = 1) (far_ne (m := 1) hy (by decide)), if_neg (c := y = 2) (far_ne (m := 2) hy (by decide)), if_neg (c := y = 3) (far_ne (m := 3) hy (by decide)), if_neg (c := y = 4) (far_ne (m := 4) hy (by decide)), if_neg (c := y = 5) (far_ne (m := 5) hy (by decide)), if_neg (c := y = 6) (far_ne (m := 6) hy (by decide)), if_neg (c := y = 7) (far_ne (m := 7) hy (by decide)), if_neg (c := y = 8) (far_ne (m := 8) hy (by decide)), if_neg (c := y = 9) (far_ne (m := 9) hy (by decide)), in_X8, bnd_s, if_neg (far_in hy (by decide) (by decide)), if00]
theorem e_ahead1 (hy : Far y) (p w : Int32) : f_X8_ahead n σ 0 y p w = some (-2, σ) := by
  unfold f_X8_ahead
  rw [in_X8, bnd_s, if_neg (far_in hy (by decide) (by decide)), if00]
theorem e_ahead2 (hy : Far y) : f_X8_ahead n σ 0 1 y 0 = some (-1, σ) := by
  unfold f_X8_ahead
  rw [in_pos (by decide), bnd_s, if10, in_pos (by decide), bnd_s, if10, if_neg (by decide), in_X8, bnd_s, if_neg (far_in hy (by decide) (by decide)), if00]
theorem e_delay (h : Lv V A B σ) (hy : Far y) (m e : Int32) : f_X8_delay n σ 0 y m e = some (-1, σ) := by
  unfold f_X8_delay
  rw [p00, P0_4 SB1, e_cnt h hy, bnd_s, if00]
theorem e_safe (hy : Far y) : f_X8_safeCut n σ 0 y = some (-2, σ) := by
  unfold f_X8_safeCut
  rw [in_X8, bnd_s, if_neg (far_in hy (by decide) (by decide)), if00]
theorem e_say (hy : Far y) : f_X8_say σ 0 y = some (-2, σ) := by
  unfold f_X8_say
  rw [in_X8, bnd_s, if_neg (far_in hy (by decide) (by decide)), if00]
theorem e_read (h : Lv V A B σ) (hn : 60 < n) (y : Int32) : Ret (f_X8_read n σ 0 y) (fun q => q.1 = -3 ∧ Lv V A B q.2) := by
  have hp : σ 99 2 = 0 := h.2.2.2.1
  have e0 : ∀ σ' : Mem, σ' = gst (gst (gst σ 100 3 0) 99 3 0) 99 6 (-1) → f_X2_findFault_L20 n σ' 99 0 = some (0, σ') ∧ Lv V A B σ' := by
    intro σ' e
    have k2 : σ' 99 2 = 0 := by rw [e, gst_n2 (by decide), gst_n2 (by decide), gst_row (by decide), hp]
    have k3 : σ' 99 3 = 0 := by rw [e, gst_n2 (by decide), gst_s2]
    refine ⟨?_, ?_⟩
    · unfold f_X2_findFault_L20
      obtain ⟨m, rfl⟩ : ∃ m, n = m + 1 := ⟨n - 1, by omega⟩
      rw [iter, show f_X2_findFault_B20 (m + 1) σ' 99 0 = some (.inl (0, σ')) from ?_]
      unfold f_X2_findFault_B20 f_X2_endsCue
      rw [k2, if_pos (by decide), k3, if_neg (by decide), bnd2_s, if00]
      dsimp only
      rw [k2]
    · have ea : ∀ a, a ≠ 99 → a ≠ 100 → σ' a = σ a := fun a q1 q2 => by rw [e, gst_row q1, gst_row q1, gst_row q2]
      obtain ⟨⟨v1, v2, v3⟩, t, s, p, s1, s2, g⟩ := h
      refine ⟨⟨v1, v2, Rc_same v3 (fun a _ _ => ea a (by omega) (by omega))⟩, ?_, St_same s (fun a _ _ => ea a (by omega) (by omega)), k2, SlK_same s1 (ea _ (by omega) (by omega)) (fun a _ _ => ea a (by omega) (by omega)), SlK_same s2 (ea _ (by omega) (by omega)) (fun a _ _ => ea a (by omega) (by omega)), Gg_same g (fun b hb _ => ea _ (by have := sb_lt hb; omega) (by have := sb_lt hb; omega))⟩
      intro b hb
      have := sb_lt hb
      rw [ea (b + 1) (by omega) (by omega), ea (b + 4) (by omega) (by omega), ea (b + 14) (by omega) (by omega)]
      exact t b hb
  obtain ⟨e1, e2⟩ := e0 _ rfl
  unfold f_X8_read f_X2_findFault nm
  rw [p04, show ptr 99 0 = 100 from rfl]
  dsimp only
  rw [e1, bnd2_s]
  dsimp only
  rw [if_neg (by decide)]
  exact Ret_some ⟨rfl, e2⟩
theorem e_save (hy : Far y) : f_X8_save σ 0 y = some (-2, σ) := by
  unfold f_X8_save f_X8_slotAt
  rw [if_neg (c := y = 0) (far_ne (m := 0) hy (by decide)), if_neg (c := y = 1) (far_ne (m := 1) hy (by decide)), bnd_s]
  rfl
theorem e_rest (hy : Far y) : f_X8_restore σ 0 y = some (-2, σ) := by
  unfold f_X8_restore f_X8_slotAt
  rw [if_neg (c := y = 0) (far_ne (m := 0) hy (by decide)), if_neg (c := y = 1) (far_ne (m := 1) hy (by decide)), bnd_s]
  rfl
theorem hiN_le (j : Nat) : hiN j ≤ 100000 := Nat.le_of_lt (tab_b (by decide) (by decide) j)
theorem hiP_le (j : Nat) : hiP j ≤ 100000 := Nat.le_of_lt (tab_b (by decide) (by decide) j)
theorem hiS_le (j : Nat) : hiS j ≤ 100000 := Nat.le_of_lt (tab_b (by decide) (by decide) j)
theorem far_isFar (hy : Far y) : isFar y = true := decide_eq_true (far_in hy (by decide) (by decide))
theorem ini_dry : ahV (iniV 4 0) 0 3 1 = 0 := by decide +kernel
theorem refused_L (h : Lv (iniV 4 0) A B σ) (hn : 1200 < n) (w : Nat) (hy : Far y) : Ret (f_L_refused_L23 n w σ 0 y) (fun q => q.1 = 1 ∧ Lv (iniV 4 0) A B q.2) := by
  unfold f_L_refused_L23
  rw [e_setUp hy, bnd2_s, if_pos rfl, e_noz1 h hy, bnd2_s, if_pos rfl, e_noz2 h (far_ok1 hy (by decide)), bnd2_s, if_pos rfl, e_noz2 h (far_ok2 hy hiN_le), bnd2_s, if_pos rfl, e_pump1 hy, bnd2_s, if_pos rfl, e_pump2 h (far_ok1 hy (by decide)), bnd2_s, if_pos rfl, e_pump2 h (far_ok2 hy hiP_le), bnd2_s, if_pos rfl, e_set h (far_ok1 hy (by decide)), bnd2_s, if_pos rfl, e_set h (far_ok2 hy hiS_le), bnd2_s, if_pos rfl, e_wind hy, bnd2_s, if_pos rfl, e_cue1 hy, bnd2_s, if_pos rfl, e_cue2 hy, bnd2_s, if_pos rfl, e_cue3 hy, bnd2_s, if_pos rfl, e_remove h hy, bnd2_s, if_pos rfl, e_move h hy, bnd2_s, if_pos rfl, e_part h hy, bnd_s, if_pos rfl, e_cmd hy, bnd2_s, if_pos rfl, e_tick hy, bnd2_s, if_pos rfl, e_spray1 h hy, bnd_s, if_pos rfl, e_spray2 h hy, bnd_s, if_pos rfl, e_press1 hy, bnd_s, if_pos rfl, e_press2 hy, bnd_s, if_pos rfl, far_isFar hy, chk_t, if00, e_state hy, bnd_s, if_pos rfl, e_ahead1 hy, bnd2_s, if_pos rfl, e_ahead2 hy, bnd2_s, if_pos rfl]
  refine Ret_bnd2 (o_ahead (e := 1) (p := 0) (w := 3) h hn (by decide) (by decide) (by decide) (by decide) (by omega)) ?_
  rintro r σ1 ⟨r1, h1⟩
  dsimp only at r1 h1
  rw [r1, ini_dry, if00, e_delay h1 hy, bnd2_s, if_pos rfl, e_safe hy, bnd2_s, if_pos rfl, e_say hy, bnd2_s, if_pos rfl]
  refine Ret_bnd2 (e_read h1 (by omega) y) ?_
  rintro r σ2 ⟨r2, h2⟩
  dsimp only at r2 h2
  rw [r2, if_pos rfl, e_save hy, bnd2_s, if_pos rfl, e_rest hy, bnd2_s, if_pos rfl, (o_st h2).1, bnd_s, if_pos (c := nI (iniV 4 0 18 4) = 0) rfl]
  exact Ret_some ⟨rfl, h2⟩
end RfR
