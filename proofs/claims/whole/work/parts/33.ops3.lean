/-! part, spray, pressure, say, wipe, command, tick, state -/
theorem if10 {τ : Type} {a b : τ} : (if (1 : Int32) = 0 then a else b) = b := if_neg (by decide)
theorem if00 {τ : Type} {a b : τ} : (if (0 : Int32) = 0 then a else b) = a := if_pos rfl
theorem hasC_c {b : Nat} {σ : Mem} {cnt : Nat} (h8 : σ (b + 20) 3 = nI cnt) (x : Int32) : f_X0_has σ (b + 20) x = some (if 0 ≤ x ∧ x ≤ nI cnt - 1 then 1 else 0) := by
  unfold f_X0_has
  rw [h8, in_X8]
  show chk (bit _) (some _) = _
  split <;> rfl
theorem hasC_r {σ : Mem} {cnt : Nat} (h8 : σ 106 940 = nI cnt) (x : Int32) : f_X9_isCue σ 105 x = some (if 0 ≤ x ∧ x ≤ nI cnt - 1 then 1 else 0) := by
  unfold f_X9_isCue
  rw [PM0, AM0, show ix 940 = 940 from rfl, h8, in_X9]
  show chk (bit _) (some _) = _
  split <;> rfl
theorem of_in {x : Int32} {m : Nat} (hm : m < 2 ^ 31) (h : 0 ≤ x ∧ x ≤ nI m) : ∃ j, j ≤ m ∧ x = nI j := by
  obtain ⟨j, -, h2, h3⟩ := of_rng (a := 0) (b := m) hm h (by decide)
  exact ⟨j, h2, h3⟩
theorem ne_nI {j m : Nat} (h : j < m) (hm : m < 2 ^ 31) : ¬ nI j = nI m := fun e => by have := nI_inj (by omega) hm e; omega
theorem no_in {x : Int32} {m j : Nat} (hm : m < 2 ^ 31) (hj : j ≤ m) (h : ¬ (0 ≤ x ∧ x ≤ nI m)) : ¬ x = nI j := by
  intro e
  subst e
  exact h ⟨nI_le (a := 0) (by omega) (by omega), nI_le hj hm⟩
theorem op_part {σ : Mem} (h : Inv σ) (x y : Int32) : ∃ r, f_X8_part σ 0 x y = some r ∧ f_X9_part σ 105 x y = some r := by
  obtain ⟨⟨V, hV, hT, hc, hr⟩, ht, hs, -⟩ := h
  have hS := hV.2.2.1
  unfold VokS at hS
  have c7 := hc.2.2.1.2.2.2.2.2.2.2.2.1
  have r7 : σ 106 940 = nI (V 18 7) := (rr_sets hr).2.2.2.2.2.2.2.2.2.2.2.2.2
  unfold f_X8_part f_X9_part
  rw [p00, P0_4 SB1, P20_0 SB1, P20_1 SB1, P20_2 SB1, A21 SB1, A22 SB1, A23 SB1, hasC_c c7, hasC_r r7, bnd_s, bnd_s]
  by_cases c : 0 ≤ x ∧ x ≤ nI (V 18 7) - 1
  · obtain ⟨k, hk, rfl⟩ := of_m (by omega) c
    rw [if_pos c, if10, if10, in_X9, bnd_s, ckI_nI (by omega) (by decide), ix_nI (by omega), chk_t, chk_t, chk_t]
    obtain ⟨a1, a2, a3⟩ := hc.2.2.2.1 k hk
    have o := fun c hc => ofCue_ok (c := c) hr (by omega) hk hc
    by_cases e0 : y = 0
    · rw [if_pos e0, e0, if_pos (c := (0 : Int32) ≤ 0 ∧ (0 : Int32) ≤ 2) (by decide), if10, a1]
      refine ⟨_, rfl, ?_⟩
      rw [show (0 : Int32) = nI 0 from rfl, o 0 (by decide), bnd_s]
    by_cases e1 : y = 1
    · rw [if_neg e0, if_pos e1, e1, if_pos (c := (0 : Int32) ≤ 1 ∧ (1 : Int32) ≤ 2) (by decide), if10, a2]
      refine ⟨_, rfl, ?_⟩
      rw [show (1 : Int32) = nI 1 from rfl, o 1 (by decide), bnd_s]
    by_cases e2 : y = 2
    · rw [if_neg e0, if_neg e1, if_pos e2, e2, if_pos (c := (0 : Int32) ≤ 2 ∧ (2 : Int32) ≤ 2) (by decide), if10, a3]
      refine ⟨_, rfl, ?_⟩
      rw [show (2 : Int32) = nI 2 from rfl, o 2 (by decide), bnd_s]
    rw [if_neg e0, if_neg e1, if_neg e2, if_neg (c := 0 ≤ y ∧ y ≤ 2), if00]
    · exact ⟨_, rfl, rfl⟩
    · intro q
      obtain ⟨j, hj, rfl⟩ := of_in (m := 2) (by decide) q
      have : j = 0 ∨ j = 1 ∨ j = 2 := by omega
      rcases this with w | w | w <;> subst w
      · exact e0 rfl
      · exact e1 rfl
      · exact e2 rfl
  · rw [if_neg c, if00, if00]
    exact ⟨_, rfl, rfl⟩
theorem op_spray {σ : Mem} (h : Inv σ) (x y : Int32) : ∃ r, f_X8_spray σ 0 x y = some r ∧ f_X9_spray σ 105 x y = some r := by
  obtain ⟨⟨V, hV, hT, hc, hr⟩, ht, hs, -⟩ := h
  have hS := hV.2.2.1
  unfold VokS at hS
  have c5 := hc.2.2.1.2.2.2.2.2.2.1
  have r5 : σ 106 938 = nI (V 18 5) := (rr_sets hr).2.2.2.2.2.2.2.2.2.2.2.1
  unfold f_X8_spray f_X9_spray
  rw [p00, P0_1 SB1, P3_0 SB1, P3_1 SB1, P3_2 SB1, P3_3 SB1, P3_4 SB1, P3_5 SB1, P3_6 SB1, A6 SB1, A7 SB1, A8 SB1, A9 SB1, A10 SB1, A11 SB1, hasN_c c5, hasN_r r5, bnd_s, bnd_s]
  by_cases c : 0 ≤ x ∧ x ≤ nI (V 18 5) - 1
  · obtain ⟨i, hi, rfl⟩ := of_m (by omega) c
    rw [if_pos c, if10, if10, in_X9, bnd_s, ckI_nI (by omega) (by decide), ix_nI (by omega), chk_t, chk_t, chk_t, chk_t, chk_t, chk_t, PM0, AM0]
    obtain ⟨a0, a6, a7, a8, a9, a10, a11⟩ := hc.1 i hi
    have o : ∀ j, j < 12 → (chk (ckI (12 * nI i + nI j) 1121) (some (σ 106 (ix (12 * nI i + nI j)))) : Option Int32) = some (nI (V j i)) := by
      intro j hj
      rw [show (12 : Int32) = nI 12 from rfl, nI_mul, nI_add, ckI_nI (by omega) (by decide), chk_t, ix_nI (by omega), hr.1 i hi j hj]
    by_cases q : 0 ≤ y ∧ y ≤ 11
    · obtain ⟨j, hj, rfl⟩ := of_in (m := 11) (by decide) q
      rw [if_pos q, if10, o j (by omega)]
      refine ⟨_, ?_, rfl⟩
      by_cases w : j < 6
      · rw [if_neg (c := nI j = 6) (ne_nI (m := 6) (by omega) (by decide)), if_neg (c := nI j = 7) (ne_nI (m := 7) (by omega) (by decide)), if_neg (c := nI j = 8) (ne_nI (m := 8) (by omega) (by decide)), if_neg (c := nI j = 9) (ne_nI (m := 9) (by omega) (by decide)), if_neg (c := nI j = 10) (ne_nI (m := 10) (by omega) (by decide)), if_neg (c := nI j = 11) (ne_nI (m := 11) (by omega) (by decide)), in_X8, bnd_s, if_pos (c := 0 ≤ nI j ∧ nI j ≤ 5) (m_of (m := 6) (by decide) w), if10, val_noz SB1 (by omega) w, bnd_s, a0 j w]
      · have : j = 6 ∨ j = 7 ∨ j = 8 ∨ j = 9 ∨ j = 10 ∨ j = 11 := by omega
        rcases this with w | w | w | w | w | w <;> subst w
        · rw [if_pos (by decide), a6]
        · rw [if_neg (by decide), if_pos (by decide), a7]
        · rw [if_neg (by decide), if_neg (by decide), if_pos (by decide), a8]
        · rw [if_neg (by decide), if_neg (by decide), if_neg (by decide), if_pos (by decide), a9]
        · rw [if_neg (by decide), if_neg (by decide), if_neg (by decide), if_neg (by decide), if_pos (by decide), a10]
        · rw [if_neg (by decide), if_neg (by decide), if_neg (by decide), if_neg (by decide), if_neg (by decide), if_pos (by decide), a11]
    · have z := fun j hj => no_in (x := y) (m := 11) (j := j) (by decide) hj q
      rw [if_neg q, if00, if_neg (c := y = 6) (z 6 (by decide)), if_neg (c := y = 7) (z 7 (by decide)), if_neg (c := y = 8) (z 8 (by decide)), if_neg (c := y = 9) (z 9 (by decide)), if_neg (c := y = 10) (z 10 (by decide)), if_neg (c := y = 11) (z 11 (by decide)), in_X8, bnd_s, if_neg (c := 0 ≤ y ∧ y ≤ 5), if00]
      · exact ⟨_, rfl, rfl⟩
      · intro w
        exact q ⟨w.1, by have := w.2; rw [le_i] at *; have e5 : (5 : Int32).toInt = 5 := rfl; have e11 : (11 : Int32).toInt = 11 := rfl; omega⟩
  · rw [if_neg c, if00, if00]
    exact ⟨_, rfl, rfl⟩
theorem op_pressure {σ : Mem} (h : Inv σ) (x y : Int32) : ∃ r, f_X8_pressure σ 0 x y = some r ∧ f_X9_pressure σ 105 x y = some r := by
  obtain ⟨⟨V, hV, hT, hc, hr⟩, ht, hs, -⟩ := h
  unfold f_X8_pressure f_X9_pressure
  rw [p00, P0_2 SB1, P13_0 SB1, P13_1 SB1, P13_2 SB1, P13_3 SB1, A16 SB1, A17 SB1, A18 SB1, in_X8, isP_r, bnd_s, bnd_s]
  by_cases c : 0 ≤ x ∧ x ≤ 2
  · obtain ⟨i, hi, rfl⟩ := of_in (m := 2) (by decide) c
    rw [if_pos c, if10, if10, in_X9, bnd_s, ckI_nI (by omega) (by decide), ix_nI (by omega), chk_t, chk_t, chk_t, PM0, AM0]
    obtain ⟨a0, a6, a7, a8⟩ := hc.2.1 i (by omega)
    have o : ∀ j, j < 5 → (chk (ckI (912 + 5 * nI i + nI j) 1121) (some (σ 106 (ix (912 + 5 * nI i + nI j)))) : Option Int32) = some (nI (V (12 + j) i)) := by
      intro j hj
      rw [show (912 : Int32) = nI 912 from rfl, show (5 : Int32) = nI 5 from rfl, nI_mul, nI_add, nI_add, ckI_nI (by omega) (by decide), chk_t, ix_nI (by omega), hr.2.1 i (by omega) j hj]
    by_cases q : 0 ≤ y ∧ y ≤ 4
    · obtain ⟨j, hj, rfl⟩ := of_in (m := 4) (by decide) q
      rw [if_pos q, if10, o j (by omega)]
      refine ⟨_, ?_, rfl⟩
      by_cases w : j < 2
      · rw [if_neg (c := nI j = 2) (ne_nI (m := 2) (by omega) (by decide)), if_neg (c := nI j = 3) (ne_nI (m := 3) (by omega) (by decide)), if_neg (c := nI j = 4) (ne_nI (m := 4) (by omega) (by decide)), in_X8, bnd_s, if_pos (c := 0 ≤ nI j ∧ nI j ≤ 1) (m_of (m := 2) (by decide) w), if10, val_pump SB1 (by omega) w, bnd_s, a0 j w]
      · have : j = 2 ∨ j = 3 ∨ j = 4 := by omega
        rcases this with w | w | w <;> subst w
        · rw [if_pos (by decide), a6]
        · rw [if_neg (by decide), if_pos (by decide), a7]
        · rw [if_neg (by decide), if_neg (by decide), if_pos (by decide), a8]
    · have z := fun j hj => no_in (x := y) (m := 4) (j := j) (by decide) hj q
      rw [if_neg q, if00, if_neg (c := y = 2) (z 2 (by decide)), if_neg (c := y = 3) (z 3 (by decide)), if_neg (c := y = 4) (z 4 (by decide)), in_X8, bnd_s, if_neg (c := 0 ≤ y ∧ y ≤ 1), if00]
      · exact ⟨_, rfl, rfl⟩
      · intro w
        exact q ⟨w.1, by have := w.2; rw [le_i] at *; have e5 : (1 : Int32).toInt = 1 := rfl; have e11 : (4 : Int32).toInt = 4 := rfl; omega⟩
  · rw [if_neg c, if00, if00]
    exact ⟨_, rfl, rfl⟩
theorem op_wipe {σ : Mem} (h : Inv σ) : Sim (f_X8_wipe σ 0) (fun σ => f_X9_wipe σ 105) := by
  obtain ⟨a, t, s, p, s1, s2, g⟩ := h
  obtain ⟨L, c, hL, h1, h2, h3⟩ := p
  unfold f_X8_wipe nm
  rw [p04]
  dsimp only
  refine ⟨_, rfl, ?_⟩
  dsimp only
  unfold f_X9_wipe nm
  dsimp only
  refine ⟨_, rfl, ?_, ?_⟩
  · dsimp only
    rw [gst_row (by decide), h1, h2]
  · dsimp only
    have e : ∀ a, a ≠ 99 → a ≠ 105 → (gst (gst σ 99 2 0) 105 5 0) a = σ a := fun a q1 q2 => by rw [gst_row q2, gst_row q1]
    obtain ⟨V, v1, v2, v3, v4⟩ := a
    refine ⟨⟨V, v1, v2, Rc_same v3 (fun a _ _ => e a (by omega) (by omega)), by rw [e 106 (by decide) (by decide)]; exact v4⟩, ?_, St_same s (fun a _ _ => e a (by omega) (by omega)), ?_, Sl_same s1 (e _ (by decide) (by decide)) (e _ (by decide) (by decide)) (e _ (by decide) (by decide)) (fun a _ _ => e a (by omega) (by omega)), Sl_same s2 (e _ (by decide) (by decide)) (e _ (by decide) (by decide)) (e _ (by decide) (by decide)) (fun a _ _ => e a (by omega) (by omega)), Gg_same g (fun b hb hn => e (b + 3) (by rcases hb with q | q | q | q <;> omega) (by rcases hb with q | q | q | q <;> omega))⟩
    · intro b hb
      have q : b + 14 < 99 := by rcases hb with q | q | q | q <;> omega
      rw [e (b + 1) (by omega) (by omega), e (b + 4) (by omega) (by omega), e (b + 14) (by omega) (by omega)]
      exact t b hb
    · refine ⟨0, c, by decide, ?_, gst_s2, fun j hj => by omega⟩
      rw [gst_row (by decide), gst_s2]
      rfl
theorem vpc {x : Nat} (h : x ≤ 126) : vp_nar .char (((nI x).toUInt32 % 65536).toInt32) = nI x := by
  have : ∀ x : Fin 127, vp_nar .char (((nI x.1).toUInt32 % 65536).toInt32) = nI x.1 := by decide
  exact this ⟨x, by omega⟩
theorem op_say {σ : Mem} (h : Inv σ) (x : Int32) : Sim (f_X8_say σ 0 x) (fun σ => f_X9_say σ 105 x) := by
  have hh := h
  obtain ⟨a, t, s, p, s1, s2, g⟩ := h
  obtain ⟨L, c, hL, h1, h2, h3⟩ := p
  unfold f_X8_say
  rw [p04, in_X8, bnd_s]
  by_cases q : (33 : Int32) ≤ x ∧ x ≤ 126
  · obtain ⟨w, w1, w2, rfl⟩ := of_rng (a := 33) (b := 126) (by decide) q (by decide)
    rw [if_pos q, if10]
    unfold f_X2_append
    rw [h1, vpc w2, show ptr 99 1 = 104 from rfl, show alen 104 = 80 from rfl]
    by_cases q2 : L < 80
    · rw [if_pos (c := nI L < 80) (nI_lt (b := 80) q2 (by decide)), ckI_nI q2 (by decide), chk_t, ix_nI (by omega)]
      unfold nm
      dsimp only
      rw [gst_s2, gst_row (σ := σ) (a := 99) (k := 104) (by decide), h1, show (1 : Int32) = nI 1 from rfl, nI_add]
      refine ⟨_, rfl, ?_⟩
      dsimp only
      unfold f_X9_say nm
      dsimp only
      have e0 : ∀ a, a ≠ 99 → a ≠ 104 → (gst (gst σ 104 L (nI w)) 99 2 (nI (L + 1))) a = σ a := fun a q1 q2 => by rw [gst_row q1, gst_row q2]
      rw [in_X9, bnd_s, if_pos q, if10, e0 105 (by decide) (by decide), h2, if_neg (c := nI L = 80) (by intro e; have := nI_inj (b := 80) (by omega) (by decide) e; omega), PM4, AM4, ckI_nI q2 (by decide), chk_t, ix_nI (by omega), gst_row (a := 105) (k := 110) (by decide), e0 105 (by decide) (by decide), h2, show (1 : Int32) = nI 1 from rfl, nI_add, gst_s2]
      refine ⟨_, rfl, rfl, ?_⟩
      dsimp only
      have e : ∀ a, a ≠ 99 → a ≠ 104 → a ≠ 105 → a ≠ 110 → (gst (gst (gst (gst σ 104 L (nI w)) 99 2 (nI (L + 1))) 110 L (nI w)) 105 5 (nI (L + 1))) a = σ a := fun a q1 q2 q3 q4 => by rw [gst_row q3, gst_row q4, gst_row q1, gst_row q2]
      obtain ⟨V, v1, v2, v3, v4⟩ := a
      refine ⟨⟨V, v1, v2, Rc_same v3 (fun a _ _ => e a (by omega) (by omega) (by omega) (by omega)), by rw [e 106 (by decide) (by decide) (by decide) (by decide)]; exact v4⟩, ?_, St_same s (fun a _ _ => e a (by omega) (by omega) (by omega) (by omega)), ?_, Sl_same s1 (e _ (by decide) (by decide) (by decide) (by decide)) (e _ (by decide) (by decide) (by decide) (by decide)) (e _ (by decide) (by decide) (by decide) (by decide)) (fun a _ _ => e a (by omega) (by omega) (by omega) (by omega)), Sl_same s2 (e _ (by decide) (by decide) (by decide) (by decide)) (e _ (by decide) (by decide) (by decide) (by decide)) (e _ (by decide) (by decide) (by decide) (by decide)) (fun a _ _ => e a (by omega) (by omega) (by omega) (by omega)), Gg_same g (fun b hb hn => e (b + 3) (by rcases hb with q | q | q | q <;> omega) (by rcases hb with q | q | q | q <;> omega) (by rcases hb with q | q | q | q <;> omega) (by rcases hb with q | q | q | q <;> omega))⟩
      · intro b hb
        have q : b + 14 < 99 := by rcases hb with q | q | q | q <;> omega
        rw [e (b + 1) (by omega) (by omega) (by omega) (by omega), e (b + 4) (by omega) (by omega) (by omega) (by omega), e (b + 14) (by omega) (by omega) (by omega) (by omega)]
        exact t b hb
      · refine ⟨L + 1, fun j => if j = L then w else c j, by omega, ?_, gst_s2, ?_⟩
        · rw [gst_row (by decide), gst_row (by decide), gst_s2]
        · intro j hj
          simp only [gst_at]
          by_cases f : j = L
          · subst f
            simp [w1, w2]
          · have := h3 j (by omega)
            simp [f]
            exact this
    · have : L = 80 := by omega
      subst this
      rw [if_neg (by decide), bnd2_s]
      refine Sim_err hh rfl ?_
      unfold f_X9_say
      rw [in_X9, bnd_s, if_pos q, if10, h2, if_pos (c := nI 80 = 80) rfl]
  · rw [if_neg q, if00]
    refine Sim_err hh rfl ?_
    unfold f_X9_say
    rw [in_X9, bnd_s, if_neg q, if00]
