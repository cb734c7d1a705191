/-! nozzle, pump, set, wind, command, tick -/
theorem p00 : ptr 0 0 = 1 := rfl
theorem p01 : ptr 0 1 = 25 := rfl
theorem p02 : ptr 0 2 = 49 := rfl
theorem p03 : ptr 0 3 = 74 := rfl
theorem p04 : ptr 0 4 = 99 := rfl
theorem vok_noz {V : Sh} {i j w : Nat} (hV : Vok V) (hj : j < 6) (h1 : loN j ≤ w) (h2 : w ≤ hiN j) : Vok (vset V j i w) := by
  obtain ⟨hN, hP, hS, hC, hH⟩ := hV
  have e18 : vset V j i w 18 = V 18 := vset_r (by omega)
  refine ⟨?_, ?_, ?_, ?_, ?_⟩
  · intro i' hi'
    rw [e18] at hi'
    rw [vset_r (r' := 6) (by omega), vset_r (r' := 7) (by omega), vset_r (r' := 8) (by omega), vset_r (r' := 9) (by omega), vset_r (r' := 10) (by omega), vset_r (r' := 11) (by omega)]
    have a := hN i' hi'
    by_cases e : i' = i
    · subst e
      have : j = 0 ∨ j = 1 ∨ j = 2 ∨ j = 3 ∨ j = 4 ∨ j = 5 := by omega
      rcases this with q | q | q | q | q | q <;> subst q <;> simp [vset, tab] at h1 h2 ⊢ <;> omega
    · rw [vset_n (by omega), vset_n (by omega), vset_n (by omega), vset_n (by omega), vset_n (by omega), vset_n (by omega)]
      exact a
  · intro p hp
    rw [e18, vset_r (r' := 12) (by omega), vset_r (r' := 13) (by omega), vset_r (r' := 14) (by omega), vset_r (r' := 15) (by omega), vset_r (r' := 16) (by omega)]
    exact hP p hp
  · unfold VokS
    rw [e18, vset_r (r' := 17) (by omega)]
    exact hS
  · unfold VokC
    rw [e18, vset_r (r' := 19) (by omega), vset_r (r' := 20) (by omega), vset_r (r' := 21) (by omega)]
    exact hC
  · intro t i' ht hi'
    rw [e18] at ht hi'
    rw [vset_r (by omega)]
    exact hH t i' ht hi'
theorem vok_pmp {V : Sh} {i j w : Nat} (hV : Vok V) (hj : j < 2) (h1 : loP j ≤ w) (h2 : w ≤ hiP j) : Vok (vset V (12 + j) i w) := by
  obtain ⟨hN, hP, hS, hC, hH⟩ := hV
  have e18 : vset V (12 + j) i w 18 = V 18 := vset_r (by omega)
  refine ⟨?_, ?_, ?_, ?_, ?_⟩
  · intro i' hi'
    rw [e18] at hi'
    rw [vset_r (r' := 0) (by omega), vset_r (r' := 1) (by omega), vset_r (r' := 2) (by omega), vset_r (r' := 3) (by omega), vset_r (r' := 4) (by omega), vset_r (r' := 5) (by omega), vset_r (r' := 6) (by omega), vset_r (r' := 7) (by omega), vset_r (r' := 8) (by omega), vset_r (r' := 9) (by omega), vset_r (r' := 10) (by omega), vset_r (r' := 11) (by omega)]
    exact hN i' hi'
  · intro p hp
    rw [e18, vset_r (r' := 14) (by omega), vset_r (r' := 15) (by omega), vset_r (r' := 16) (by omega)]
    have a := hP p hp
    by_cases e : p = i
    · subst e
      have : j = 0 ∨ j = 1 := by omega
      rcases this with q | q <;> subst q <;> simp [vset, tab] at h1 h2 ⊢ <;> omega
    · rw [vset_n (by omega), vset_n (by omega)]
      exact a
  · unfold VokS
    rw [e18, vset_r (r' := 17) (by omega)]
    exact hS
  · unfold VokC
    rw [e18, vset_r (r' := 19) (by omega), vset_r (r' := 20) (by omega), vset_r (r' := 21) (by omega)]
    exact hC
  · intro t i' ht hi'
    rw [e18] at ht hi'
    rw [vset_r (by omega)]
    exact hH t i' ht hi'
theorem vok_set {V : Sh} {j w : Nat} (hV : Vok V) (hj : j < 6) (h1 : loS j ≤ w) (h2 : w ≤ hiS j) : Vok (vset V 17 j w) := by
  obtain ⟨hN, hP, hS, hC, hH⟩ := hV
  have e18 : vset V 17 j w 18 = V 18 := vset_r (by omega)
  refine ⟨?_, ?_, ?_, ?_, ?_⟩
  · intro i' hi'
    rw [e18] at hi'
    rw [vset_r (r' := 0) (by omega), vset_r (r' := 1) (by omega), vset_r (r' := 2) (by omega), vset_r (r' := 3) (by omega), vset_r (r' := 4) (by omega), vset_r (r' := 5) (by omega), vset_r (r' := 6) (by omega), vset_r (r' := 7) (by omega), vset_r (r' := 8) (by omega), vset_r (r' := 9) (by omega), vset_r (r' := 10) (by omega), vset_r (r' := 11) (by omega)]
    exact hN i' hi'
  · intro p hp
    rw [e18, vset_r (r' := 12) (by omega), vset_r (r' := 13) (by omega), vset_r (r' := 14) (by omega), vset_r (r' := 15) (by omega), vset_r (r' := 16) (by omega)]
    exact hP p hp
  · unfold VokS at hS ⊢
    rw [e18]
    have : j = 0 ∨ j = 1 ∨ j = 2 ∨ j = 3 ∨ j = 4 ∨ j = 5 := by omega
    rcases this with q | q | q | q | q | q <;> subst q <;> simp [vset, tab] at h1 h2 ⊢ <;> omega
  · unfold VokC
    rw [e18, vset_r (r' := 19) (by omega), vset_r (r' := 20) (by omega), vset_r (r' := 21) (by omega)]
    exact hC
  · intro t i' ht hi'
    rw [e18] at ht hi'
    rw [vset_r (by omega)]
    exact hH t i' ht hi'
theorem vok_wind {V : Sh} {w : Nat} (hV : Vok V) (h2 : w ≤ 300) : Vok (vset V 18 0 w) := by
  obtain ⟨hN, hP, hS, hC, hH⟩ := hV
  have e : ∀ c, c ≠ 0 → vset V 18 0 w 18 c = V 18 c := fun c hc => vset_n (by omega)
  refine ⟨?_, ?_, ?_, ?_, ?_⟩
  · intro i' hi'
    rw [e 5 (by decide)] at hi'
    rw [vset_r (r' := 0) (by omega), vset_r (r' := 1) (by omega), vset_r (r' := 2) (by omega), vset_r (r' := 3) (by omega), vset_r (r' := 4) (by omega), vset_r (r' := 5) (by omega), vset_r (r' := 6) (by omega), vset_r (r' := 7) (by omega), vset_r (r' := 8) (by omega), vset_r (r' := 9) (by omega), vset_r (r' := 10) (by omega), vset_r (r' := 11) (by omega)]
    exact hN i' hi'
  · intro p hp
    rw [e 4 (by decide), vset_r (r' := 12) (by omega), vset_r (r' := 13) (by omega), vset_r (r' := 14) (by omega), vset_r (r' := 15) (by omega), vset_r (r' := 16) (by omega)]
    exact hP p hp
  · unfold VokS at hS ⊢
    rw [vset_r (r' := 17) (by omega), vset_s, e 1 (by decide), e 2 (by decide), e 3 (by decide), e 4 (by decide), e 5 (by decide), e 6 (by decide), e 7 (by decide), e 8 (by decide)]
    omega
  · unfold VokC
    rw [e 7 (by decide), vset_r (r' := 19) (by omega), vset_r (r' := 20) (by omega), vset_r (r' := 21) (by omega)]
    exact hC
  · intro t i' ht hi'
    rw [e 4 (by decide)] at ht
    rw [e 5 (by decide)] at hi'
    rw [vset_r (by omega)]
    exact hH t i' ht hi'
theorem RrA_of {V V' : Sh} {f : Nat → Int32} (h : RrB (V 18 4) (V 18 5) (V 18 7) V' f) (h4 : V' 18 4 = V 18 4) (h5 : V' 18 5 = V 18 5) (h7 : V' 18 7 = V 18 7) : RrA V' f := by
  unfold RrA
  rw [h4, h5, h7]
  exact h
theorem op_nozzle {σ : Mem} (h : Inv σ) (x s v : Int32) : Sim (f_X8_nozzle σ 0 x s v) (fun σ => f_X9_nozzle σ 105 x s v) := by
  have hh := h
  obtain ⟨⟨V, hV, hT, hc, hr⟩, ht, hs, -⟩ := h
  have hM : V 18 5 ≤ 12 := by have := hV.2.2.1; unfold VokS at this; omega
  have c5 := hc.2.2.1.2.2.2.2.2.2.1
  have r5 : σ 106 938 = nI (V 18 5) := (rr_sets hr).2.2.2.2.2.2.2.2.2.2.2.1
  unfold f_X8_nozzle
  rw [p00, P0_1 SB1, P3_0 SB1, hasN_c c5, bnd_s]
  by_cases c : 0 ≤ x ∧ x ≤ nI (V 18 5) - 1
  · obtain ⟨i, hi, rfl⟩ := of_m (by omega) c
    rw [if_pos c, if_neg (by decide)]
    by_cases q : okS 6 loN hiN s v
    · obtain ⟨j, w, hj, rfl, rfl, w1, w2⟩ := q
      rw [chN_T SB1 ht hs (by omega) hj w1 w2, bnd2_s]
      have R1 := rc_noz (i := i) (w := w) hc hj
      have F1 : Fr 1 σ (gst σ (1 + 5) (6 * i + j) (nI w)) := Fr_gst (by omega) (by omega)
      have e1 : σ (1 + 5) (6 * i + j) = nI (V j i) := (hc.1 i hi).1 j hj
      refine ⟨_, rfl, ?_⟩
      dsimp only
      generalize gst σ (1 + 5) (6 * i + j) (nI w) = σ1 at R1 F1
      have g6 : σ1 106 = σ 106 := F1.1 106 (by omega)
      unfold f_X9_nozzle
      rw [hasN_r (by rw [g6]; exact r5), bnd_s, if_pos c, if_neg (by decide), ofN_T hj w1 w2, bnd_s, if_neg (by decide), l_12, nI_mul, nI_add, change9 (by omega), bnd2_s]
      refine ⟨_, rfl, ?_, ?_⟩
      · dsimp only
        rw [g6, e1]
        exact hr.1 i hi j (by omega)
      · dsimp only
        refine Inv_next hh F1 (gst_only _ _ _ _) (vok_noz (i := i) hV hj w1 w2) (by rw [vset_r (by omega)]; exact hT) R1 ?_
        rw [gst_self, g6]
        exact RrA_of (rr_noz hr hM hi (by omega) (vset_s _ _ _ _) (fun r c hrc => vset_n hrc)) (by rw [vset_r (by omega)]) (by rw [vset_r (by omega)]) (by rw [vset_r (by omega)])
    · rw [chN_F SB1 ht hs q, bnd2_s]
      refine Sim_err hh rfl ?_
      unfold f_X9_nozzle
      rw [hasN_r r5, bnd_s, if_pos c, if_neg (by decide), ofN_F q, bnd_s, if_pos rfl]
  · rw [if_neg c, if_pos rfl]
    refine Sim_err hh rfl ?_
    unfold f_X9_nozzle
    rw [hasN_r r5, bnd_s, if_neg c, if_pos rfl]
theorem op_set {σ : Mem} (h : Inv σ) (s v : Int32) : Sim (f_X8_set σ 0 s v) (fun σ => f_X9_set σ 105 s v) := by
  have hh := h
  obtain ⟨⟨V, hV, hT, hc, hr⟩, ht, hs, -⟩ := h
  have hM : V 18 5 ≤ 12 := by have := hV.2.2.1; unfold VokS at this; omega
  unfold f_X8_set
  rw [p00, P0_0 SB1]
  by_cases q : okS 6 loS hiS s v
  · obtain ⟨j, w, hj, rfl, rfl, w1, w2⟩ := q
    rw [chS_T SB1 ht hs hj w1 w2, bnd2_s]
    have R1 := rc_set (j := j) (w := w) hc
    have F1 : Fr 1 σ (gst σ (1 + 2) j (nI w)) := Fr_gst (by omega) (by omega)
    have e1 : σ (1 + 2) j = nI (V 17 j) := hc.2.2.1.1 j hj
    refine ⟨_, rfl, ?_⟩
    dsimp only
    generalize gst σ (1 + 2) j (nI w) = σ1 at R1 F1
    have g6 : σ1 106 = σ 106 := F1.1 106 (by omega)
    unfold f_X9_set
    rw [ofS_T hj w1 w2, bnd_s, if_neg (by decide), l_927, nI_add, change9 (by omega), bnd2_s]
    refine ⟨_, rfl, ?_, ?_⟩
    · dsimp only
      rw [g6, e1]
      exact hr.2.2.1 j hj
    · dsimp only
      refine Inv_next hh F1 (gst_only _ _ _ _) (vok_set hV hj w1 w2) (by rw [vset_r (by omega)]; exact hT) R1 ?_
      rw [gst_self, g6]
      exact RrA_of (rr_set hr hM hj (vset_s _ _ _ _) (fun r c hrc => vset_n hrc)) (by rw [vset_r (by omega)]) (by rw [vset_r (by omega)]) (by rw [vset_r (by omega)])
  · rw [chS_F SB1 ht hs q, bnd2_s]
    refine Sim_err hh rfl ?_
    unfold f_X9_set
    rw [ofS_F q, bnd_s, if_pos rfl]
theorem op_pump {σ : Mem} (h : Inv σ) (x s v : Int32) : Sim (f_X8_pump σ 0 x s v) (fun σ => f_X9_pump σ 105 x s v) := by
  have hh := h
  obtain ⟨⟨V, hV, hT, hc, hr⟩, ht, hs, -⟩ := h
  have hM : V 18 5 ≤ 12 := by have := hV.2.2.1; unfold VokS at this; omega
  unfold f_X8_pump
  rw [p00, P0_2 SB1, P13_0 SB1, in_X8, bnd_s]
  have fF : ∀ σ1 : Mem, 0 ≤ x ∧ x ≤ 2 → ¬ okS 2 loP hiP s v → f_X9_pump σ1 105 x s v = some ((-2), σ1) := by
    intro σ1 c q
    unfold f_X9_pump f_X9_pump_L24 f_X9_pump_L44 f_X9_pump_L40 f_X9_pump_L45
    rw [isP_r, bnd_s, if_pos c, if_neg (by decide)]
    simp only [in_X9, bnd_s]
    by_cases e0 : s = 0
    · rw [if_pos e0, no_okS q (j := 0) (a := 0) (c := 2000) (by decide) e0 rfl rfl (by decide) (by decide), if_pos rfl, if_neg (by rw [e0]; decide), if_pos trivial]
    · rw [if_neg e0]
      by_cases e1 : s = 1
      · rw [if_pos e1, no_okS q (j := 1) (a := 1) (c := 500) (by decide) e1 rfl rfl (by decide) (by decide), if_pos rfl, if_pos trivial]
      · rw [if_neg e1, if_pos trivial]
  by_cases c : 0 ≤ x ∧ x ≤ 2
  · obtain ⟨i, -, hi, rfl⟩ := of_rng (a := 0) (b := 2) (by decide) c (by decide)
    rw [if_pos c, if_neg (by decide)]
    by_cases q : okS 2 loP hiP s v
    · obtain ⟨j, w, hj, rfl, rfl, w1, w2⟩ := q
      rw [chP_T SB1 ht hs (by omega) hj w1 w2, bnd2_s]
      have R1 := rc_pmp (i := i) (w := w) hc hj
      have F1 : Fr 1 σ (gst σ (1 + 15) (2 * i + j) (nI w)) := Fr_gst (by omega) (by omega)
      have e1 : σ (1 + 15) (2 * i + j) = nI (V (12 + j) i) := (hc.2.1 i (by omega)).1 j hj
      refine ⟨_, rfl, ?_⟩
      dsimp only
      generalize gst σ (1 + 15) (2 * i + j) (nI w) = σ1 at R1 F1
      have g6 : σ1 106 = σ 106 := F1.1 106 (by omega)
      have hb : hiP j < 2 ^ 20 := tab_b (by decide) (by decide) j
      have e9 : f_X9_pump σ1 105 (nI i) (nI j) (nI w) = some (σ1 106 (912 + 5 * i + j), gst σ1 106 (912 + 5 * i + j) (nI w)) := by
        unfold f_X9_pump f_X9_pump_L24 f_X9_pump_L44 f_X9_pump_L40 f_X9_pump_L45
        rw [isP_r, bnd_s, if_pos c, if_neg (by decide)]
        simp only [in_X9, bnd_s]
        rw [l_912, l_5, nI_mul, nI_add, nI_add, change9 (by omega)]
        have : j = 0 ∨ j = 1 := by omega
        rcases this with q | q <;> subst q
        · rw [if_pos (by decide), if_pos (c := (0 : Int32) ≤ nI w ∧ nI w ≤ 2000) ⟨nI_le (a := 0) w1 (by omega), nI_le (b := 2000) w2 (by decide)⟩]; rfl
        · rw [if_neg (by decide), if_pos (by decide), if_pos (c := (1 : Int32) ≤ nI w ∧ nI w ≤ 500) ⟨nI_le (a := 1) w1 (by omega), nI_le (b := 500) w2 (by decide)⟩]; rfl
      rw [e9]
      refine ⟨_, rfl, ?_, ?_⟩
      · dsimp only
        rw [g6, e1]
        exact hr.2.1 i (by omega) j (by omega)
      · dsimp only
        refine Inv_next hh F1 (gst_only _ _ _ _) (vok_pmp (i := i) hV hj w1 w2) (by rw [vset_r (by omega)]; exact hT) R1 ?_
        rw [gst_self, g6]
        exact RrA_of (rr_pmp hr hM (by omega) (by omega) (vset_s _ _ _ _) (fun r c hrc => vset_n hrc)) (by rw [vset_r (by omega)]) (by rw [vset_r (by omega)]) (by rw [vset_r (by omega)])
    · rw [chP_F SB1 ht hs q, bnd2_s]
      exact Sim_err hh rfl (fF σ c q)
  · rw [if_neg c, if_pos rfl]
    refine Sim_err hh rfl ?_
    unfold f_X9_pump
    rw [isP_r, bnd_s, if_neg c, if_pos rfl]
theorem op_wind {σ : Mem} (h : Inv σ) (x : Int32) : Sim (f_X8_wind σ 0 x) (fun σ => f_X9_wind σ 105 x) := by
  have hh := h
  obtain ⟨⟨V, hV, hT, hc, hr⟩, ht, hs, -⟩ := h
  have hM : V 18 5 ≤ 12 := by have := hV.2.2.1; unfold VokS at this; omega
  unfold f_X8_wind
  rw [p00, P0_3 SB1, in_X8, bnd_s]
  by_cases c : 0 ≤ x ∧ x ≤ 300
  · obtain ⟨w, -, hw, rfl⟩ := of_rng (a := 0) (b := 300) (by decide) c (by decide)
    rw [if_pos c, if_neg (by decide)]
    have R1 := rc_wind (w := w) hc
    have F1 : Fr 1 σ (gst σ (1 + 19) 0 (nI w)) := Fr_gst (by omega) (by omega)
    have e1 : σ (1 + 19) 0 = nI (V 18 0) := hc.2.2.1.2.1
    refine ⟨_, rfl, ?_⟩
    dsimp only
    generalize gst σ (1 + 19) 0 (nI w) = σ1 at R1 F1
    have g6 : σ1 106 = σ 106 := F1.1 106 (by omega)
    unfold f_X9_wind
    rw [in_X9, bnd_s, if_pos c, if_neg (by decide), l_933, change9 (by decide), bnd2_s]
    refine ⟨_, rfl, ?_, ?_⟩
    · dsimp only
      rw [g6, e1]
      exact (rr_sets hr).2.2.2.2.2.2.1
    · dsimp only
      refine Inv_next hh F1 (gst_only _ _ _ _) (vok_wind hV hw) (by rw [vset_n (by decide)]; exact hT) R1 ?_
      rw [gst_self, g6]
      exact RrA_of (rr_sca (j := 0) hr hM (by decide) (vset_s _ _ _ _) (fun r c hrc => vset_n hrc)) (by rw [vset_n (by decide)]) (by rw [vset_n (by decide)]) (by rw [vset_n (by decide)])
  · rw [if_neg c, if_pos rfl]
    refine Sim_err hh rfl ?_
    unfold f_X9_wind
    rw [in_X9, bnd_s, if_neg c, if_pos rfl]
