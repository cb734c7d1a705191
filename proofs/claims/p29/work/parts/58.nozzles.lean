/-! ticks: the nozzles, and the loops -/
section NzR
variable {U : Sh} {A B : Option Sh} {σ : Mem} {n w : Nat}
def wt (U : Sh) (i : Nat) : Bool := decide (U 17 5 < driftV U i)
def wI (U : Sh) (i : Nat) : Int32 := if anyV (wt U) i = true then 1 else 0
theorem or_b (b : Bool) : ((if b = true then (1 : Int32) else 0) ||| 0 = if b = true then 1 else 0) ∧ ((if b = true then (1 : Int32) else 0) ||| 1 = 1) := by cases b <;> decide
theorem wI_0 {U : Sh} {i : Nat} (h : driftV U i ≤ U 17 5) : wI U i ||| 0 = wI U (i + 1) := by
  have e : anyV (wt U) (i + 1) = anyV (wt U) i := by
    show (anyV (wt U) i || wt U i) = _
    rw [show wt U i = false from decide_eq_false (by omega), Bool.or_false]
  unfold wI
  rw [e]
  exact (or_b _).1
theorem wI_1 {U : Sh} {i : Nat} (h : U 17 5 < driftV U i) : wI U i ||| 1 = wI U (i + 1) := by
  have e : anyV (wt U) (i + 1) = true := by
    show (anyV (wt U) i || wt U i) = _
    rw [show wt U i = true from decide_eq_true h, Bool.or_true]
  unfold wI
  rw [e, if_pos rfl]
  exact (or_b _).2
/-- one nozzle is looked at -/
theorem t166 (hU : Vok U) (h : Lv (tickV U) A B σ) {i : Nat} (hi : i < U 18 5) (x1 x6 x8 : Int32) (h105 : σ 105 i = nI (U 7 i)) (h108 : ∀ p, p < 3 → σ 108 p = nI (dsum U p i)) (h109 : ∀ p, p < 3 → σ 109 p = nI (fsum U p i)) : ∃ σ', f_L_ticks_B166 n w σ 0 x1 (nI (U 18 5)) x6 x8 (wI U i) (nI i) = some (.inr (σ', wI U (i + 1), nI (i + 1))) ∧ Lv (tickV U) A B σ' ∧ Only [108, 109] σ σ' ∧ (∀ p, p < 3 → σ' 108 p = nI (dsum U p (i + 1))) ∧ ∀ p, p < 3 → σ' 109 p = nI (fsum U p (i + 1)) := by
  have hS := hU.2.2.1
  unfold VokS at hS
  have hm := measV_le hU
  obtain ⟨b0, b1, b2, b3, b4, b5, b6, b7, b8, b9, b10, b11⟩ := hU.1 i hi
  have hop := openV_le hU hi
  have how := ownV_le hU hi
  have hfo := flowV_own (V := U) i
  have hfl := flowV_le hU hi
  have hhi := highV_le hU hi
  have hdr := driftV_le hU hi
  have eo : ownV U i = openV U i * U 0 i := rfl
  have tb := tow_b (U 7 i) (goalV U i) (U 3 i)
  have et : openV U i = tow (U 7 i) (goalV U i) (U 3 i) := rfl
  rw [← et] at tb
  obtain ⟨s0, s1, -, s3, s4, s5, -, s7, s8, s9, s10, s11⟩ := o_sp h (i := i) hi
  have s0 : f_X8_spray σ 0 (nI i) 0 = some (nI (U 0 i)) := s0
  have s1 : f_X8_spray σ 0 (nI i) 1 = some (nI (U 1 i)) := s1
  have s3 : f_X8_spray σ 0 (nI i) 3 = some (nI (U 3 i)) := s3
  have s4 : f_X8_spray σ 0 (nI i) 4 = some (nI (U 4 i)) := s4
  have s5 : f_X8_spray σ 0 (nI i) 5 = some (nI (U 5 i)) := s5
  have s7 : f_X8_spray σ 0 (nI i) 7 = some (nI (openV U i)) := s7
  have s8 : f_X8_spray σ 0 (nI i) 8 = some (nI (flowV U i)) := s8
  have s9 : f_X8_spray σ 0 (nI i) 9 = some (nI (highV U i)) := s9
  have s11 : f_X8_spray σ 0 (nI i) 11 = some (nI (max (U 11 i) (highV U i))) := s11
  have s10 : f_X8_spray σ 0 (nI i) 10 = some (nI (driftV U i)) := s10
  obtain ⟨-, -, -, -, k4, k5, -, -⟩ := o_st (n := n) h
  have k4 : f_X8_state n σ 0 4 = some (nI (measV U)) := k4
  have k5 : f_X8_state n σ 0 5 = some (nI (windV U).1) := k5
  have k13 : f_X8_state n σ 0 13 = some (nI (U 17 3)) := o_ss h (j := 3) (by decide)
  have hst := (windV_le (V := U) hU.2.2.1).1
  have hw64 : U 7 i < 2 ^ 31 := by omega
  have ck5 : ckI (nI i) 12 = true := ckI_nI (by omega) (by decide)
  have hix : ix (nI i) = i := ix_nI (by omega)
  have hs := pk_sub_toInt (a := U 7 i) (b := U 3 i) (by omega) (by omega)
  have hv : flowV U i / U 0 i ≤ 1000 := by
    have := Nat.div_le_div_right (c := U 0 i) hfl
    rwa [Nat.mul_div_cancel _ (by omega)] at this
  -- behind the openings
  have l324 : ∃ σ', f_L_ticks_L324 n w σ 0 x1 (nI (U 18 5)) x6 x8 (wI U i) (nI i) (nI (openV U i)) (nI (U 0 i)) (nI (flowV U i)) = some (.inr (σ', wI U (i + 1), nI (i + 1))) ∧ Lv (tickV U) A B σ' ∧ Only [108, 109] σ σ' ∧ (∀ p, p < 3 → σ' 108 p = nI (dsum U p (i + 1))) ∧ ∀ p, p < 3 → σ' 109 p = nI (fsum U p (i + 1)) := by
    have hp4 : U 4 i < 3 := by omega
    have d1 := fsum_le hU (U 4 i) (n := i) (by omega)
    have d2 := fsum_le hU (U 4 i) (n := i + 1) (by omega)
    have q1 : dsum U (U 4 i) (i + 1) = dsum U (U 4 i) i + ownV U i := by
      show dsum U (U 4 i) i + (if U 4 i = U 4 i then ownV U i else 0) = _
      rw [if_pos rfl]
    have q2 : fsum U (U 4 i) (i + 1) = fsum U (U 4 i) i + flowV U i := by
      show fsum U (U 4 i) i + (if U 4 i = U 4 i then flowV U i else 0) = _
      rw [if_pos rfl]
    have hp1 : U 1 i * (flowV U i / U 0 i) ≤ 5000 * 1000 := Nat.mul_le_mul b1.2 hv
    have hp2 : U 1 i * (flowV U i / U 0 i) * (flowV U i / U 0 i) ≤ 5000 * 1000 * 1000 := Nat.mul_le_mul hp1 hv
    have eh : highV U i = flowV U i / U 0 i * (flowV U i / U 0 i) * U 1 i / 1000000 := by
      unfold highV
      rw [Nat.mul_comm (flowV U i / U 0 i * (flowV U i / U 0 i)) (U 1 i), ← Nat.mul_assoc]
    have ed : driftV U i = highV U i * measV U * U 5 i / 100000 := rfl
    have hdl := drift_le hhi hm b5
    have ck3 : ckI (nI (U 4 i)) 3 = true := ckI_nI hp4 (by decide)
    have hix4 : ix (nI (U 4 i)) = U 4 i := ix_nI (by omega)
    have hprod : flowV U i / U 0 i * (flowV U i / U 0 i) * U 1 i < 2 ^ 63 := by
      rw [Nat.mul_comm (flowV U i / U 0 i * (flowV U i / U 0 i)) (U 1 i), ← Nat.mul_assoc]
      omega
    unfold f_L_ticks_L324
    rw [decide_eq_true (nI_ne0 (by omega) (by omega)), chk_t, nI_div (by omega) (by omega) (by omega), nI_l (by omega)]
    unfold nm
    dsimp only
    rw [s9, bnd_s, s1, bnd_s, nI_l (by omega), lN_mul, lN_mul, show (1000000 : Int64) = lN 1000000 from rfl, lN_div hprod (by decide) (by decide), lN_32, ← eh, if_pos rfl, s10, bnd_s, bnd_s, k4, bnd_s, s5, bnd_s, nI_mul, nI_mul, show (100000 : Int32) = nI 100000 from rfl, nI_div (by omega) (by decide) (by decide), ← ed, if_pos rfl, s11, bnd_s, bnd_s, if_pos (nI_le (by omega) (by omega)), s4, bnd_s, AL8, ck3, chk_t, chk_t, hix4, h108 _ hp4, nI_mul, ← eo, nI_l (by omega), nI_l (by omega), lN_add, ← q1, fit_N (by omega), chk_t, lN_32]
    have h1 : Lv (tickV U) A B (gst σ 108 (U 4 i) (nI (dsum U (U 4 i) (i + 1)))) := Lv_gst h (by omega)
    have r1 : gst σ 108 (U 4 i) (nI (dsum U (U 4 i) (i + 1))) 109 = σ 109 := gst_row (by decide)
    have r2 : ∀ p, gst σ 108 (U 4 i) (nI (dsum U (U 4 i) (i + 1))) 108 p = if p = U 4 i then nI (dsum U (U 4 i) (i + 1)) else σ 108 p := by
      intro p
      rw [gst_at]
      by_cases z : p = U 4 i
      · rw [if_pos ⟨rfl, z⟩, if_pos z]
      · rw [if_neg (fun q => z q.2), if_neg z]
    have r3 : Only [108] σ (gst σ 108 (U 4 i) (nI (dsum U (U 4 i) (i + 1)))) := gst_only _ _ _ _
    generalize gst σ 108 (U 4 i) (nI (dsum U (U 4 i) (i + 1))) = σ1 at h1 r1 r2 r3
    have s41 : f_X8_spray σ1 0 (nI i) 4 = some (nI (U 4 i)) := (o_sp h1 (i := i) hi).2.2.2.2.1
    rw [s41, bnd_s, AL9, ck3, chk_t, chk_t, hix4, r1, h109 _ hp4, nI_l (by omega), nI_l (by omega), lN_add, ← q2, fit_N (by omega), chk_t, lN_32]
    have h2 : Lv (tickV U) A B (gst σ1 109 (U 4 i) (nI (fsum U (U 4 i) (i + 1)))) := Lv_gst h1 (by omega)
    have r4 : gst σ1 109 (U 4 i) (nI (fsum U (U 4 i) (i + 1))) 108 = σ1 108 := gst_row (by decide)
    have r5 : ∀ p, gst σ1 109 (U 4 i) (nI (fsum U (U 4 i) (i + 1))) 109 p = if p = U 4 i then nI (fsum U (U 4 i) (i + 1)) else σ1 109 p := by
      intro p
      rw [gst_at]
      by_cases z : p = U 4 i
      · rw [if_pos ⟨rfl, z⟩, if_pos z]
      · rw [if_neg (fun q => z q.2), if_neg z]
    have r6 : Only [109] σ1 (gst σ1 109 (U 4 i) (nI (fsum U (U 4 i) (i + 1)))) := gst_only _ _ _ _
    generalize gst σ1 109 (U 4 i) (nI (fsum U (U 4 i) (i + 1))) = σ2 at h2 r4 r5 r6
    have s102 : f_X8_spray σ2 0 (nI i) 10 = some (nI (driftV U i)) := (o_sp h2 (i := i) hi).2.2.2.2.2.2.2.2.2.2.1
    have k15 : f_X8_state n σ2 0 15 = some (nI (U 17 5)) := o_ss h2 (j := 5) (by decide)
    rw [s102, bnd_s, k15, bnd_s, nI_1]
    have fin : Lv (tickV U) A B σ2 ∧ Only [108, 109] σ σ2 ∧ (∀ p, p < 3 → σ2 108 p = nI (dsum U p (i + 1))) ∧ ∀ p, p < 3 → σ2 109 p = nI (fsum U p (i + 1)) := by
      refine ⟨h2, fun a ha => ?_, ?_, ?_⟩
      · simp at ha
        rw [r6 a (by simp [ha.2]), r3 a (by simp [ha.1])]
      · intro p hp
        rw [r4, r2]
        by_cases z : p = U 4 i
        · rw [if_pos z, z]
        · rw [if_neg z, h108 p hp]
          show nI (dsum U p i) = nI (dsum U p i + (if U 4 i = p then ownV U i else 0))
          rw [if_neg (fun q => z q.symm), Nat.add_zero]
      · intro p hp
        rw [r5]
        by_cases z : p = U 4 i
        · rw [if_pos z, z]
        · rw [if_neg z, r1, h109 p hp]
          show nI (fsum U p i) = nI (fsum U p i + (if U 4 i = p then flowV U i else 0))
          rw [if_neg (fun q => z q.symm), Nat.add_zero]
    by_cases z : driftV U i ≤ U 17 5
    · rw [if_pos (nI_le z (by omega)), wI_0 z]
      exact ⟨σ2, rfl, fin⟩
    · rw [if_neg (nI_ge (by omega) (by omega)), wI_1 (by omega)]
      exact ⟨σ2, rfl, fin⟩
  obtain ⟨σ', e', fin⟩ := l324
  refine ⟨σ', ?_, fin⟩
  have l290 : f_L_ticks_L290 n w σ 0 x1 (nI (U 18 5)) x6 x8 (wI U i) (nI i) (nI (openV U i)) (nI (U 0 i)) (nI (U 3 i)) (nI (flowV U i)) = some (.inr (σ', wI U (i + 1), nI (i + 1))) := by
    unfold f_L_ticks_L290
    rw [k5, bnd_s, AL5, ck5, chk_t, hix, h105, k13, bnd_s, e']
    by_cases z : (windV U).1 = 1
    · rw [if_pos (by rw [z]; rfl)]
      by_cases z2 : openV U i ≤ U 17 3
      · rw [if_pos (nI_le z2 (by omega))]
      · obtain ⟨o1, o2⟩ := open_1 (i := i) z (by omega)
        rw [if_neg (nI_ge (by omega) (by omega)), nI_sub o1, ← o2, if_pos rfl]
    · rw [if_neg (c := nI (windV U).1 = 1) (fun q => z (nI_inj (b := 1) (by omega) (by decide) q))]
  unfold f_L_ticks_B166
  rw [if_neg (nI_ge hi (by omega)), s7, bnd_s, s0, bnd_s, s3, bnd_s, s8, bnd_s, AL5, ck5, hix, h105]
  simp only [chk_t]
  rw [if_neg (c := nI (openV U i) < nI (U 7 i) - nI (U 3 i)) (by rw [lt_i, hs, nI_toInt (by omega)]; omega), nI_add, if_neg (nI_nlt (by omega) (by omega)), if_neg (nI_pos (by omega)), if_neg (c := 1000 < nI (openV U i)) (nI_nlt (b := openV U i) (a := 1000) hop (by decide)), nI_mul, ← eo, if_neg (nI_nlt (by omega) (by omega)), if_pos (nI_pos' (by omega)), k5, bnd_s, l290]
  by_cases z : (windV U).1 = 2
  · rw [if_pos (by rw [z]; rfl)]
    by_cases z2 : openV U i = 0
    · rw [if_pos (by rw [z2]; decide)]
    · obtain ⟨o1, o2⟩ := open_2 (i := i) z (by omega)
      rw [if_neg (nI_nle (by omega) (by omega)), nI_sub o1, ← o2, if_pos rfl]
  · rw [if_neg (c := nI (windV U).1 = 2) (fun q => z (nI_inj (b := 2) (by omega) (by decide) q))]
end NzR
