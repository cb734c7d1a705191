/-! act -/
theorem up_7 (v : Int32) : f_L_up v 7 = some (nI (upN v 7)) := up_ok v (m := 7) (by decide) (by decide)
theorem up_9 (v : Int32) : f_L_up v 9 = some (nI (upN v 9)) := up_ok v (m := 9) (by decide) (by decide)
theorem up_3 (v : Int32) : f_L_up v 3 = some (nI (upN v 3)) := up_ok v (m := 3) (by decide) (by decide)
theorem up_12 (v : Int32) : f_L_up v 12 = some (nI (upN v 12)) := up_ok v (m := 12) (by decide) (by decide)
theorem up_20 (v : Int32) : f_L_up v 20 = some (nI (upN v 20)) := up_ok v (m := 20) (by decide) (by decide)
theorem up_25 (v : Int32) : f_L_up v 25 = some (nI (upN v 25)) := up_ok v (m := 25) (by decide) (by decide)
theorem up_30 (v : Int32) : f_L_up v 30 = some (nI (upN v 30)) := up_ok v (m := 30) (by decide) (by decide)
theorem up_40 (v : Int32) : f_L_up v 40 = some (nI (upN v 40)) := up_ok v (m := 40) (by decide) (by decide)
theorem up_41 (v : Int32) : f_L_up v 41 = some (nI (upN v 41)) := up_ok v (m := 41) (by decide) (by decide)
theorem up_60 (v : Int32) : f_L_up v 60 = some (nI (upN v 60)) := up_ok v (m := 60) (by decide) (by decide)
theorem up_100 (v : Int32) : f_L_up v 100 = some (nI (upN v 100)) := up_ok v (m := 100) (by decide) (by decide)
theorem up_101 (v : Int32) : f_L_up v 101 = some (nI (upN v 101)) := up_ok v (m := 101) (by decide) (by decide)
theorem up_301 (v : Int32) : f_L_up v 301 = some (nI (upN v 301)) := up_ok v (m := 301) (by decide) (by decide)
theorem up_500 (v : Int32) : f_L_up v 500 = some (nI (upN v 500)) := up_ok v (m := 500) (by decide) (by decide)
theorem up_600 (v : Int32) : f_L_up v 600 = some (nI (upN v 600)) := up_ok v (m := 600) (by decide) (by decide)
theorem up_1000 (v : Int32) : f_L_up v 1000 = some (nI (upN v 1000)) := up_ok v (m := 1000) (by decide) (by decide)
theorem up_1001 (v : Int32) : f_L_up v 1001 = some (nI (upN v 1001)) := up_ok v (m := 1001) (by decide) (by decide)
theorem up_4095 (v : Int32) : f_L_up v 4095 = some (nI (upN v 4095)) := up_ok v (m := 4095) (by decide) (by decide)
theorem up_5000 (v : Int32) : f_L_up v 5000 = some (nI (upN v 5000)) := up_ok v (m := 5000) (by decide) (by decide)
theorem add1 (r : Nat) : (1 : Int32) + nI r = nI (1 + r) := nI_add 1 r
theorem tk_keep (V : Sh) {r : Nat} (hr : r < 22) (h : r ≠ 6 ∧ r ≠ 7 ∧ r ≠ 8 ∧ r ≠ 9 ∧ r ≠ 10 ∧ r ≠ 11 ∧ r ≠ 14 ∧ r ≠ 15 ∧ r ≠ 16 ∧ r ≠ 18) : ∀ k, tkV V k r = V r
  | 0 => rfl
  | k + 1 => (funext fun i => tick_lo (V := tkV V k) (i := i) hr h).trans (tk_keep V hr h k)
theorem tk_18 (V : Sh) {j : Nat} (h : j = 0 ∨ j = 5 ∨ j = 7) : ∀ k, tkV V k 18 j = V 18 j
  | 0 => rfl
  | k + 1 => (tick_18 (V := tkV V k) (j := j) (by omega)).trans (tk_18 V h k)
/-- after k acts -/
def Bd (k : Nat) (V : Sh) : Prop := V 18 7 ≤ k ∧ V 18 4 ≤ 7 * k ∧ ∀ c, c < V 18 7 → V 19 c ≤ 27 * k + 24
section AcR
variable {V : Sh} {A B : Option Sh} {σ : Mem} {n w k : Nat}
theorem act_t (h : Lv V A B σ) (hb : Bd k V) (hk : k < 18) (hn : 2000 < n) (hw : 61 < w) (x : Int32) : Ret (f_L_act_L52 n w σ 0 x) (fun q => q.1 = 1 ∧ ∃ V', Lv V' A B q.2 ∧ Bd (k + 1) V') := by
  obtain ⟨b1, b2, b3⟩ := hb
  have u := up_lt x (m := 7) (by decide)
  unfold f_L_act_L52
  rw [up_7, bnd_s, add1]
  refine Ret_bnd2 (ticks_ok h hn hw (e := 1 + upN x 7) (by omega) (by omega)) ?_
  rintro r s ⟨r1, h1⟩
  dsimp only at r1 h1
  subst r1
  refine Ret_chk bit1 (Ret_some ⟨rfl, _, h1, ?_, ?_, ?_⟩)
  · rw [tk_18 V (by omega)]
    omega
  · rw [tk_time]
    omega
  · rw [tk_18 V (by omega), tk_keep V (r := 19) (by decide) (by decide)]
    intro c hc
    have := b3 c hc
    omega
theorem act_c (h : Lv V A B σ) (hb : Bd k V) (hk : k < 18) (hn : 2000 < n) (x z : Int32) : Ret (f_L_act_L65 n w σ 0 x z) (fun q => q.1 = 1 ∧ ∃ V', Lv V' A B q.2 ∧ Bd (k + 1) V') := by
  obtain ⟨b1, b2, b3⟩ := hb
  have u1 := up_lt x (m := 25) (by decide)
  have u2 := up_lt (x >>> (5 &&& 31)) (m := 4095) (by decide)
  have u3 := up_lt z (m := 1001) (by decide)
  unfold f_L_act_L65
  rw [(o_st h).1, bnd_s, up_25, bnd_s, nI_add]
  refine Ret_nm ?_
  rw [(o_st h).2.2.1, bnd_s, up_4095, bnd_s, up_1001, bnd_s, add1]
  refine Ret_bnd2 (o_cue h (by omega) (by omega) (by omega) (by omega) (by omega) (by omega)) ?_
  rintro r s ⟨j, ⟨j1, j2, j3⟩, r1, h1⟩
  dsimp only at r1 h1
  have c7 : setC V (V 18 7 + 1) (insW (cuesV V) j (V 18 4 + upN x 25) (1 + upN (x >>> (5 &&& 31)) 4095) (upN z 1001)) 18 7 = V 18 7 + 1 := setC_7 _ _ _
  have c4 : setC V (V 18 7 + 1) (insW (cuesV V) j (V 18 4 + upN x 25) (1 + upN (x >>> (5 &&& 31)) 4095) (upN z 1001)) 18 4 = V 18 4 := setC_18 (by decide)
  have c19 : setC V (V 18 7 + 1) (insW (cuesV V) j (V 18 4 + upN x 25) (1 + upN (x >>> (5 &&& 31)) 4095) (upN z 1001)) 19 = insW (cuesV V) j (V 18 4 + upN x 25) (1 + upN (x >>> (5 &&& 31)) 4095) (upN z 1001) 0 := setC_w (r := 0) (by decide)
  have c21 : setC V (V 18 7 + 1) (insW (cuesV V) j (V 18 4 + upN x 25) (1 + upN (x >>> (5 &&& 31)) 4095) (upN z 1001)) 21 = insW (cuesV V) j (V 18 4 + upN x 25) (1 + upN (x >>> (5 &&& 31)) 4095) (upN z 1001) 2 := setC_w (r := 2) (by decide)
  generalize setC V (V 18 7 + 1) (insW (cuesV V) j (V 18 4 + upN x 25) (1 + upN (x >>> (5 &&& 31)) 4095) (upN z 1001)) = V' at h1 c7 c4 c19 c21
  have i0 : insW (cuesV V) j (V 18 4 + upN x 25) (1 + upN (x >>> (5 &&& 31)) 4095) (upN z 1001) 0 j = V 18 4 + upN x 25 := by
    unfold insW
    rw [if_neg (by omega), if_pos rfl, if_pos rfl]
  have i2 : insW (cuesV V) j (V 18 4 + upN x 25) (1 + upN (x >>> (5 &&& 31)) 4095) (upN z 1001) 2 j = upN z 1001 := by
    unfold insW
    rw [if_neg (by omega), if_pos rfl, if_neg (by decide), if_neg (by decide)]
  obtain ⟨p0, -, p2⟩ := o_pt h1 (i := j) (by omega)
  rw [r1, if_neg (nI_pos (by omega)), (o_st h1).2.2.1, bnd_s, c7, nI_1, if_pos rfl, p0, bnd_s, c19, i0, if_pos rfl, p2, bnd_s, c21, i2, bnd_s, if_pos rfl]
  refine Ret_some ⟨rfl, V', h1, by omega, by omega, ?_⟩
  rw [c7, c19]
  intro c hc
  unfold insW
  by_cases q : c < j
  · rw [if_pos q]
    have := b3 c (by omega)
    show V 19 c ≤ _
    omega
  · rw [if_neg q]
    by_cases q2 : c = j
    · rw [if_pos q2, if_pos rfl]
      omega
    · rw [if_neg q2]
      have := b3 (c - 1) (by omega)
      show V 19 (c - 1) ≤ _
      omega
theorem Bd.up (hb : Bd k V) : Bd (k + 1) V := by
  obtain ⟨b1, b2, b3⟩ := hb
  exact ⟨by omega, by omega, fun c hc => by have := b3 c hc; omega⟩
theorem act_m (h : Lv V A B σ) (hb : Bd k V) (hk : k < 18) (hn : 2000 < n) (x z : Int32) : Ret (bnd (f_X8_state n σ 0 2) fun r_4 =>
  (if r_4 = 0 then bnd2 (f_X8_move n σ 0 0 1) fun r_28 σ_29 =>
  (if r_28 = (-1) then some (1, σ_29)
  else some (0, σ_29))
  else bnd (f_L_up x r_4) fun r_6 =>
  bnd (f_X8_part σ 0 r_6 0) fun r_8 =>
  bnd (f_X8_part σ 0 r_6 1) fun r_10 =>
  bnd (f_L_up z 41) fun r_12 =>
  nm ((r_12 - 20)) fun x8_13 =>
  bnd2 (f_X8_move n σ 0 r_6 x8_13) fun r_15 σ_16 =>
  (if 0 ≤ (r_8 + x8_13) then bnd (f_X8_part σ_16 0 r_15 0) fun r_18 =>
  (if r_18 = (r_8 + x8_13) then bnd (f_X8_part σ_16 0 r_15 1) fun r_20 =>
  (if r_20 = r_10 then (if r_15 = (r_4 - 1) then f_L_act_L447 n w σ_16 0 r_4
  else bnd (f_X8_part σ_16 0 (r_15 + 1) 0) fun r_24 =>
  (if r_24 ≤ (r_8 + x8_13) then some (0, σ_16)
  else f_L_act_L447 n w σ_16 0 r_4))
  else some (0, σ_16))
  else some (0, σ_16))
  else (if r_15 = (-2) then bnd (f_X8_part σ_16 0 r_6 0) fun r_26 =>
  (if r_26 = r_8 then some (1, σ_16)
  else f_L_act_L390 n w σ_16 0)
  else f_L_act_L390 n w σ_16 0)))) (fun q : Int32 × Mem => q.1 = 1 ∧ ∃ V', Lv V' A B q.2 ∧ Bd (k + 1) V') := by
  have hbb := hb
  have hS := h.vs
  unfold VokS at hS
  obtain ⟨b1, b2, b3⟩ := hb
  rw [(o_st h).2.2.1, bnd_s]
  by_cases q0 : V 18 7 = 0
  · have e : f_X8_move n σ 0 0 1 = some (-1, σ) := by
      unfold f_X8_move
      rw [p00, P0_4 SB1, hasC_c (b := 1) h.1.2.2.2.2.1.2.2.2.2.2.2.2.2.1, q0, if_neg (by decide), bnd_s, if00]
    rw [if_pos (by rw [q0]; rfl), e, bnd2_s, if_pos rfl]
    exact Ret_some ⟨rfl, V, h, hbb.up⟩
  · have ua := up_lt x (m := V 18 7) (by omega)
    have uu := up_lt z (m := 41) (by decide)
    rw [if_neg (nI_ne0 (by omega) (by omega)), up_ok x (m := V 18 7) (by omega) (by omega), bnd_s]
    generalize upN x (V 18 7) = a at ua
    obtain ⟨p0, p1, -⟩ := o_pt h ua
    rw [p0, bnd_s, p1, bnd_s, up_41, bnd_s]
    generalize upN z 41 = u at uu
    have ta := b3 a ua
    have hy : (nI u - 20).toInt = (u : Int) - 20 := pk_sub_toInt (a := u) (b := 20) (by omega) (by decide)
    refine Ret_nm ?_
    generalize nI u - 20 = y at hy
    have hs : (nI (V 19 a) + y).toInt = (V 19 a : Int) + u - 20 := by
      rw [ti_add (by rw [nI_toInt (by omega), hy]; omega) (by rw [nI_toInt (by omega), hy]; omega), nI_toInt (by omega), hy]
      omega
    have hyr : (-100000 : Int32) ≤ y ∧ y ≤ 100000 := by
      rw [le_i, le_i, hy, show (-100000 : Int32).toInt = -100000 from rfl, show (100000 : Int32).toInt = 100000 from rfl]
      omega
    by_cases q1 : 20 ≤ V 19 a + u
    · obtain ⟨t, ht⟩ : ∃ t, t = V 19 a + u - 20 := ⟨_, rfl⟩
      have et : nI (V 19 a) + y = nI t := eq_nI (by omega) (by omega)
      refine Ret_bnd2 (o_move h (by omega) ua hyr et (by omega)) ?_
      rintro r s ⟨j, ⟨j1, j2, j3⟩, r1, h1⟩
      dsimp only at r1 h1
      have c7 : setC V (V 18 7) (movW (cuesV V) a t j) 18 7 = V 18 7 := setC_7 _ _ _
      have c4 : setC V (V 18 7) (movW (cuesV V) a t j) 18 4 = V 18 4 := setC_18 (by decide)
      have c19 : setC V (V 18 7) (movW (cuesV V) a t j) 19 = movW (cuesV V) a t j 0 := setC_w (r := 0) (by decide)
      have c20 : setC V (V 18 7) (movW (cuesV V) a t j) 20 = movW (cuesV V) a t j 1 := setC_w (r := 1) (by decide)
      generalize setC V (V 18 7) (movW (cuesV V) a t j) = V' at h1 c7 c4 c19 c20
      have m0 : movW (cuesV V) a t j 0 j = t := by
        unfold movW insW
        rw [if_neg (by omega), if_pos rfl, if_pos rfl]
      have m1 : movW (cuesV V) a t j 1 j = V 20 a := by
        unfold movW insW
        rw [if_neg (by omega), if_pos rfl, if_neg (by decide), if_pos rfl]
        rfl
      obtain ⟨d0, d1, -⟩ := o_pt h1 (i := j) (by omega)
      have out : ∀ c, c < V 18 7 - 1 → outW (cuesV V) a 0 c ≤ 27 * k + 24 := by
        intro c hc
        unfold outW
        by_cases q : c < a
        · rw [if_pos q]
          exact b3 c (by omega)
        · rw [if_neg q]
          exact b3 (c + 1) (by omega)
      have bd : Bd (k + 1) V' := by
        refine ⟨by omega, by omega, ?_⟩
        rw [c7, c19]
        intro c hc
        unfold movW insW
        by_cases q : c < j
        · rw [if_pos q]
          have := out c (by omega)
          omega
        · rw [if_neg q]
          by_cases q2 : c = j
          · rw [if_pos q2, if_pos rfl]
            omega
          · rw [if_neg q2]
            have := out (c - 1) (by omega)
            omega
      have l447 : Ret (f_L_act_L447 n w s 0 (nI (V 18 7))) (fun q : Int32 × Mem => q.1 = 1 ∧ ∃ V', Lv V' A B q.2 ∧ Bd (k + 1) V') := by
        unfold f_L_act_L447
        rw [(o_st h1).2.2.1, bnd_s, c7, if_pos rfl]
        exact Ret_some ⟨rfl, V', h1, bd⟩
      rw [et, if_pos (nI_pos' (by omega)), r1, d0, bnd_s, c19, m0, if_pos rfl, d1, bnd_s, c20, m1, if_pos rfl, l_1, nI_sub (by omega)]
      by_cases q2 : j = V 18 7 - 1
      · rw [if_pos (by rw [q2])]
        exact l447
      · have mj : movW (cuesV V) a t j 0 (j + 1) = outW (cuesV V) a 0 j := by
          unfold movW
          show (if j + 1 < j then _ else if j + 1 = j then _ else outW (cuesV V) a 0 (j + 1 - 1)) = _
          rw [if_neg (by omega), if_neg (by omega), Nat.add_sub_cancel]
        obtain ⟨d2, -, -⟩ := o_pt h1 (i := j + 1) (by omega)
        have := out j (by omega)
        have := j3 (by omega)
        rw [if_neg (fun q => q2 (nI_inj (by omega) (by omega) q)), nI_add, d2, bnd_s, c19, mj, if_neg (nI_ge (by omega) (by omega))]
        exact l447
    · have neg : ¬ (0 ≤ nI (V 19 a) + y) := by
        rw [le_i, hs, Int32.toInt_zero]
        omega
      rw [o_moveF h ua hyr (fun q => neg q.1), bnd2_s]
      dsimp only
      rw [if_neg neg, if_pos rfl, p0, bnd_s, if_pos rfl]
      exact Ret_some ⟨rfl, V, h, hbb.up⟩
theorem act_ok (h : Lv V A B σ) (hb : Bd k V) (hk : k < 18) (hn : 2000 < n) (hw : 61 < w) (x y z : Int32) : Ret (f_L_act n w σ 0 x y z) (fun q => q.1 = 1 ∧ ∃ V', Lv V' A B q.2 ∧ Bd (k + 1) V') := by
  have hS := h.vs
  unfold VokS at hS
  unfold f_L_act
  rw [up_9, bnd_s]
  have u := up_lt x (m := 9) (by decide)
  generalize upN x 9 = c at u
  have : c = 0 ∨ c = 1 ∨ c = 2 ∨ c = 3 ∨ c = 4 ∨ c = 5 ∨ c = 6 ∨ c = 7 ∨ c = 8 := by omega
  rcases this with q | q | q | q | q | q | q | q | q <;> subst q
  · exact Ret_iteT (c := nI 0 = 0) (by decide) (act_t h hb hk hn hw y)
  · exact Ret_iteF (c := nI 1 = 0) (by decide) (Ret_iteT (c := nI 1 = 1) (by decide) (act_t h hb hk hn hw y))
  · exact Ret_iteF (c := nI 2 = 0) (by decide) (Ret_iteF (c := nI 2 = 1) (by decide) (Ret_iteT (c := nI 2 = 2) (by decide) (act_t h hb hk hn hw y)))
  · exact Ret_iteF (c := nI 3 = 0) (by decide) (Ret_iteF (c := nI 3 = 1) (by decide) (Ret_iteF (c := nI 3 = 2) (by decide) (Ret_iteT (c := nI 3 = 3) (by decide) (act_t h hb hk hn hw y))))
  · exact Ret_iteF (c := nI 4 = 0) (by decide) (Ret_iteF (c := nI 4 = 1) (by decide) (Ret_iteF (c := nI 4 = 2) (by decide) (Ret_iteF (c := nI 4 = 3) (by decide) (Ret_iteT (c := nI 4 = 4) (by decide) (act_c h hb hk hn y z)))))
  · exact Ret_iteF (c := nI 5 = 0) (by decide) (Ret_iteF (c := nI 5 = 1) (by decide) (Ret_iteF (c := nI 5 = 2) (by decide) (Ret_iteF (c := nI 5 = 3) (by decide) (Ret_iteF (c := nI 5 = 4) (by decide) (Ret_iteT (c := nI 5 = 5) (by decide) (act_c h hb hk hn y z))))))
  · refine Ret_iteF (c := nI 6 = 0) (by decide) (Ret_iteF (c := nI 6 = 1) (by decide) (Ret_iteF (c := nI 6 = 2) (by decide) (Ret_iteF (c := nI 6 = 3) (by decide) (Ret_iteF (c := nI 6 = 4) (by decide) (Ret_iteF (c := nI 6 = 5) (by decide) (Ret_iteT (c := nI 6 = 6) (by decide) ?_))))))
    have u1 := up_lt z (m := 1001) (by decide)
    have u2 := up_lt y (m := 4095) (by decide)
    rw [up_1001, bnd_s, up_4095, bnd_s, add1]
    refine Ret_nm (Ret_bnd2 (o_cmd h (by omega) (by omega) (by omega) (by omega)) ?_)
    generalize upN z 1001 = v at u1
    generalize hs : 1 + upN y 4095 = s
    rintro r σ1 ⟨r1, h1⟩
    dsimp only at r1 h1
    have c4 : vrow V 6 (obeyV (V 6) s v) 18 4 = V 18 4 := by rw [vrow_n (by decide)]
    have c5 : vrow V 6 (obeyV (V 6) s v) 18 5 = V 18 5 := by rw [vrow_n (by decide)]
    rw [r1, (o_st h1).1, bnd_s, c4, if_pos rfl]
    unfold f_L_act_L205
    refine Ret_for0 (V 18 5) (fun _ => True) ?_ ?_ (i := 0) (Nat.zero_le _) (by omega) trivial
    · intro i hi _
      unfold f_L_act_B205
      rw [(o_st h1).2.1, bnd_s, c5, if_neg (nI_ge hi (by omega)), bit_at (by omega) (by omega), nI_1]
      have s6 : f_X8_spray σ1 0 (nI i) 6 = some (nI (vrow V 6 (obeyV (V 6) s v) 6 i)) := (o_sp h1 (i := i) (by rw [c5]; exact hi)).2.2.2.2.2.2.1
      by_cases q : s.testBit i = true
      · have e6 : vrow V 6 (obeyV (V 6) s v) 6 i = v := by
          rw [vrow_s]
          unfold obeyV
          rw [if_pos q]
        rw [if_pos (by rw [if_pos q]), s6, bnd_s, e6, if_pos rfl]
        exact Ret_nm (Ret_some ⟨rfl, trivial⟩)
      · rw [if_neg (by rw [if_neg q]; decide)]
        exact Ret_nm (Ret_some ⟨rfl, trivial⟩)
    · intro _
      unfold f_L_act_B205
      rw [(o_st h1).2.1, bnd_s, c5, if_pos (c := nI (V 18 5) ≤ nI (V 18 5)) (Int32.le_refl _)]
      refine Ret_some ⟨rfl, _, h1, ?_⟩
      obtain ⟨b1, b2, b3⟩ := hb.up
      exact ⟨by rw [vrow_n (by decide)]; exact b1, by rw [vrow_n (by decide)]; exact b2, by rw [vrow_n (by decide), vrow_n (by decide)]; exact b3⟩
  · refine Ret_iteF (c := nI 7 = 0) (by decide) (Ret_iteF (c := nI 7 = 1) (by decide) (Ret_iteF (c := nI 7 = 2) (by decide) (Ret_iteF (c := nI 7 = 3) (by decide) (Ret_iteF (c := nI 7 = 4) (by decide) (Ret_iteF (c := nI 7 = 5) (by decide) (Ret_iteF (c := nI 7 = 6) (by decide) (Ret_iteT (c := nI 7 = 7) (by decide) ?_)))))))
    have u1 := up_lt z (m := 301) (by decide)
    rw [up_301, bnd_s]
    refine Ret_bnd2 (o_wind h (by omega)) ?_
    generalize upN z 301 = v at u1
    rintro r σ1 ⟨r1, h1⟩
    dsimp only at r1 h1
    rw [r1, if_neg (nI_pos (by omega)), (o_st h1).2.2.2.1, bnd_s, vset_s, bnd_s, if_pos rfl]
    refine Ret_some ⟨rfl, _, h1, ?_⟩
    obtain ⟨b1, b2, b3⟩ := hb.up
    exact ⟨by rw [vset_n (by decide)]; exact b1, by rw [vset_n (by decide)]; exact b2, by rw [vset_n (by decide), vset_r (by decide)]; exact b3⟩
  · exact Ret_iteF (c := nI 8 = 0) (by decide) (Ret_iteF (c := nI 8 = 1) (by decide) (Ret_iteF (c := nI 8 = 2) (by decide) (Ret_iteF (c := nI 8 = 3) (by decide) (Ret_iteF (c := nI 8 = 4) (by decide) (Ret_iteF (c := nI 8 = 5) (by decide) (Ret_iteF (c := nI 8 = 6) (by decide) (Ret_iteF (c := nI 8 = 7) (by decide) (act_m h hb hk hn y z))))))))
end AcR
