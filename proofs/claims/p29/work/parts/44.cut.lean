/-! safeCut: shows that differ in CUT only -/
def Ag (V V' : Sh) : Prop := (∀ r i, r < 12 → i < V 18 5 → V' r i = V r i) ∧ (∀ r p, 12 ≤ r → r < 17 → p < 3 → V' r p = V r p) ∧ (∀ j, j ≠ 3 → V' 17 j = V 17 j) ∧ (∀ j, V' 18 j = V 18 j) ∧ (∀ r j, 19 ≤ r → r ≤ 21 → j < V 18 7 → V' r j = V r j) ∧ ∀ t i, t < V 18 4 → i < V 18 5 → V' (22 + t) i = V (22 + t) i
theorem ag_carry {V V' : Sh} (h : Ag V V') {i : Nat} (hi : i < V 18 5) : ∀ k, k ≤ V 18 7 → carryV V' k i = carryV V k i
  | 0, _ => h.1 6 i (by decide) hi
  | k + 1, hk => by
    obtain ⟨h1, h2, h3, h4, h5, h6⟩ := h
    have ih := ag_carry ⟨h1, h2, h3, h4, h5, h6⟩ hi k (by omega)
    show (if V' 19 k = V' 18 4 then obeyV (carryV V' k) (V' 20 k) (V' 21 k) else carryV V' k) i = (if V 19 k = V 18 4 then obeyV (carryV V k) (V 20 k) (V 21 k) else carryV V k) i
    rw [h5 19 k (by omega) (by omega) (by omega), h5 20 k (by omega) (by omega) (by omega), h5 21 k (by omega) (by omega) (by omega), h4]
    by_cases q : V 19 k = V 18 4
    · rw [if_pos q, if_pos q]
      unfold obeyV
      rw [ih]
    · rw [if_neg q, if_neg q]
      exact ih
theorem ag_cmd {V V' : Sh} (h : Ag V V') {i : Nat} (hi : i < V 18 5) : cmdV V' i = cmdV V i := by
  unfold cmdV
  rw [h.2.2.2.1 7]
  exact ag_carry h hi _ (Nat.le_refl _)
theorem ag_filt {V V' : Sh} (h : Ag V V') : filtV V' = filtV V := by
  unfold filtV
  rw [h.2.2.2.1, h.2.2.2.1, h.2.2.1 0 (by decide)]
theorem ag_meas {V V' : Sh} (h : Ag V V') : measV V' = measV V := by
  unfold measV
  rw [ag_filt h]
theorem ag_wind {V V' : Sh} (h : Ag V V') : windV V' = windV V := by
  unfold windV
  rw [ag_meas h, h.2.2.2.1 2, h.2.2.2.1 3, h.2.2.1 1 (by decide), h.2.2.1 2 (by decide), h.2.2.1 4 (by decide)]
theorem ag_goal0 {V V' : Sh} (h : Ag V V') {i : Nat} (hi : i < V 18 5) : goal0 V' i = goal0 V i := by
  unfold goal0
  rw [h.1 2 i (by decide) hi, h.2.2.2.1 4]
  by_cases q : V 2 i ≤ V 18 4
  · rw [if_pos q, if_pos q]
    unfold histV
    rw [h.2.2.2.1 4]
    by_cases q2 : V 18 4 - V 2 i = V 18 4
    · rw [if_pos q2, if_pos q2]
      exact ag_cmd h hi
    · rw [if_neg q2, if_neg q2]
      exact h.2.2.2.2.2 _ i (by omega) hi
  · rw [if_neg q, if_neg q]
theorem sumV_eq {f g : Nat → Nat} : ∀ {n : Nat}, (∀ i, i < n → f i = g i) → sumV f n = sumV g n
  | 0, _ => rfl
  | n + 1, h => by
    show sumV f n + f n = sumV g n + g n
    rw [sumV_eq (n := n) (fun i hi => h i (by omega)), h n (by omega)]
theorem maxV_eq {f g : Nat → Nat} {a : Nat} : ∀ {n : Nat}, (∀ i, i < n → f i = g i) → maxV f a n = maxV g a n
  | 0, _ => rfl
  | n + 1, h => by
    show max (maxV f a n) (f n) = max (maxV g a n) (g n)
    rw [maxV_eq (n := n) (fun i hi => h i (by omega)), h n (by omega)]
theorem anyV_eq {f g : Nat → Bool} : ∀ {n : Nat}, (∀ i, i < n → f i = g i) → anyV f n = anyV g n
  | 0, _ => rfl
  | n + 1, h => by
    show (anyV f n || f n) = (anyV g n || g n)
    rw [anyV_eq (n := n) (fun i hi => h i (by omega)), h n (by omega)]
theorem ag_tick {V V' : Sh} (hV : Vok V) (h : Ag V V') (hg : ∀ i, i < V 18 5 → goalV V' i = goalV V i) : Ag (tickV V) (tickV V') := by
  have hh := h
  obtain ⟨h1, h2, h3, h4, h5, h6⟩ := h
  have op : ∀ i, i < V 18 5 → openV V' i = openV V i := fun i hi => by
    unfold openV
    rw [hg i hi, h1 7 i (by decide) hi, h1 3 i (by decide) hi]
  have ow : ∀ i, i < V 18 5 → ownV V' i = ownV V i := fun i hi => by
    unfold ownV
    rw [op i hi, h1 0 i (by decide) hi]
  have de : ∀ p, demV V' p = demV V p := fun p => by
    unfold demV
    rw [h4 5]
    exact sumV_eq (fun i hi => by rw [h1 4 i (by decide) hi, ow i hi])
  have ru : ∀ p, p < 3 → runV V' p = runV V p := fun p hp => by
    unfold runV
    rw [de, h2 14 p (by decide) (by decide) hp, h2 12 p (by decide) (by decide) hp, h2 13 p (by decide) (by decide) hp]
  have fl : ∀ i, i < V 18 5 → flowV V' i = flowV V i := fun i hi => by
    have := (hV.1 i hi).2.2.2.2.1
    unfold flowV
    rw [h1 4 i (by decide) hi, de, ru _ (by omega), ow i hi]
  have hi' : ∀ i, i < V 18 5 → highV V' i = highV V i := fun i hi => by
    unfold highV
    rw [fl i hi, h1 0 i (by decide) hi, h1 1 i (by decide) hi]
  have dr : ∀ i, i < V 18 5 → driftV V' i = driftV V i := fun i hi => by
    unfold driftV
    rw [hi' i hi, ag_meas hh, h1 5 i (by decide) hi]
  have we : wetV V' = wetV V := by
    unfold wetV
    rw [h4 5, h3 5 (by decide)]
    exact anyV_eq (fun i hi => by rw [dr i hi])
  have gg : ggV V' = ggV V := by
    unfold ggV
    rw [ag_wind hh, h4 8, h4 5]
    rw [maxV_eq (fun i hi => ag_goal0 hh hi)]
  refine ⟨?_, ?_, ?_, ?_, ?_, ?_⟩
  · intro r i hr hi
    have hi : i < V 18 5 := hi
    have : r = 0 ∨ r = 1 ∨ r = 2 ∨ r = 3 ∨ r = 4 ∨ r = 5 ∨ r = 6 ∨ r = 7 ∨ r = 8 ∨ r = 9 ∨ r = 10 ∨ r = 11 := by omega
    rcases this with q | q | q | q | q | q | q | q | q | q | q | q <;> subst q
    · exact h1 0 i (by decide) hi
    · exact h1 1 i (by decide) hi
    · exact h1 2 i (by decide) hi
    · exact h1 3 i (by decide) hi
    · exact h1 4 i (by decide) hi
    · exact h1 5 i (by decide) hi
    · exact ag_cmd hh hi
    · exact op i hi
    · exact fl i hi
    · exact hi' i hi
    · exact dr i hi
    · show max (V' 11 i) (highV V' i) = max (V 11 i) (highV V i)
      rw [h1 11 i (by decide) hi, hi' i hi]
  · intro r p hr1 hr2 hp
    have : r = 12 ∨ r = 13 ∨ r = 14 ∨ r = 15 ∨ r = 16 := by omega
    rcases this with q | q | q | q | q <;> subst q
    · exact h2 12 p (by decide) (by decide) hp
    · exact h2 13 p (by decide) (by decide) hp
    · exact ru p hp
    · exact de p
    · show V' 16 p + (if runV V' p < demV V' p then 1 else 0) = V 16 p + (if runV V p < demV V p then 1 else 0)
      rw [h2 16 p (by decide) (by decide) hp, de, ru p hp]
  · intro j hj
    exact h3 j hj
  · intro j
    by_cases e1 : j = 1
    · subst e1; exact ag_filt hh
    by_cases e2 : j = 2
    · subst e2; show (windV V').1 = (windV V).1; rw [ag_wind hh]
    by_cases e3 : j = 3
    · subst e3; show (windV V').2 = (windV V).2; rw [ag_wind hh]
    by_cases e4 : j = 4
    · subst e4; show V' 18 4 + 1 = V 18 4 + 1; rw [h4]
    by_cases e6 : j = 6
    · subst e6; show V' 18 6 + (if wetV V' = true then 1 else 0) = V 18 6 + (if wetV V = true then 1 else 0); rw [h4, we]
    by_cases e8 : j = 8
    · subst e8; exact gg
    have f : ∀ W : Sh, tickV W 18 j = W 18 j := by
      intro W
      have : j = 0 ∨ j = 5 ∨ j = 7 ∨ 9 ≤ j := by omega
      rcases this with q | q | q | q
      · subst q; rfl
      · subst q; rfl
      · subst q; rfl
      · obtain ⟨d, rfl⟩ : ∃ d, j = d + 9 := ⟨j - 9, by omega⟩
        rfl
    rw [f, f, h4]
  · intro r j hr1 hr2 hj
    have hj : j < V 18 7 := hj
    have : r = 19 ∨ r = 20 ∨ r = 21 := by omega
    rcases this with q | q | q <;> subst q
    · exact h5 19 j (by decide) (by decide) hj
    · exact h5 20 j (by decide) (by decide) hj
    · exact h5 21 j (by decide) (by decide) hj
  · intro t i ht hi
    have ht : t < V 18 4 + 1 := ht
    have hi : i < V 18 5 := hi
    rw [tick_hist, tick_hist, h4]
    by_cases q : t = V 18 4
    · rw [if_pos q, if_pos q]; exact ag_cmd hh hi
    · rw [if_neg q, if_neg q]; exact h6 t i (by omega) hi
theorem maxV_ge {f : Nat → Nat} {a : Nat} : ∀ {n : Nat}, a ≤ maxV f a n ∧ ∀ i, i < n → f i ≤ maxV f a n
  | 0 => ⟨Nat.le_refl _, fun i hi => by omega⟩
  | n + 1 => by
    obtain ⟨a1, a2⟩ := maxV_ge (f := f) (a := a) (n := n)
    refine ⟨?_, fun i hi => ?_⟩
    · show a ≤ max (maxV f a n) (f n)
      omega
    · show f i ≤ max (maxV f a n) (f n)
      by_cases q : i = n
      · subst q; omega
      · have := a2 i (by omega); omega
theorem gg_mono (V : Sh) (k : Nat) : ∀ d, tkV V k 18 8 ≤ tkV V (k + d) 18 8
  | 0 => Nat.le_refl _
  | d + 1 => Nat.le_trans (gg_mono V k d) (by
    show tkV V (k + d) 18 8 ≤ ggV (tkV V (k + d))
    unfold ggV
    split
    · exact maxV_ge.1
    · exact Nat.le_refl _)
theorem wet_mono' (V : Sh) (k : Nat) : ∀ d, tkV V k 18 6 ≤ tkV V (k + d) 18 6
  | 0 => Nat.le_refl _
  | d + 1 => Nat.le_trans (wet_mono' V k d) (by
    show tkV V (k + d) 18 6 ≤ tkV V (k + d) 18 6 + _
    omega)
theorem tk_17 (V : Sh) (j : Nat) : ∀ k, tkV V k 17 j = V 17 j
  | 0 => rfl
  | k + 1 => tk_17 V j k
/-- CUTs that no goal so far went beyond do the same so far -/
theorem ag_run {V V' : Sh} (hV : Vok V) (h : Ag V V') {k : Nat} (hk : V 18 4 + k ≤ 2000000) (g1 : tkV V k 18 8 ≤ V 17 3) (g2 : tkV V k 18 8 ≤ V' 17 3) : ∀ j, j ≤ k → Ag (tkV V j) (tkV V' j)
  | 0, _ => h
  | j + 1, hj => by
    have ih := ag_run hV h hk g1 g2 j (by omega)
    have m := gg_mono V (j + 1) (k - (j + 1))
    rw [show j + 1 + (k - (j + 1)) = k by omega] at m
    refine ag_tick (tk_ok hV j (by omega)) ih ?_
    intro i hi
    have g0 := ag_goal0 ih hi
    unfold goalV
    rw [ag_wind ih, g0, tk_17, tk_17]
    by_cases q : (windV (tkV V j)).1 = 1
    · rw [if_pos q, if_pos q]
      have e : tkV V (j + 1) 18 8 = ggV (tkV V j) := rfl
      unfold ggV at e
      rw [if_pos q] at e
      have := (maxV_ge (f := goal0 (tkV V j)) (a := tkV V j 18 8) (n := tkV V j 18 5)).2 i hi
      omega
    · rw [if_neg q, if_neg q]
def cutV (V : Sh) (c : Nat) : Sh := vset (vset V 17 3 c) 18 8 0
theorem ag_cut (V : Sh) (c c' : Nat) : Ag (cutV V c) (cutV V c') := by
  have e : ∀ r i, ¬ (r = 17 ∧ i = 3) → cutV V c' r i = cutV V c r i := by
    intro r i h
    unfold cutV
    by_cases q : r = 18 ∧ i = 8
    · obtain ⟨rfl, rfl⟩ := q
      rw [vset_s, vset_s]
    · rw [vset_n q, vset_n q, vset_n h, vset_n h]
  exact ⟨fun r i hr _ => e r i (by omega), fun r p _ hr _ => e r p (by omega), fun j hj => e 17 j (by omega), fun j => e 18 j (by omega), fun r j hr _ _ => e r j (by omega), fun t i _ _ => e (22 + t) i (by omega)⟩
theorem cut_17 (V : Sh) (c : Nat) : cutV V c 17 3 = c := by
  unfold cutV
  rw [vset_n (by omega), vset_s]
theorem cut_o {V : Sh} {c r i : Nat} (h1 : ¬ (r = 17 ∧ i = 3)) (h2 : ¬ (r = 18 ∧ i = 8)) : cutV V c r i = V r i := by
  unfold cutV
  rw [vset_n h2, vset_n h1]
theorem vok_cut {V : Sh} {c : Nat} (hV : Vok V) (hc : c ≤ 1000) : Vok (cutV V c) := vok_gg (vok_set (j := 3) hV (by decide) (Nat.zero_le _) hc) (Nat.zero_le _)
def dryV (V : Sh) (e : Nat) : Bool := decide (tkV V e 18 6 = V 18 6)
/-- wet after k of e ticks with the CUT c: so with all down to the greatest goal by then -/
theorem wet_cut {V : Sh} {c c' k e : Nat} (hV : Vok V) (hT : V 18 4 ≤ 200000) (hc : c ≤ 1000) (hk : k ≤ e) (he : e ≤ 1000) (hw : V 18 6 < tkV (cutV V c) k 18 6) (h1 : min c (tkV (cutV V c) k 18 8) ≤ c') (h2 : c' ≤ c) : dryV (cutV V c') e = false := by
  have t0 : ∀ x, cutV V x 18 4 = V 18 4 := fun x => cut_o (by omega) (by omega)
  have w0 : ∀ x, cutV V x 18 6 = V 18 6 := fun x => cut_o (by omega) (by omega)
  have hk' : tkV (cutV V c') k 18 6 = tkV (cutV V c) k 18 6 := by
    by_cases q : c' = c
    · rw [q]
    · have := ag_run (k := k) (vok_cut hV hc) (ag_cut V c c') (by rw [t0]; omega) (by rw [cut_17]; omega) (by rw [cut_17]; omega) k (Nat.le_refl _)
      exact this.2.2.2.1 6
  have m := wet_mono' (cutV V c') k (e - k)
  rw [show k + (e - k) = e by omega] at m
  unfold dryV
  rw [w0]
  exact decide_eq_false (by omega)
theorem rc_ggw {b g : Nat} {V : Sh} {σ : Mem} (h : Rc b V σ) : Rc b (vset V 18 8 g) (gst σ (b + 3) 9 (nI g)) := by
  obtain ⟨h1, h2, h3, h4, h5⟩ := h
  have e5 : vset V 18 8 g 18 5 = V 18 5 := vset_n (by omega)
  have e4 : vset V 18 8 g 18 4 = V 18 4 := vset_n (by omega)
  have e7 : vset V 18 8 g 18 7 = V 18 7 := vset_n (by omega)
  refine ⟨?_, ?_, ?_, ?_, ?_⟩
  · unfold RcN
    rw [e5, vset_r (r' := 6) (by omega), vset_r (r' := 7) (by omega), vset_r (r' := 8) (by omega), vset_r (r' := 9) (by omega), vset_r (r' := 10) (by omega), vset_r (r' := 11) (by omega), gst_row (a := b + 5) (by omega), gst_row (a := b + 6) (by omega), gst_row (a := b + 7) (by omega), gst_row (a := b + 8) (by omega), gst_row (a := b + 9) (by omega), gst_row (a := b + 10) (by omega), gst_row (a := b + 11) (by omega)]
    intro i hi
    refine ⟨?_, (h1 i hi).2⟩
    intro j hj
    rw [vset_r (by omega)]
    exact (h1 i hi).1 j hj
  · unfold RcP
    rw [vset_r (r' := 14) (by omega), vset_r (r' := 15) (by omega), vset_r (r' := 16) (by omega), gst_row (a := b + 15) (by omega), gst_row (a := b + 16) (by omega), gst_row (a := b + 17) (by omega), gst_row (a := b + 18) (by omega)]
    intro p hp
    refine ⟨?_, (h2 p hp).2⟩
    intro j hj
    rw [vset_r (by omega)]
    exact (h2 p hp).1 j hj
  · unfold RcS
    rw [vset_r (r' := 17) (by omega), vset_s, e5, e4, e7, vset_n (c' := 0) (by omega), vset_n (c' := 1) (by omega), vset_n (c' := 2) (by omega), vset_n (c' := 3) (by omega), vset_n (c' := 6) (by omega), gst_row (a := b + 2) (by omega), gst_row (a := b + 19) (by omega), gst_row (a := b) (by omega), gst_row (a := b + 20) (by omega), gst_s2, gst_n2 (j' := 8) (by omega)]
    obtain ⟨a0, a1, a2, a3, a4, a5, a6, a7, a8, -⟩ := h3
    exact ⟨a0, a1, a2, a3, a4, a5, a6, a7, a8, rfl⟩
  · unfold RcC
    rw [e7, vset_r (r' := 19) (by omega), vset_r (r' := 20) (by omega), vset_r (r' := 21) (by omega), gst_row (a := b + 21) (by omega), gst_row (a := b + 22) (by omega), gst_row (a := b + 23) (by omega)]
    exact h4
  · unfold RcH
    rw [e5, e4, gst_row (a := b + 12) (by omega)]
    intro i t hi q1 q2
    rw [vset_r (by omega)]
    exact h5 i t hi q1 q2
theorem cut_eq (V : Sh) (G c : Nat) : vset (vset (vset V 18 8 G) 17 3 c) 18 8 0 = cutV V c := by
  funext r i
  unfold cutV
  by_cases q : r = 18 ∧ i = 8
  · obtain ⟨rfl, rfl⟩ := q
    rw [vset_s, vset_s]
  · rw [vset_n q, vset_n q]
    by_cases q2 : r = 17 ∧ i = 3
    · obtain ⟨rfl, rfl⟩ := q2
      rw [vset_s, vset_s]
    · rw [vset_n q2, vset_n q2, vset_n q]
/-- class: the ticks of one CUT; V is at its beginning but for the greatest goal -/
theorem dry_c {n : Nat} (hn : 60 < n) {σ : Mem} {V : Sh} {e : Nat} (hV : Vok (vset V 18 8 0)) (hc : Rc 25 V σ) (he : e < n) (he2 : V 18 4 + e ≤ 2000000) (hh : e < 2 ^ 31) : Ret (f_X8_staysDry n σ 0 (nI e)) (fun q => ((q.1 = 1 ∧ tkV (vset V 18 8 0) e 18 6 = V 18 6) ∨ (q.1 = 0 ∧ ∃ k, k ≤ e ∧ V 18 6 < tkV (vset V 18 8 0) k 18 6 ∧ q.2 28 9 = nI (tkV (vset V 18 8 0) k 18 8))) ∧ (∃ g, g ≤ 1000 ∧ q.2 28 9 = nI g) ∧ Fr 25 σ q.2) := by
  unfold f_X8_staysDry
  have w0 : vset V 18 8 0 18 6 = V 18 6 := vset_n (by omega)
  have t0 : vset V 18 8 0 18 4 = V 18 4 := vset_n (by omega)
  have R0 : Rc 25 (vset V 18 8 0) (gst σ 28 9 0) := rc_ggw (b := 25) (g := 0) hc
  have F0 : Fr 25 σ (gst σ 28 9 0) := Fr_gst (by omega) (by omega)
  rw [p01, hc.2.2.1.2.2.2.2.2.2.2.1, P0_1 SB25]
  unfold nm
  dsimp only
  have hS := hV.2.2.1
  unfold VokS at hS
  rw [w0] at hS
  unfold f_X8_staysDry_L21
  refine Ret_for e (fun i s => tkV (vset V 18 8 0) i 18 6 = V 18 6 ∧ Rc 25 (tkV (vset V 18 8 0) i) s ∧ Fr 25 σ s) ?_ ?_ (i := 0) (Nat.zero_le _) he ⟨w0, R0, F0⟩
  · rintro i s hi ⟨hs, hI⟩
    unfold f_X8_staysDry_B21
    dsimp only
    rw [if_neg (c := nI e ≤ nI i) (nil hi hh), p01]
    refine Ret_bnd (tickC SB25 hn (tk_ok hV i (by omega)) hI.1) ?_
    rintro s' ⟨a1, a2⟩
    have w : Rc 25 (tkV (vset V 18 8 0) (i + 1)) s' := a1
    have hV2 := tk_ok hV (i + 1) (by omega)
    have hS2 := hV2.2.2.1
    unfold VokS at hS2
    have t2 := tk_time (vset V 18 8 0) (i + 1)
    have m := wet_mono' (vset V 18 8 0) i 1
    rw [w.2.2.1.2.2.2.2.2.2.2.1]
    by_cases q : tkV (vset V 18 8 0) (i + 1) 18 6 ≤ V 18 6
    · rw [if_pos (c := nI _ ≤ nI _) (il q (by omega))]
      exact Ret_nm (Ret_some ⟨s', by rw [show (1 : Int32) = nI 1 from rfl, nI_add], by omega, a1, hI.2.tr a2⟩)
    · rw [if_neg (c := nI _ ≤ nI _) (nil (by omega) (by omega))]
      refine Ret_some ⟨Or.inr ⟨rfl, i + 1, by omega, by omega, w.2.2.1.2.2.2.2.2.2.2.2.2⟩, gg_trial hV (by omega) w, hI.2.tr a2⟩
  · rintro s ⟨hs, hI⟩
    unfold f_X8_staysDry_B21
    dsimp only
    rw [if_pos (c := nI e ≤ nI e) (Int32.le_refl _)]
    exact Ret_some ⟨Or.inl ⟨rfl, hs⟩, gg_trial hV (by omega) hI.1, hI.2⟩
