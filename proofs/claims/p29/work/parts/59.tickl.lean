/-! ticks: its loops -/
section TlR
variable {U V : Sh} {A B : Option Sh} {σ : Mem} {n w : Nat}
theorem lp490 (hU : Vok U) (h : Lv (tickV U) A B σ) (hw : 61 < w) {t : Nat} (x1 : Int32) (hp : ∀ p, p < 3 → σ 106 p = nI (U 14 p) ∧ σ 107 p = nI (U 16 p) ∧ σ 108 p = nI (dsum U p (U 18 5)) ∧ σ 109 p = nI (fsum U p (U 18 5))) : Ret (f_L_ticks_L490 n w σ 0 x1 (nI (U 18 5)) (nI t) (nI (U 18 6)) (wI U (U 18 5)) 0) (fun r => r = .inr (σ, nI (t + 1))) := by
  unfold f_L_ticks_L490
  refine Ret_for0 3 (fun _ => True) ?_ ?_ (i := 0) (Nat.zero_le _) (by omega) trivial
  · intro i hi _
    obtain ⟨a1, a2, a3, a4⟩ := hp i hi
    exact Ret_of (t490 hU h hi x1 _ _ _ a1 a2 a3 a4) ⟨rfl, trivial⟩
  · intro _
    have s7 : f_X8_state n σ 0 7 = some (nI (U 18 6 + (if wetV U = true then 1 else 0))) := (o_st (n := n) h).2.2.2.2.2.2.2
    have e : wI U (U 18 5) = if wetV U = true then 1 else 0 := rfl
    unfold f_L_ticks_B490
    rw [if_pos (c := (3 : Int32) ≤ nI 3) (by decide), s7, bnd_s, e]
    unfold f_L_ticks_L737
    cases wetV U
    · rw [if_neg (c := false = true) (by decide), if_neg (c := false = true) (by decide), if00, l_0, nI_add, if_pos rfl, nI_1]
      exact Ret_exi (Ret_nm (Ret_some rfl))
    · rw [if_pos (c := true = true) rfl, if_pos (c := true = true) rfl, if10, l_1, nI_add, if_pos rfl, nI_add]
      exact Ret_exi (Ret_nm (Ret_some rfl))
theorem lp166 (hU : Vok U) (h : Lv (tickV U) A B σ) (hw : 61 < w) {t : Nat} (x1 : Int32) (h105 : ∀ i, i < U 18 5 → σ 105 i = nI (U 7 i)) (hp : ∀ p, p < 3 → σ 106 p = nI (U 14 p) ∧ σ 107 p = nI (U 16 p) ∧ σ 108 p = 0 ∧ σ 109 p = 0) : Ret (f_L_ticks_L166 n w σ 0 x1 (nI (U 18 5)) (nI t) (nI (U 18 6)) 0 0) (fun r => ∃ σ', r = .inr (σ', nI (t + 1)) ∧ Lv (tickV U) A B σ') := by
  have hS := hU.2.2.1
  unfold VokS at hS
  unfold f_L_ticks_L166
  refine Ret_iter (fun m s => ∃ i σ', m = U 18 5 - i ∧ i ≤ U 18 5 ∧ s = (σ', wI U i, nI i) ∧ Lv (tickV U) A B σ' ∧ Only [108, 109] σ σ' ∧ (∀ p, p < 3 → σ' 108 p = nI (dsum U p i)) ∧ ∀ p, p < 3 → σ' 109 p = nI (fsum U p i)) ?_ w (U 18 5 - 0) _ ⟨0, σ, rfl, Nat.zero_le _, rfl, h, fun _ _ => rfl, fun p hp' => (hp p hp').2.2.1, fun p hp' => (hp p hp').2.2.2⟩ (by omega)
  rintro m _ ⟨i, σ1, rfl, hi, rfl, h1, o1, a1, a2⟩
  dsimp only
  rcases Nat.lt_or_ge i (U 18 5) with q | q
  · obtain ⟨σ2, e2, h2, o2, b1, b2⟩ := t166 (n := n) (w := w) hU h1 q x1 (nI t) (nI (U 18 6)) (by rw [o1 105 (by decide)]; exact h105 i q) a1 a2
    rw [e2]
    exact Ret_some ⟨U 18 5 - (i + 1), by omega, i + 1, σ2, rfl, q, rfl, h2, fun a ha => (o2 a ha).trans (o1 a ha), b1, b2⟩
  · have : i = U 18 5 := by omega
    subst this
    unfold f_L_ticks_B166
    rw [if_pos (c := nI (U 18 5) ≤ nI (U 18 5)) (Int32.le_refl _)]
    refine Ret_exi (Ret_mono (lp490 (n := n) hU h1 hw (t := t) x1 (fun p hp' => ?_)) ?_)
    · obtain ⟨c1, c2, -, -⟩ := hp p hp'
      exact ⟨by rw [o1 106 (by decide)]; exact c1, by rw [o1 107 (by decide)]; exact c2, a1 p hp', a2 p hp'⟩
    · rintro r rfl
      exact ⟨σ1, rfl, h1⟩
theorem lp89 (h : Lv U A B σ) (hn : 2000 < n) (hw : 61 < w) {t : Nat} (x1 : Int32) (hT2 : U 18 4 + 1 ≤ 200000) (h105 : ∀ i, i < U 18 5 → σ 105 i = nI (U 7 i)) : Ret (f_L_ticks_L89 n w σ 0 x1 (nI (U 18 5)) (nI t) (nI (U 18 4)) (nI (U 18 6)) (nI (U 18 2)) (nI (U 18 1 / 1024)) 0) (fun r => ∃ σ', r = .inr (σ', nI (t + 1)) ∧ Lv (tickV U) A B σ') := by
  unfold f_L_ticks_L89
  refine Ret_for 3 (fun i s => Lv U A B s ∧ (∀ i, i < U 18 5 → s 105 i = nI (U 7 i)) ∧ ∀ p, p < i → s 106 p = nI (U 14 p) ∧ s 107 p = nI (U 16 p)) ?_ ?_ (i := 0) (Nat.zero_le _) (by omega) ⟨h, h105, fun p hp => by omega⟩
  · rintro i s hi ⟨h1, a1, a2⟩
    unfold f_L_ticks_B89
    dsimp only
    obtain ⟨-, -, p2, -, -⟩ := o_pr h1 hi
    rw [if_neg (c := (3 : Int32) ≤ nI i) (nI_ge (b := 3) hi (by decide)), p2, bnd_s, AL6, AL7, ckI_nI hi (by decide), ix_nI (by omega), chk_t, nI_1]
    simp only [chk_t]
    refine Ret_nm ?_
    have h2 : Lv U A B (gst σ 106 i (nI (U 14 i))) ∨ True := Or.inr trivial
    have h3 : Lv U A B (gst s 106 i (nI (U 14 i))) := Lv_gst h1 (by omega)
    obtain ⟨-, -, -, -, p4⟩ := o_pr h3 hi
    rw [p4, bnd_s]
    refine Ret_nm (Ret_nm (Ret_some ⟨_, rfl, Lv_gst h3 (by omega), ?_, ?_⟩))
    · intro j hj
      rw [gst_row (by decide), gst_row (by decide)]
      exact a1 j hj
    · intro p hp
      rw [gst_row (a := 106) (k := 107) (by decide), gst_at, gst_at, gst_row (a := 107) (k := 106) (by decide)]
      by_cases z : p = i
      · subst z
        rw [if_pos ⟨rfl, rfl⟩, if_pos ⟨rfl, rfl⟩]
        exact ⟨rfl, rfl⟩
      · rw [if_neg (fun q => z q.2), if_neg (fun q => z q.2)]
        exact a2 p (by omega)
  · rintro s ⟨h1, a1, a2⟩
    unfold f_L_ticks_B89
    dsimp only
    rw [if_pos (c := (3 : Int32) ≤ nI 3) (by decide), l_1]
    refine Ret_bnd2 (o_tick h1 hn (e := 1) (by decide) (by decide) hT2) ?_
    rintro r s1 ⟨e1, h2, f1⟩
    dsimp only at e1 h2 f1
    have h2 : Lv (tickV U) A B s1 := h2
    rw [e1, nI_add, if_pos rfl, wind_ok h.1.1 h2, bnd_s, if10]
    refine Ret_nm (Ret_nm (Ret_exi ?_))
    refine lp166 (n := n) h.1.1 (Lv_gput (Lv_gput h2 (by omega)) (by omega)) hw (t := t) x1 (fun i hi => ?_) (fun p hp => ?_)
    · rw [gput_n (by decide), gput_n (by decide), f1.1 105 (by omega)]
      exact a1 i hi
    · obtain ⟨c1, c2⟩ := a2 p hp
      refine ⟨?_, ?_, ?_, ?_⟩
      · rw [gput_n (by decide), gput_n (by decide), f1.1 106 (by omega)]; exact c1
      · rw [gput_n (by decide), gput_n (by decide), f1.1 107 (by omega)]; exact c2
      · rw [gput_n (by decide), gput_s]
      · rw [gput_s]
theorem lp62 (h : Lv U A B σ) (hn : 2000 < n) (hw : 61 < w) {t : Nat} (x1 : Int32) (hT2 : U 18 4 + 1 ≤ 200000) : Ret (f_L_ticks_L62 n w σ 0 x1 (nI (U 18 5)) (nI t) (nI (U 18 4)) (nI (U 18 6)) (nI (U 18 2)) (nI (U 18 1 / 1024)) 0) (fun r => ∃ σ', r = .inr (σ', nI (t + 1)) ∧ Lv (tickV U) A B σ') := by
  have hS := h.vs
  unfold VokS at hS
  unfold f_L_ticks_L62
  refine Ret_for (U 18 5) (fun i s => Lv U A B s ∧ ∀ j, j < i → s 105 j = nI (U 7 j)) ?_ ?_ (i := 0) (Nat.zero_le _) (by omega) ⟨h, fun p hp => by omega⟩
  · rintro i s hi ⟨h1, a1⟩
    unfold f_L_ticks_B62
    dsimp only
    obtain ⟨-, -, -, -, -, -, -, s7, -⟩ := o_sp h1 hi
    rw [if_neg (c := nI (U 18 5) ≤ nI i) (nI_ge hi (by omega)), s7, bnd_s, AL5, ckI_nI (by omega) (by decide), ix_nI (by omega), chk_t, nI_1]
    refine Ret_nm (Ret_nm (Ret_some ⟨_, rfl, Lv_gst h1 (by omega), ?_⟩))
    intro p hp
    rw [gst_at]
    by_cases z : p = i
    · subst z
      rw [if_pos ⟨rfl, rfl⟩]
    · rw [if_neg (fun q => z q.2)]
      exact a1 p (by omega)
  · rintro s ⟨h1, a1⟩
    unfold f_L_ticks_B62
    dsimp only
    rw [if_pos (c := nI (U 18 5) ≤ nI (U 18 5)) (Int32.le_refl _)]
    exact Ret_exi (lp89 h1 hn hw x1 hT2 a1)
theorem ticks_ok (h : Lv V A B σ) (hn : 2000 < n) (hw : 61 < w) {e : Nat} (he : e ≤ 50) (hT2 : V 18 4 + e ≤ 200000) : Ret (f_L_ticks n w σ 0 (nI e)) (fun q => q.1 = 1 ∧ Lv (tkV V e) A B q.2) := by
  have hS := h.vs
  unfold VokS at hS
  have n5 : ∀ k, tkV V k 18 5 = V 18 5 := by
    intro k
    induction k with
    | zero => rfl
    | succ k ih => exact ih
  unfold f_L_ticks
  rw [(o_st h).2.1, bnd_s]
  refine Ret_nm (Ret_nm (Ret_nm ?_))
  unfold f_L_ticks_L24
  refine Ret_for e (fun i s => Lv (tkV V i) A B s) ?_ ?_ (i := 0) (Nat.zero_le _) (by omega) (Lv_gput (Lv_gput (Lv_gput h (by omega)) (by omega)) (by omega))
  · intro i s hi h1
    unfold f_L_ticks_B24
    dsimp only
    obtain ⟨k0, -, -, -, k4, k5, -, k7⟩ := o_st (n := n) h1
    have tt := tk_time V i
    rw [if_neg (c := nI e ≤ nI i) (nI_ge hi (by omega)), k0, bnd_s, k7, bnd_s, k5, bnd_s, k4, bnd_s, ← n5 i]
    refine Ret_mono (lp62 h1 hn hw (t := i) (nI e) (by omega)) ?_
    rintro r ⟨σ', rfl, h2⟩
    exact ⟨σ', rfl, h2⟩
  · intro s h1
    unfold f_L_ticks_B24
    dsimp only
    rw [if_pos (c := nI e ≤ nI e) (Int32.le_refl _)]
    exact Ret_some ⟨rfl, h1⟩
end TlR
