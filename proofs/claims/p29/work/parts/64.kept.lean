/-! kept -/
theorem tk_18' (V : Sh) {j : Nat} (h : j = 0 ∨ j = 5 ∨ j = 7 ∨ 8 < j) : ∀ k, tkV V k 18 j = V 18 j
  | 0 => rfl
  | k + 1 => (tick_18 (V := tkV V k) (j := j) h).trans (tk_18' V h k)
theorem rew_eqs (V : Sh) (e : Nat) : EqS (rewV V) (rewV (tkV (rewV V) e)) := by
  intro r i hr
  have t0 : rewV V 18 4 = 0 := rew_0 (by omega)
  rw [t0] at hr
  by_cases z : (6 ≤ r ∧ r < 12) ∨ (14 ≤ r ∧ r < 17) ∨ (r = 18 ∧ (i = 1 ∨ i = 2 ∨ i = 3 ∨ i = 4 ∨ i = 6))
  · rw [rew_0 z, rew_0 z]
  · rw [rew_n (V := tkV (rewV V) e) z]
    by_cases q : r = 18
    · subst q
      exact tk_18' _ (by omega) e
    · rw [tk_keep (rewV V) (by omega) (by omega) e]
section KpR
variable {V : Sh} {A B : Option Sh} {σ : Mem} {n w : Nat}
theorem sp_j (h : Lv V A B σ) {i j : Nat} (hi : i < V 18 5) (h1 : 6 ≤ j) (h2 : j < 12) : f_X8_spray σ 0 (nI i) (nI j) = some (nI (V j i)) := by
  obtain ⟨-, -, -, -, -, -, s6, s7, s8, s9, s10, s11⟩ := o_sp h hi
  have : j = 6 ∨ j = 7 ∨ j = 8 ∨ j = 9 ∨ j = 10 ∨ j = 11 := by omega
  rcases this with q | q | q | q | q | q <;> subst q
  · exact s6
  · exact s7
  · exact s8
  · exact s9
  · exact s10
  · exact s11
theorem pr_j (h : Lv V A B σ) {p j : Nat} (hp : p < 3) (h1 : 2 ≤ j) (h2 : j < 5) : f_X8_pressure σ 0 (nI p) (nI j) = some (nI (V (12 + j) p)) := by
  obtain ⟨-, -, p2, p3, p4⟩ := o_pr h hp
  have : j = 2 ∨ j = 3 ∨ j = 4 := by omega
  rcases this with q | q | q <;> subst q
  · exact p2
  · exact p3
  · exact p4
theorem kp_end {W R : Sh} (h : Lv (rewV V) (some W) B σ) (hW : EqS V W) (hV : Vok V) (hn : 2000 < n) (hT : V 18 4 ≤ 1000) (x : Int32) : Ret (f_L_kept_B150 n w σ 0 x (nI (V 18 4)) (nI (V 18 7)) (nI (V 18 0)) (nI (V 14 1)) (nI (V 7 0)) (nI 3)) (Lp (fun q : Int32 × Mem => q.1 = 1) (fun _ => False)) := by
  have hS := hV.2.2.1
  unfold VokS at hS
  have t0 : rewV V 18 4 = 0 := rew_0 (by omega)
  have u := up_lt x (m := 60) (by decide)
  have u2 := up_lt (x >>> (6 &&& 31)) (m := 12) (by decide)
  unfold f_L_kept_B150
  rw [if_pos (c := (3 : Int32) ≤ nI 3) (by decide), up_60, bnd_s, add1]
  obtain ⟨e, he⟩ : ∃ e, e = 1 + upN x 60 := ⟨_, rfl⟩
  rw [← he]
  refine Ret_nm (Ret_bnd2 (o_ahead (e := e) (p := 1) (w := 0) (y := 1) h (by omega) (by omega) (by omega) (by decide) (by decide) (fun _ => rfl)) ?_)
  rintro r1 s1 ⟨a1, h1⟩
  dsimp only at a1 h1
  refine Ret_bnd2 (o_tick (e := e) h1 hn (by omega) (by omega) (by omega)) ?_
  rintro r2 s2 ⟨a2, h2, -⟩
  dsimp only at a2 h2
  rw [a2, t0, Nat.zero_add, if_pos rfl]
  refine Ret_bnd2 (o_rew h2 (by omega)) ?_
  rintro r3 s3 ⟨a3, h3⟩
  dsimp only at a3 h3
  rw [a3, tk_time, t0, Nat.zero_add, if_pos rfl]
  refine Ret_bnd2 (o_ahead (e := e) (p := 1) (w := 0) (y := 1) h3 (by omega) (by omega) (by omega) (by decide) (by decide) (fun _ => rfl)) ?_
  rintro r4 s4 ⟨a4, h4⟩
  dsimp only at a4 h4
  rw [a4, eqs_ah (rew_eqs V e), a1, if_pos rfl, up_12, bnd_s, add1]
  refine Ret_bnd2 (o_setUp (c := 1 + upN (x >>> (6 &&& 31)) 12) h4 (by omega) (by omega) (by omega)) ?_
  rintro r5 s5 ⟨-, G, -, h5⟩
  dsimp only at h5
  have i7 : ∀ c, iniV c G 18 7 = 0 := fun c => rfl
  have i0 : ∀ c, iniV c G 18 0 = 0 := fun c => rfl
  have i12 : ∀ c, iniV c G 12 0 = 100 := fun c => rfl
  have p0 : f_X8_pressure s5 0 0 0 = some (nI (iniV (1 + upN (x >>> (6 &&& 31)) 12) G 12 0)) := (o_pr h5 (i := 0) (by decide)).1
  rw [(o_st h5).2.2.1, bnd_s, i7, if_pos (c := nI 0 = 0) rfl, (o_st h5).2.2.2.1, bnd_s, i0, if_pos (c := nI 0 = 0) rfl, p0, bnd_s, i12, if_pos (c := nI 100 = 100) rfl]
  refine Ret_bnd2 (o_rest0 h5) ?_
  rintro r6 s6 ⟨a6, V', hV', h6⟩
  dsimp only at a6 h6
  have hE := hW.tr hV'
  have p2 : f_X8_pressure s6 0 1 2 = some (nI (V' 14 1)) := (o_pr h6 (i := 1) (by decide)).2.2.1
  have e5 : V' 18 5 = V 18 5 := hE.e (by decide)
  have s7 : f_X8_spray s6 0 0 7 = some (nI (V' 7 0)) := sp_j h6 (i := 0) (j := 7) (by omega) (by decide) (by decide)
  rw [a6, hW.t, if_pos rfl, (o_st h6).2.2.1, bnd_s, hE.e (j := 7) (by decide), if_pos rfl, p2, bnd_s, hE.r (r := 14) (by decide) (by decide), if_pos rfl, s7, bnd_s, hE.r (r := 7) (by decide) (by decide), if_pos rfl, (o_st h6).2.2.2.1, bnd_s, hE.e (j := 0) (by decide), if_pos rfl]
  exact Ret_some rfl
theorem kept_ok (h : Lv V A B σ) (hn : 2000 < n) (hw : 61 < w) (hT : V 18 4 ≤ 1000) (x : Int32) : Ret (f_L_kept n w σ 0 x) (fun q => q.1 = 1) := by
  have hS := h.vs
  unfold VokS at hS
  unfold f_L_kept
  refine Ret_bnd2 (o_save0 h) ?_
  rintro r1 s1 ⟨a1, W, hW, h1⟩
  dsimp only at a1 h1
  have p2 : f_X8_pressure s1 0 1 2 = some (nI (V 14 1)) := (o_pr h1 (i := 1) (by decide)).2.2.1
  have s7 : f_X8_spray s1 0 0 7 = some (nI (V 7 0)) := sp_j h1 (i := 0) (j := 7) (by omega) (by decide) (by decide)
  rw [(o_st h1).2.2.1, bnd_s, (o_st h1).2.2.2.1, bnd_s, p2, bnd_s, s7, bnd_s]
  refine Ret_bnd2 (o_rew h1 (by omega)) ?_
  rintro r2 s2 ⟨a2, h2⟩
  dsimp only at a2 h2
  obtain ⟨k0, k1, k2, k3, k4, k5, -, k7⟩ := o_st (n := n) h2
  have e1 : rewV V 18 1 = 0 := rew_0 (by omega)
  have e2 : rewV V 18 2 = 0 := rew_0 (by omega)
  have e4 : rewV V 18 4 = 0 := rew_0 (by omega)
  have e6 : rewV V 18 6 = 0 := rew_0 (by omega)
  have e7 : rewV V 18 7 = V 18 7 := rew_n (by omega)
  have e0 : rewV V 18 0 = V 18 0 := rew_n (by omega)
  have e5 : rewV V 18 5 = V 18 5 := rew_n (by omega)
  rw [e4] at k0
  rw [e5] at k1
  rw [e7] at k2
  rw [e0] at k3
  rw [e1] at k4
  rw [e2] at k5
  rw [e6] at k7
  rw [a2, a1, if_pos rfl, k0, bnd_s, if_pos (c := nI 0 = 0) rfl, k2, bnd_s, if_pos rfl, k3, bnd_s, if_pos rfl, k4, bnd_s, if_pos (c := nI (0 / 1024) = 0) rfl, k5, bnd_s, if_pos (c := nI 0 = 0) rfl, k7, bnd_s, if_pos (c := nI 0 = 0) rfl]
  have l150 : Ret (f_L_kept_L150 n w s2 0 x (nI (V 18 4)) (nI (V 18 7)) (nI (V 18 0)) (nI (V 14 1)) (nI (V 7 0)) 0) (fun q => q.1 = 1) := by
    unfold f_L_kept_L150
    refine Ret_for0 3 (fun _ => True) ?_ ?_ (i := 0) (Nat.zero_le _) (by omega) trivial
    · intro p hp _
      have l159 : Ret (f_L_kept_L159 n w s2 0 x (nI (V 18 4)) (nI (V 18 7)) (nI (V 18 0)) (nI (V 14 1)) (nI (V 7 0)) (nI p) 2) (fun r => r = .inr (nI (p + 1))) := by
        unfold f_L_kept_L159
        refine Ret_for0 5 (fun j => 2 ≤ j) ?_ ?_ (i := 2) (by omega) (by omega) (Nat.le_refl _)
        · intro j hj hj2
          unfold f_L_kept_B159
          have z : rewV V (12 + j) p = 0 := rew_0 (by omega)
          rw [if_neg (c := (5 : Int32) ≤ nI j) (nI_ge (b := 5) hj (by decide)), pr_j h2 hp hj2 hj, bnd_s, z, if_pos (c := nI 0 = 0) rfl, nI_1]
          exact Ret_nm (Ret_some ⟨rfl, by omega⟩)
        · intro _
          unfold f_L_kept_B159
          rw [if_pos (c := (5 : Int32) ≤ nI 5) (by decide), nI_1]
          exact Ret_nm (Ret_some rfl)
      unfold f_L_kept_B150
      rw [if_neg (c := (3 : Int32) ≤ nI p) (nI_ge (b := 3) hp (by decide))]
      refine Ret_mono l159 ?_
      rintro r rfl
      exact ⟨rfl, trivial⟩
    · intro _
      exact kp_end (R := V) h2 hW h.1.1 hn hT x
  unfold f_L_kept_L101
  refine Ret_for0 (V 18 5) (fun _ => True) ?_ ?_ (i := 0) (Nat.zero_le _) (by omega) trivial
  · intro i hi _
    have l115 : Ret (f_L_kept_L115 n w s2 0 x (nI (V 18 4)) (nI (V 18 7)) (nI (V 18 0)) (nI (V 14 1)) (nI (V 7 0)) (nI i) 6) (fun r => r = .inr (nI (i + 1))) := by
      unfold f_L_kept_L115
      refine Ret_for0 12 (fun j => 6 ≤ j) ?_ ?_ (i := 6) (by omega) (by omega) (Nat.le_refl _)
      · intro j hj hj2
        unfold f_L_kept_B115
        have z : rewV V j i = 0 := rew_0 (by omega)
        rw [if_neg (c := (12 : Int32) ≤ nI j) (nI_ge (b := 12) hj (by decide)), sp_j h2 (by rw [e5]; exact hi) hj2 hj, bnd_s, z, if_pos (c := nI 0 = 0) rfl, nI_1]
        exact Ret_nm (Ret_some ⟨rfl, by omega⟩)
      · intro _
        unfold f_L_kept_B115
        rw [if_pos (c := (12 : Int32) ≤ nI 12) (by decide), nI_1]
        exact Ret_nm (Ret_some rfl)
    unfold f_L_kept_B101
    rw [k1, bnd_s, if_neg (nI_ge hi (by omega))]
    refine Ret_mono l115 ?_
    rintro r rfl
    exact ⟨rfl, trivial⟩
  · intro _
    unfold f_L_kept_B101
    rw [k1, bnd_s, if_pos (c := nI (V 18 5) ≤ nI (V 18 5)) (Int32.le_refl _)]
    exact Ret_exi l150
end KpR
