/-! comesTrue -/
theorem maxV_max (f : Nat → Nat) (a : Nat) : ∀ n, maxV f a n = max a (maxV f 0 n)
  | 0 => by show a = max a 0; omega
  | n + 1 => by
    show max (maxV f a n) (f n) = max a (max (maxV f 0 n) (f n))
    rw [maxV_max f a n]
    omega
section CtR
variable {V : Sh} {A B : Option Sh} {σ : Mem} {n w : Nat}
theorem ct171 {T : Sh} (h : Lv T A B σ) (hw : 61 < w) {g t p : Nat} (hg : g ≤ 5000) (x2 x3 x4 x5 x6 x7 x8 x9 x10 x11 x13 x14 : Int32) : Ret (f_L_comesTrue_L171 n w σ 0 x2 x3 x4 x5 x6 x7 x8 x9 x10 x11 (nI g) x13 x14 (nI t) 0) (fun r => r = .inr (σ, nI (max g (maxV (T 9) 0 (T 18 5))), x13, x14, nI (t + 1))) := by
  have hS := h.vs
  unfold VokS at hS
  unfold f_L_comesTrue_L171
  refine Ret_for1 (T 18 5) (fun i v => v = nI (maxV (T 9) g i)) ?_ ?_ (i := 0) (Nat.zero_le _) (by omega) rfl
  · rintro i v hi rfl
    have s9 := (o_sp h hi).2.2.2.2.2.2.2.2.2.1
    have b9 := (h.1.1.1 i hi).2.2.2.2.2.2.2.2.2.1
    have lm : maxV (T 9) g i ≤ 5000 := maxV_le hg (fun j hj => (h.1.1.1 j (by omega)).2.2.2.2.2.2.2.2.2.1)
    unfold f_L_comesTrue_B171
    dsimp only
    rw [(o_st h).2.1, bnd_s, if_neg (nI_ge hi (by omega)), s9, bnd_s, bnd_s, nI_1]
    by_cases q : T 9 i ≤ maxV (T 9) g i
    · rw [if_pos (nI_le q (by omega))]
      refine Ret_nm (Ret_some ⟨_, rfl, ?_⟩)
      show _ = nI (max (maxV (T 9) g i) (T 9 i))
      rw [Nat.max_eq_left q]
    · rw [if_neg (nI_ge (by omega) (by omega))]
      refine Ret_nm (Ret_some ⟨_, rfl, ?_⟩)
      show _ = nI (max (maxV (T 9) g i) (T 9 i))
      rw [Nat.max_eq_right (by omega)]
  · rintro v rfl
    unfold f_L_comesTrue_B171
    dsimp only
    rw [(o_st h).2.1, bnd_s, if_pos (c := nI (T 18 5) ≤ nI (T 18 5)) (Int32.le_refl _), nI_1, maxV_max]
    exact Ret_nm (Ret_some rfl)
theorem comes_ok (h : Lv V A B σ) (hn : 2000 < n) (hw : 61 < w) (hT : V 18 4 ≤ 1000) (x : Int32) : Ret (f_L_comesTrue n w σ 0 x) (fun q => q.1 = 1 ∧ ∃ V' A', EqS V V' ∧ Lv V' A' B q.2) := by
  have hS := h.vs
  unfold VokS at hS
  have u1 := up_lt x (m := 40) (by decide)
  have u2 := up_lt (x >>> (6 &&& 31)) (m := 3) (by decide)
  unfold f_L_comesTrue
  rw [up_40, bnd_s, add1]
  refine Ret_nm ?_
  rw [up_3, bnd_s]
  generalize upN (x >>> (6 &&& 31)) 3 = p at u2
  obtain ⟨e, he⟩ : ∃ e, e = 1 + upN x 40 := ⟨_, rfl⟩
  rw [← he]
  refine Ret_bnd2 (o_ahead (e := e) (p := p) (w := 0) h (by omega) (by omega) (by omega) u2 (by decide) (fun _ => rfl)) ?_
  rintro r0 σ0 ⟨e0, h0⟩
  dsimp only at e0 h0
  subst e0
  refine Ret_bnd2 (o_ahead (e := e) (p := p) (w := 1) h0 (by omega) (by omega) (by omega) u2 (by decide) (fun _ => rfl)) ?_
  rintro r1 σ1 ⟨e1, h1⟩
  dsimp only at e1 h1
  subst e1
  refine Ret_bnd2 (o_ahead (e := e) (p := p) (w := 2) h1 (by omega) (by omega) (by omega) u2 (by decide) (fun _ => rfl)) ?_
  rintro r2 σ2 ⟨e2, h2⟩
  dsimp only at e2 h2
  subst e2
  refine Ret_bnd2 (o_ahead (e := e) (p := p) (w := 3) h2 (by omega) (by omega) (by omega) u2 (by decide) (fun _ => rfl)) ?_
  rintro r3 σ3 ⟨e3, h3⟩
  dsimp only at e3 h3
  subst e3
  refine Ret_bnd2 (o_ahead (e := e) (p := p) (w := 4) h3 (by omega) (by omega) (by omega) u2 (by decide) (fun _ => rfl)) ?_
  rintro r4 σ4 ⟨e4, h4⟩
  dsimp only at e4 h4
  subst e4
  refine Ret_bnd2 (o_save0 h4) ?_
  rintro r5 σ5 ⟨e5, W, hW, h5⟩
  dsimp only at e5 h5
  subst e5
  rw [(o_pr h5 u2).2.2.2.2, bnd_s, (o_st h5).2.2.2.2.2.2.2, bnd_s]
  unfold f_L_comesTrue_L99
  refine Ret_iter (fun m s => ∃ i σ', m = e - i ∧ i ≤ e ∧ s = (σ', nI (ghV V i), nI (gdV V p i), fsI (fsV V p i), nI i) ∧ Lv (tkV V i) (some W) B σ') ?_ w (e - 0) _ ⟨0, σ5, rfl, Nat.zero_le _, rfl, h5⟩ (by omega)
  rintro m _ ⟨i, s, rfl, hi, rfl, hL⟩
  have hUS := hL.vs
  unfold VokS at hUS
  have hUP := hL.1.1.2.1 p u2
  have tt := tk_time V i
  have gl := gd_le h.1.1 u2 i (by omega)
  have hl := gh_le h.1.1 i (by omega)
  unfold f_L_comesTrue_B99
  dsimp only
  rcases Nat.lt_or_ge i e with q | q
  · rw [if_neg (nI_ge q (by omega)), (o_pr hL u2).2.2.2.2, bnd_s]
    refine Ret_bnd2 (o_tick hL hn (e := 1) (by decide) (by decide) (by omega)) ?_
    rintro r s' ⟨r1, hL', -⟩
    dsimp only at hL'
    have hL' : Lv (tkV V (i + 1)) (some W) B s' := hL'
    have hTS := hL'.vs
    unfold VokS at hTS
    have hTP := hL'.1.1.2.1 p u2
    have t2 := tk_time V (i + 1)
    have st := sh_step V p i
    have l142 : ∀ y, y = fsI (fsV V p (i + 1)) → Ret (f_L_comesTrue_L142 n w s' 0 (nI e) (nI p) (ahV V p 0 e) (ahV V p 1 e) (ahV V p 2 e) (ahV V p 3 e) (ahV V p 4 e) (nI (V 18 4)) (nI (V 16 p)) (nI (V 18 6)) (nI (ghV V i)) (nI (gdV V p i)) (nI i) y) (Lp (fun q : Int32 × Mem => q.1 = 1 ∧ ∃ V' A', EqS V V' ∧ Lv V' A' B q.2) (fun s' : Mem × Int32 × Int32 × Int32 × Int32 => ∃ m', m' < e - i ∧ ∃ i_1 σ', m' = e - i_1 ∧ i_1 ≤ e ∧ s' = (σ', nI (ghV V i_1), nI (gdV V p i_1), fsI (fsV V p i_1), nI i_1) ∧ Lv (tkV V i_1) (some W) B σ')) := by
      rintro y rfl
      unfold f_L_comesTrue_L142 f_L_comesTrue_L166
      rw [(o_pr hL' u2).2.2.2.1, bnd_s, bnd_s]
      have gz : gdV V p (i + 1) = max (gdV V p i) (tkV V (i + 1) 15 p) := rfl
      have fin : ∀ r : (Int32 × Mem) ⊕ (Mem × Int32 × Int32 × Int32 × Int32), r = .inr (s', nI (max (ghV V i) (maxV (tkV V (i + 1) 9) 0 (tkV V (i + 1) 18 5))), nI (gdV V p (i + 1)), fsI (fsV V p (i + 1)), nI (i + 1)) → Lp (fun q : Int32 × Mem => q.1 = 1 ∧ ∃ V' A', EqS V V' ∧ Lv V' A' B q.2) (fun s' : Mem × Int32 × Int32 × Int32 × Int32 => ∃ m', m' < e - i ∧ ∃ i_1 σ', m' = e - i_1 ∧ i_1 ≤ e ∧ s' = (σ', nI (ghV V i_1), nI (gdV V p i_1), fsI (fsV V p i_1), nI i_1) ∧ Lv (tkV V i_1) (some W) B σ') r := by
        rintro r rfl
        exact ⟨e - (i + 1), by omega, i + 1, s', rfl, q, rfl, hL'⟩
      by_cases z : tkV V (i + 1) 15 p ≤ gdV V p i
      · rw [if_pos (nI_le z (by omega))]
        rw [Nat.max_eq_left z] at gz
        rw [gz] at fin
        exact Ret_mono (ct171 (p := p) hL' hw hl _ _ _ _ _ _ _ _ _ _ _ _) fin
      · rw [if_neg (nI_ge (by omega) (by omega))]
        rw [Nat.max_eq_right (by omega)] at gz
        rw [gz] at fin
        exact Ret_mono (ct171 (p := p) hL' hw hl _ _ _ _ _ _ _ _ _ _ _ _) fin
    have l140 : fsV V p (i + 1) = fsV V p i → Ret (f_L_comesTrue_L140 n w s' 0 (nI e) (nI p) (ahV V p 0 e) (ahV V p 1 e) (ahV V p 2 e) (ahV V p 3 e) (ahV V p 4 e) (nI (V 18 4)) (nI (V 16 p)) (nI (V 18 6)) (nI (ghV V i)) (nI (gdV V p i)) (fsI (fsV V p i)) (nI i)) _ := fun z => l142 _ (by rw [z])
    have fz : fsV V p (i + 1) = (match fsV V p i with | some j => some j | none => if tkV V (i + 1) 14 p < tkV V (i + 1) 15 p then some i else none) := rfl
    cases fq : fsV V p i with
    | some j =>
      rw [fq] at fz l140
      have := fs_lt fq
      rw [if_pos (c := 0 ≤ fsI (some j)) (nI_le (a := 0) (b := j) (by omega) (by omega))]
      exact l140 fz
    | none =>
      rw [fq] at fz l140
      dsimp only at fz
      rw [if_neg (c := 0 ≤ fsI none) (by decide), (o_pr hL' u2).2.2.2.2, bnd_s]
      by_cases z : tkV V (i + 1) 14 p < tkV V (i + 1) 15 p
      · rw [if_pos z] at fz st
        rw [if_neg (c := nI (tkV V (i + 1) 16 p) ≤ nI (tkV V i 16 p)) (nI_ge (by omega) (by omega))]
        exact l142 _ (by rw [fz]; rfl)
      · rw [if_neg z] at fz st
        rw [if_pos (c := nI (tkV V (i + 1) 16 p) ≤ nI (tkV V i 16 p)) (nI_le (by omega) (by omega))]
        exact l140 fz
  · have : i = e := by omega
    subst this
    have m1 := sh_mono V p i
    have m2 := wet_mono V i
    have a0 : ahV V p 0 i = nI (gdV V p i) := rfl
    have a1 : ahV V p 1 i = nI (tkV V i 16 p - V 16 p) := rfl
    have a2 : ahV V p 2 i = fsI (fsV V p i) := rfl
    have a3 : ahV V p 3 i = nI (tkV V i 18 6 - V 18 6) := rfl
    have a4 : ahV V p 4 i = nI (ghV V i) := rfl
    rw [if_pos (c := nI i ≤ nI i) (Int32.le_refl _), (o_pr hL u2).2.2.2.2, bnd_s, nI_sub m1, a1, if_pos rfl, (o_st hL).2.2.2.2.2.2.2, bnd_s, nI_sub m2, a3, if_pos rfl, a2, if_pos rfl, a0, if_pos rfl, a4, if_pos rfl, (o_st hL).1, bnd_s, tt, nI_add, if_pos rfl]
    refine Ret_bnd2 (o_rest0 hL) ?_
    rintro r s' ⟨r1, V', hV', hL'⟩
    dsimp only at r1 hL'
    rw [r1, hW.t, if_pos rfl]
    refine Ret_bnd2 (o_ahead (e := i) (p := p) (w := 0) hL' (by omega) (by omega) (by omega) u2 (by decide) (fun _ => rfl)) ?_
    rintro r2 s2 ⟨r3, hL2⟩
    dsimp only at r3 hL2
    rw [r3, eqs_ah (hW.tr hV'), a0, if_pos rfl]
    exact Ret_some ⟨rfl, V', some W, hW.tr hV', hL2⟩
end CtR
