/-! delayed -/
theorem movW_p {W W' : Sh} {a t j r i : Nat} (h : ∀ r, r < 3 → W' r = W r) (hr : r < 3) : movW W' a t j r i = movW W a t j r i := by
  unfold movW insW outW
  rw [h r hr, h 1 (by decide), h 2 (by decide)]
theorem eqs_mov {V V' : Sh} (h : EqS V V') (a l j : Nat) : EqS (dlV V a l j) (setC V' (V' 18 7) (movW (cuesV V') a (V' 19 a + l) j)) := by
  intro r i hr
  have c4 : dlV V a l j 18 4 = V 18 4 := setC_18 (by decide)
  rw [c4] at hr
  rw [h.e (j := 7) (by decide), h.r (r := 19) (by decide) (by decide)]
  unfold dlV setC
  by_cases q : r = 18 ∧ i = 7
  · rw [if_pos q, if_pos q]
  · rw [if_neg q, if_neg q]
    by_cases q2 : 19 ≤ r ∧ r ≤ 21
    · rw [if_pos q2, if_pos q2]
      exact movW_p (fun r hr => h.r (r := 19 + r) (by omega) (by omega)) (by omega)
    · rw [if_neg q2, if_neg q2]
      exact h r i hr
theorem sup_sum {V : Sh} {e : Nat} : (supV V e = true ↔ (tkV V e 16 0 - V 16 0) + (tkV V e 16 1 - V 16 1) + (tkV V e 16 2 - V 16 2) = 0) := by
  have m0 := sh_mono V 0 e
  have m1 := sh_mono V 1 e
  have m2 := sh_mono V 2 e
  have e0 : shSum V 0 = V 16 0 + V 16 1 + V 16 2 := rfl
  have e1 : shSum V e = tkV V e 16 0 + tkV V e 16 1 + tkV V e 16 2 := rfl
  unfold supV
  rw [decide_eq_true_iff, e0, e1]
  omega
section DlR
variable {V : Sh} {A B : Option Sh} {σ : Mem} {n w : Nat}
/-- one delay is tried; b: what it answers -/
theorem dl101 {V' : Sh} (h : Lv V' A B σ) (he : EqS V V') (hn : 1200 < n) (hw : 61 < w) {a k e : Nat} {D : Option Nat} {f : Nat} (ha : a < V 18 7) (hk : k ≤ 12) (e1 : 1 ≤ e) (e2 : e ≤ 100) (ht : V 19 a + 12 ≤ 100000) (hf : k ≤ f) (hf2 : f ≤ 13) (hDd : ∀ d, D = some d → d ≤ 12) (hD : ∀ j, NextIs (V 18 7 - 1) (outW (cuesV V) a 0) (V 19 a + k + 1) j → (supV (dlV V a k j) e = true ↔ D = some k)) : Ret (f_L_delayed_B101 n w σ 0 (nI a) (nI e) (fsI D) (nI f) (nI k)) (Lp (fun _ => False) (fun s => ∃ σ', s = (σ', nI (k + 1)) ∧ ∃ V'' B', EqS V V'' ∧ Lv V'' A B' σ')) := by
  unfold f_L_delayed_B101
  rw [if_neg (nI_nlt hf (by omega)), if_neg (c := (13 : Int32) ≤ nI k) (nI_ge (b := 13) (by omega) (by decide))]
  refine Ret_bnd2 (o_save1 h) ?_
  rintro r σ1 ⟨r1, W, hW, h1⟩
  dsimp only at r1 h1
  have e7 : V' 18 7 = V 18 7 := he.e (by decide)
  have e19 : V' 19 = V 19 := he.r (by decide) (by decide)
  have ec : outW (cuesV V') a 0 = outW (cuesV V) a 0 := by
    funext i
    unfold outW
    have : cuesV V' 0 = cuesV V 0 := e19
    rw [this]
  have hm := o_move (n := n) (t := V' 19 a + k) (y := nI k) h1 (by omega) (by omega) ⟨by rw [le_i, nI_toInt (by omega), show (-100000 : Int32).toInt = -100000 from rfl]; omega, nI_le (b := 100000) (by omega) (by decide)⟩ (nI_add _ _) (by rw [e19]; omega)
  rw [e7] at hm
  refine Ret_bnd2 hm ?_
  rintro r2 σ2 ⟨j, j1, r3, h2⟩
  dsimp only at r3 h2
  rw [ec, e19] at j1
  have hd := hD j j1
  have es := eqs_mov he a k j
  rw [e7] at es
  have hsup := eqs_sup es e
  rw [← hsup] at hd
  generalize setC V' (V 18 7) (movW (cuesV V') a (V' 19 a + k) j) = U at h2 es hd
  have hj1 := j1.1
  have hVS := h.vs
  unfold VokS at hVS
  have hUS := h2.vs
  unfold VokS at hUS
  have sb : ∀ p, p < 3 → tkV U e 16 p ≤ 2000000 := by
    intro p hp
    have := h2.1.2.1
    have := (tk_ok h2.1.1 e (by omega)).2.1 p hp
    have := tk_time U e
    omega
  unfold f_L_delayed_L137
  refine Ret_for2 3 (fun i v s => v = nI (sumV (fun p => tkV U e 16 p - U 16 p) i) ∧ Lv U A (some W) s) ?_ ?_ (i := 0) (Nat.zero_le _) (by omega) ⟨rfl, h2⟩
  · rintro i v s hi ⟨rfl, h3⟩
    unfold f_L_delayed_B137
    dsimp only
    rw [if_neg (c := (3 : Int32) ≤ nI i) (nI_ge (b := 3) hi (by decide))]
    refine Ret_bnd2 (o_ahead (e := e) (p := i) (w := 1) h3 (by omega) e1 (by omega) hi (by decide) (fun _ => rfl)) ?_
    rintro r4 s4 ⟨r5, h4⟩
    dsimp only at r5 h4
    have a1 : ahV U i 1 e = nI (tkV U e 16 i - U 16 i) := rfl
    rw [r5, a1, nI_add, nI_1]
    exact Ret_nm (Ret_nm (Ret_some ⟨_, s4, rfl, rfl, h4⟩))
  · rintro v s ⟨rfl, h3⟩
    have s3 : sumV (fun p => tkV U e 16 p - U 16 p) 3 = (tkV U e 16 0 - U 16 0) + (tkV U e 16 1 - U 16 1) + (tkV U e 16 2 - U 16 2) := by
      show 0 + (tkV U e 16 0 - U 16 0) + (tkV U e 16 1 - U 16 1) + (tkV U e 16 2 - U 16 2) = _
      omega
    have sl : sumV (fun p => tkV U e 16 p - U 16 p) 3 < 2 ^ 31 := by
      have := sb 0 (by decide)
      have := sb 1 (by decide)
      have := sb 2 (by decide)
      omega
    unfold f_L_delayed_B137
    dsimp only
    rw [if_pos (c := (3 : Int32) ≤ nI 3) (by decide), r3, if_neg (nI_pos (by omega))]
    have l189 : Ret (f_L_delayed_L189 n w s 0 (nI a) (nI e) (fsI D) (nI f) (nI k) r 1 1) (Lp (fun _ => False) (fun s => ∃ σ', s = (σ', nI (k + 1)) ∧ ∃ V'' B', EqS V V'' ∧ Lv V'' A B' σ')) ∧ Ret (f_L_delayed_L189 n w s 0 (nI a) (nI e) (fsI D) (nI f) (nI k) r 0 0) (Lp (fun _ => False) (fun s => ∃ σ', s = (σ', nI (k + 1)) ∧ ∃ V'' B', EqS V V'' ∧ Lv V'' A B' σ')) := by
      unfold f_L_delayed_L189
      rw [if_pos rfl, if_pos rfl]
      have both : Ret (bnd2 (f_X8_restore s 0 1) fun r_20 σ_21 => if r_20 = r then nm (nI k + 1) fun x6_22 => some (.inr (σ_21, x6_22)) else some (.inl ((0 : Int32), σ_21))) (Lp (fun _ => False) (fun s => ∃ σ', s = (σ', nI (k + 1)) ∧ ∃ V'' B', EqS V V'' ∧ Lv V'' A B' σ')) := by
        refine Ret_bnd2 (o_rest1 h3) ?_
        rintro r6 s6 ⟨r7, V'', hV'', h6⟩
        dsimp only at r7 h6
        rw [r7, hW.t, if_pos r1.symm, nI_1]
        exact Ret_nm (Ret_some ⟨s6, rfl, V'', some W, he.tr (hW.tr hV''), h6⟩)
      exact ⟨both, both⟩
    unfold f_L_delayed_L177
    by_cases z : D = some k
    · have := sup_sum.mp (hd.mpr z)
      rw [s3, this, if_pos (c := nI 0 = 0) rfl, z, if_pos (c := nI k = fsI (some k)) rfl]
      rw [z] at l189
      refine Ret_exi (Ret_mono l189.1 ?_)
      intro t ht
      cases t with
      | inl q => exact ht.elim
      | inr s => exact ht
    · have : ¬ sumV (fun p => tkV U e 16 p - U 16 p) 3 = 0 := fun q => z (hd.mp (sup_sum.mpr (by omega)))
      rw [if_neg (nI_ne0 (by omega) sl), if_neg]
      · refine Ret_exi (Ret_mono l189.2 ?_)
        intro t ht
        cases t with
        | inl q => exact ht.elim
        | inr s => exact ht
      · cases D with
        | none =>
          intro q
          have := congrArg Int32.toInt q
          rw [nI_toInt (by omega)] at this
          have e6 : (fsI none).toInt = -6 := rfl
          omega
        | some d =>
          intro q
          have := hDd d rfl
          exact z (congrArg some (nI_inj (by omega) (by omega) q).symm)
theorem delayed_ok (h : Lv V A B σ) (hn : 1200 < n) (hw : 61 < w) (hb : ∀ c, c < V 18 7 → V 19 c ≤ 1000) (x : Int32) : Ret (f_L_delayed n w σ 0 x) (fun q => q.1 = 1 ∧ ∃ V' B', EqS V V' ∧ Lv V' A B' q.2) := by
  have hS := h.vs
  unfold VokS at hS
  unfold f_L_delayed
  rw [(o_st h).2.2.1, bnd_s]
  by_cases q0 : V 18 7 = 0
  · have e : f_X8_delay n σ 0 0 1 1 = some (-1, σ) := by
      unfold f_X8_delay
      rw [p00, P0_4 SB1, hasC_c (b := 1) h.1.2.2.2.2.1.2.2.2.2.2.2.2.2.1, q0, if_neg (by decide), bnd_s, if00]
    rw [if_pos (by rw [q0]; rfl), e, bnd2_s, if_pos rfl]
    exact Ret_some ⟨rfl, V, B, EqS.rf V, h⟩
  · have ua := up_lt x (m := V 18 7) (by omega)
    have u2 := up_lt (x >>> (5 &&& 31)) (m := 30) (by decide)
    rw [if_neg (nI_ne0 (by omega) (by omega)), bnd_s, up_ok x (m := V 18 7) (by omega) (by omega), bnd_s, up_30, bnd_s, add1]
    generalize upN x (V 18 7) = a at ua
    obtain ⟨e, he⟩ : ∃ e, e = 1 + upN (x >>> (5 &&& 31)) 30 := ⟨_, rfl⟩
    rw [← he]
    have ta := hb a ua
    refine Ret_nm (Ret_bnd2 (o_delay (m := 12) (e := e) h hn ua (by decide) (by omega) (by omega) (by omega)) ?_)
    rintro r σ1 ⟨⟨D, r1, d1, d2⟩, h1⟩
    dsimp only at r1 h1
    subst r1
    have hDd : ∀ d, D = some d → d ≤ 12 := fun d hd => (d2 d hd).1
    have loop : ∀ f, f ≤ 13 → (D = none → f = 13) → (∀ d, D = some d → f = d) → Ret (f_L_delayed_L101 n w σ1 0 (nI a) (nI e) (fsI D) (nI f) 0) (fun q => q.1 = 1 ∧ ∃ V' B', EqS V V' ∧ Lv V' A B' q.2) := by
      intro f hf hN hSm
      unfold f_L_delayed_L101
      refine Ret_for (min (f + 1) 13) (fun k s => ∃ V' B', EqS V V' ∧ Lv V' A B' s) ?_ ?_ (i := 0) (Nat.zero_le _) (by omega) ⟨V, B, EqS.rf V, h1⟩
      · rintro k s hk ⟨V', B', hV', h2⟩
        refine Ret_mono (dl101 (f := f) h2 hV' hn hw ua (by omega) (by omega) (by omega) (by omega) (by omega) hf hDd (fun j hj => ?_)) ?_
        · constructor
          · intro z
            cases hD : D with
            | none =>
              have := Tst_sup (d1 k (by omega) (fun d hd => by rw [hD] at hd; cases hd)) hj
              rw [z] at this
              cases this
            | some d =>
              have fd := hSm d hD
              by_cases q : k = d
              · rw [q]
              · have := Tst_sup (d1 k (by omega) (fun d' hd' => by rw [hD] at hd'; cases hd'; omega)) hj
                rw [z] at this
                cases this
          · intro z
            exact Tst_sup (d2 k z).2 hj
        · intro t ht
          cases t with
          | inl q => exact ht.elim
          | inr s => exact ht
      · rintro s ⟨V', B', hV', h2⟩
        unfold f_L_delayed_B101
        dsimp only
        by_cases q : f < min (f + 1) 13
        · rw [if_pos (nI_lt q (by omega))]
          exact Ret_some ⟨rfl, V', B', hV', h2⟩
        · have : f = 13 := by omega
          subst this
          rw [if_neg (nI_nlt (by omega) (by omega)), if_pos (c := (13 : Int32) ≤ nI (min (13 + 1) 13)) (by decide)]
          exact Ret_some ⟨rfl, V', B', hV', h2⟩
    cases D with
    | none =>
      have l := loop 13 (by decide) (fun _ => rfl) (fun d hd => by cases hd)
      rw [if_neg (c := 0 ≤ fsI none) (by decide)]
      unfold f_L_delayed_L68 f_L_delayed_L98
      rw [if_neg (c := fsI none < -6) (by decide), if_neg (c := 12 < fsI none) (by decide), if_neg (c := 0 ≤ fsI none) (by decide), if_pos (c := fsI none = -6) rfl]
      exact l
    | some d =>
      have hd := hDd d rfl
      have l := loop d (by omega) (fun q => by cases q) (fun d' hd' => by cases hd'; rfl)
      have e0 : fsI (some d) = nI d := rfl
      rw [e0] at l ⊢
      rw [if_pos (c := 0 ≤ nI d) (nI_pos' (by omega))]
      unfold f_L_delayed_L68 f_L_delayed_L98
      rw [if_neg (c := nI d < -6) (by rw [lt_i, nI_toInt (by omega), show (-6 : Int32).toInt = -6 from rfl]; omega), if_neg (c := 12 < nI d) (nI_nlt (b := d) (a := 12) hd (by decide)), if_pos (c := 0 ≤ nI d) (nI_pos' (by omega))]
      exact l
end DlR
