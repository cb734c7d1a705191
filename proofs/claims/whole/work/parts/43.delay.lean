/-! delay -/
def shSum (V : Sh) (k : Nat) : Nat := tkV V k 16 0 + tkV V k 16 1 + tkV V k 16 2
/-- no pump is short in e ticks -/
def supV (V : Sh) (e : Nat) : Bool := decide (shSum V e = shSum V 0)
theorem shSum_mono (V : Sh) (k : Nat) : ∀ d, shSum V k ≤ shSum V (k + d)
  | 0 => Nat.le_refl _
  | d + 1 => Nat.le_trans (shSum_mono V k d) (by
    have a := sh_step V 0 (k + d)
    have b := sh_step V 1 (k + d)
    have c := sh_step V 2 (k + d)
    unfold shSum
    rw [show k + (d + 1) = k + d + 1 by omega, a, b, c]
    omega)
theorem some_short {b : Nat} (hb : SB b) {V : Sh} {σ : Mem} {n : Nat} (hV : Vok V) (h : Rc b V σ) (hn : 60 < n) : f_X3_someShort n σ (b + 13) = some (if V 14 0 < V 15 0 ∨ V 14 1 < V 15 1 ∨ V 14 2 < V 15 2 then 1 else 0) := by
  have is : ∀ p, p < 3 → f_X3_isShort σ (b + 13) (nI p) = some (if V 14 p < V 15 p then 1 else 0) := by
    intro p hp
    have c := hV.2.1 p hp
    exact isShort_ok hb hp (h.2.1 p hp).2.2.1 (h.2.1 p hp).2.1 (by omega) (by omega)
  have key : Ret (f_X3_someShort n σ (b + 13)) (fun r => r = if V 14 0 < V 15 0 ∨ V 14 1 < V 15 1 ∨ V 14 2 < V 15 2 then 1 else 0) := by
    unfold f_X3_someShort f_X3_someShort_L2
    refine Ret_for0 3 (fun i => ∀ p, p < i → ¬ V 14 p < V 15 p) ?_ ?_ (i := 0) (Nat.zero_le _) (by omega) (fun p hp => by omega)
    · intro i hi hI
      unfold f_X3_someShort_B2
      rw [if_neg (c := (3 : Int32) ≤ nI i) (nil (a := 3) hi (by decide)), is i hi, bnd_s]
      by_cases q : V 14 i < V 15 i
      · rw [if_pos q, if10]
        refine Ret_some ?_
        have : i = 0 ∨ i = 1 ∨ i = 2 := by omega
        rcases this with w | w | w <;> subst w
        · rw [if_pos (Or.inl q)]; exact rfl
        · rw [if_pos (Or.inr (Or.inl q))]; exact rfl
        · rw [if_pos (Or.inr (Or.inr q))]; exact rfl
      · rw [if_neg q, if00]
        refine Ret_nm (Ret_some ⟨by rw [show (1 : Int32) = nI 1 from rfl, nI_add], ?_⟩)
        intro p hp
        by_cases e : p = i
        · subst e; exact q
        · exact hI p (by omega)
    · intro hI
      unfold f_X3_someShort_B2
      rw [if_pos (c := (3 : Int32) ≤ nI 3) (Int32.le_refl _)]
      refine Ret_some ?_
      have hno : ¬ (V 14 0 < V 15 0 ∨ V 14 1 < V 15 1 ∨ V 14 2 < V 15 2) := by
        rintro (q | q | q)
        · exact hI 0 (by decide) q
        · exact hI 1 (by decide) q
        · exact hI 2 (by decide) q
      rw [if_neg hno]
      exact rfl
  obtain ⟨r, e, rfl⟩ := key
  exact e
theorem supplied_c {n : Nat} (hn : 60 < n) {σ : Mem} {V : Sh} {e : Nat} (hV : Vok V) (hc : Rc 25 V σ) (he : e < n) (he2 : V 18 4 + e ≤ 2000000) (hh : e < 2 ^ 31) : Ret (f_X8_staysSupplied n σ 0 (nI e)) (fun q => q.1 = (if supV V e = true then 1 else 0) ∧ (∃ g, g ≤ 1000 ∧ q.2 28 9 = nI g) ∧ Fr 25 σ q.2) := by
  unfold f_X8_staysSupplied f_X8_staysSupplied_L2
  refine Ret_for e (fun i s => shSum V i = shSum V 0 ∧ Rc 25 (tkV V i) s ∧ Fr 25 σ s) ?_ ?_ (i := 0) (Nat.zero_le _) he ⟨rfl, hc, Fr.rf _ _⟩
  · rintro i s hi ⟨hs, hI⟩
    unfold f_X8_staysSupplied_B2
    dsimp only
    rw [if_neg (c := nI e ≤ nI i) (nil hi hh), p01, P0_2 SB25]
    refine Ret_bnd (tickC SB25 hn (tk_ok hV i (by omega)) hI.1) ?_
    rintro s' ⟨a1, a2⟩
    have w : Rc 25 (tkV V (i + 1)) s' := a1
    have st0 := sh_step V 0 i
    have st1 := sh_step V 1 i
    have st2 := sh_step V 2 i
    rw [some_short SB25 (tk_ok hV (i + 1) (by omega)) w hn, bnd_s]
    by_cases q : tkV V (i + 1) 14 0 < tkV V (i + 1) 15 0 ∨ tkV V (i + 1) 14 1 < tkV V (i + 1) 15 1 ∨ tkV V (i + 1) 14 2 < tkV V (i + 1) 15 2
    · rw [if_pos q, if10]
      refine Ret_some ⟨?_, gg_trial hV (by omega) w, hI.2.tr a2⟩
      have m := shSum_mono V (i + 1) (e - (i + 1))
      rw [show i + 1 + (e - (i + 1)) = e by omega] at m
      have : shSum V i < shSum V (i + 1) := by
        unfold shSum
        rw [st0, st1, st2]
        rcases q with q | q | q
        · rw [if_pos q]; omega
        · rw [if_pos q]; omega
        · rw [if_pos q]; omega
      rw [if_neg]
      intro z
      have := of_decide_eq_true z
      omega
    · rw [if_neg q, if00]
      refine Ret_nm (Ret_some ⟨s', by rw [show (1 : Int32) = nI 1 from rfl, nI_add], ?_, a1, hI.2.tr a2⟩)
      rw [← hs]
      unfold shSum
      rw [st0, st1, st2, if_neg (fun z => q (Or.inl z)), if_neg (fun z => q (Or.inr (Or.inl z))), if_neg (fun z => q (Or.inr (Or.inr z)))]
      rfl
  · rintro s ⟨hs, hI⟩
    unfold f_X8_staysSupplied_B2
    dsimp only
    rw [if_pos (c := nI e ≤ nI e) (Int32.le_refl _)]
    refine Ret_some ⟨?_, gg_trial hV he2 hI.1, hI.2⟩
    unfold supV
    rw [if_pos (decide_eq_true hs)]
theorem shorts9 {V : Sh} {σ : Mem} {n : Nat} (h : RrA V (σ 106)) (hn : 60 < n) : f_X9_shorts n σ 105 = some (nI (V 16 0 + V 16 1 + V 16 2)) := by
  have key : Ret (f_X9_shorts n σ 105) (fun r => r = nI (sumV (V 16) 3)) := by
    unfold f_X9_shorts f_X9_shorts_L4
    refine Ret_for1 3 (fun i v => v = nI (sumV (V 16) i)) ?_ ?_ (i := 0) (Nat.zero_le _) (by omega) rfl
    · rintro i v hi rfl
      unfold f_X9_shorts_B4
      dsimp only
      rw [if_neg (c := (3 : Int32) ≤ nI i) (nil (a := 3) hi (by decide)), PM0, AM0, show (912 : Int32) = nI 912 from rfl, show (5 : Int32) = nI 5 from rfl, show (4 : Int32) = nI 4 from rfl, nI_mul, nI_add, nI_add, ckI_nI (by omega) (by decide), chk_t, ix_nI (by omega), h.2.1 i hi 4 (by decide), nI_add]
      exact Ret_nm (Ret_nm (Ret_some ⟨_, by rw [show (1 : Int32) = nI 1 from rfl, nI_add]; rfl, rfl⟩))
    · rintro v rfl
      unfold f_X9_shorts_B4
      dsimp only
      rw [if_pos (c := (3 : Int32) ≤ nI 3) (Int32.le_refl _)]
      exact Ret_some rfl
  obtain ⟨r, e, rfl⟩ := key
  rw [e]
  show some (nI (0 + V 16 0 + V 16 1 + V 16 2)) = _
  rw [Nat.zero_add]
theorem sh_le {V : Sh} (hV : Vok V) {k : Nat} (hk : V 18 4 + k ≤ 2000000) : shSum V k ≤ 6000000 := by
  have w := tk_ok hV k hk
  have t := tk_time V k
  have a := (w.2.1 0 (by decide)).2.2.2.2
  have b := (w.2.1 1 (by decide)).2.2.2.2
  have c := (w.2.1 2 (by decide)).2.2.2.2
  unfold shSum
  omega
theorem enough_r {n : Nat} (hn : 60 < n) {σ : Mem} {V : Sh} {e : Nat} (hV : Vok V) (hr : RrA V (σ 106)) (he : e < n) (he2 : V 18 4 + e ≤ 2000000) (hh : e < 2 ^ 31) : Ret (f_X9_isEnough n σ 105 (nI e)) (fun q => q.1 = (if supV V e = true then 1 else 0) ∧ Only [106] σ q.2) := by
  have l0 := sh_le hV (k := 0) (by omega)
  unfold f_X9_isEnough
  rw [shorts9 hr hn, bnd_s]
  have f0 : V 16 0 + V 16 1 + V 16 2 = shSum V 0 := rfl
  rw [f0]
  have l30 : ∀ s i, i ≤ e → RrA (tkV V i) (s 106) → f_X9_isEnough_L30 n s 105 (nI (shSum V 0)) = some (if shSum V i = shSum V 0 then 1 else 0, s) := by
    intro s i hi hs
    have li := sh_le hV (k := i) (by omega)
    unfold f_X9_isEnough_L30
    rw [shorts9 hs hn, bnd_s]
    have fi : tkV V i 16 0 + tkV V i 16 1 + tkV V i 16 2 = shSum V i := rfl
    rw [fi]
    by_cases q : shSum V i = shSum V 0
    · rw [if_pos q, if_pos (by rw [q])]
    · rw [if_neg q, if_neg (fun z => q (nI_inj (by omega) (by omega) z))]
  unfold f_X9_isEnough_L7
  refine Ret_for e (fun i s => RrA (tkV V i) (s 106) ∧ Only [106] σ s) ?_ ?_ (i := 0) (Nat.zero_le _) he ⟨hr, fun _ _ => rfl⟩
  · rintro i s hi ⟨hI, o⟩
    have li := sh_le hV (k := i) (by omega)
    unfold f_X9_isEnough_B7
    dsimp only
    rw [if_neg (c := nI e ≤ nI i) (nil hi hh), shorts9 hI hn, bnd_s]
    have fi : tkV V i 16 0 + tkV V i 16 1 + tkV V i 16 2 = shSum V i := rfl
    rw [fi]
    by_cases q : shSum V i = shSum V 0
    · rw [if_pos (c := nI (shSum V i) = nI (shSum V 0)) (by rw [q])]
      refine Ret_bnd (tickR hn (tk_ok hV i (by omega)) hI) ?_
      rintro s' ⟨a1, a2⟩
      exact Ret_nm (Ret_some ⟨s', by rw [show (1 : Int32) = nI 1 from rfl, nI_add], a1, o.one a2⟩)
    · rw [if_neg (c := nI (shSum V i) = nI (shSum V 0)) (fun z => q (nI_inj (by omega) (by omega) z)), l30 s i (by omega) hI, if_neg q]
      refine Ret_exi (Ret_some ⟨?_, o⟩)
      have m0 := shSum_mono V 0 i
      have m := shSum_mono V i (e - i)
      rw [show i + (e - i) = e by omega] at m
      rw [Nat.zero_add] at m0
      rw [if_neg]
      intro z
      have := of_decide_eq_true z
      omega
  · rintro s ⟨hI, o⟩
    unfold f_X9_isEnough_B7
    dsimp only
    rw [if_pos (c := nI e ≤ nI e) (Int32.le_refl _), l30 s e (by omega) hI]
    refine Ret_exi (Ret_some ⟨?_, o⟩)
    unfold supV
    by_cases q : shSum V e = shSum V 0
    · rw [if_pos q, if_pos (decide_eq_true q)]
    · rw [if_neg q, if_neg (fun z => q (of_decide_eq_true z))]
/-- the cue a of V, l later: it is so, or not, that no pump is short -/
def Tst (V : Sh) (a e l : Nat) (b : Bool) : Prop := ∃ G j, G ≤ 1000 ∧ NextIs (V 18 7 - 1) (outW (cuesV V) a 0) (V 19 a + l + 1) j ∧ supV (setC (vset V 18 8 G) (V 18 7) (movW (cuesV V) a (V 19 a + l) j)) e = b
theorem cues_gg (V : Sh) (G : Nat) : cuesV (vset V 18 8 G) = cuesV V := by
  funext r c
  unfold cuesV
  rw [vset_n (by omega)]
theorem p01_4 : ptr 25 4 = 45 := rfl
/-- class: the loop over later -/
theorem delay_c {n : Nat} (hn : 1200 < n) {σ : Mem} {V : Sh} {a e L : Nat} (hV : Vok V) (hT : V 18 4 ≤ 200000) (hc : Rc 1 V σ) (ha : a < V 18 7) (he : e ≤ 300) (hL : L ≤ 100) (hL2 : V 19 a + L ≤ 100000) {G0 : Nat} (hG0 : G0 ≤ 1000) (hg : σ 28 9 = nI G0) : Ret (f_X8_delay_L64 n σ 0 (nI a) (nI e) (nI L) 0) (fun q => (∃ D, q.1 = fsI D ∧ (∀ l, l ≤ L → (∀ d, D = some d → l < d) → Tst V a e l false) ∧ ∀ d, D = some d → d ≤ L ∧ Tst V a e d true) ∧ (∃ g, g ≤ 1000 ∧ q.2 28 9 = nI g) ∧ Fr 25 σ q.2) := by
  have hS := hV.2.2.1
  unfold VokS at hS
  unfold f_X8_delay_L64
  refine Ret_for (L + 1) (fun l s => (∀ l', l' < l → Tst V a e l' false) ∧ (∃ g, g ≤ 1000 ∧ s 28 9 = nI g) ∧ Fr 25 σ s) ?_ ?_ (i := 0) (Nat.zero_le _) (by omega) ⟨fun l' h => by omega, ⟨G0, hG0, hg⟩, Fr.rf _ _⟩
  · rintro l s hl ⟨h1, ⟨G, g1, g2⟩, F0⟩
    unfold f_X8_delay_B64
    dsimp only
    rw [if_neg (c := nI L < nI l) (by rw [lt_i, nI_toInt (by omega), nI_toInt (by omega)]; omega), p00, p01, P0_4 SB25, copy_ok SB25 SB1 (by unfold Ds; omega), bnd_s]
    have hcs : Rc 1 V s := Rc_same hc (fun x _ _ => F0.1 x (by omega))
    have R1 := rc_copy (b := 25) hV hcs g2
    have F1 : Fr 25 s (Cpf 25 1 cpL s) := fr_cp (by decide)
    generalize Cpf 25 1 cpL s = σ1 at R1 F1
    have hV0 := vok_gg hV g1
    have c7 : vset V 18 8 G 18 7 = V 18 7 := vset_n (by omega)
    have hq := rc_cq R1
    rw [cues_gg, c7] at hq
    have ck : cuesV V 0 a = V 19 a := rfl
    obtain ⟨q1, j, e1, j1, a1, a2, a3⟩ := postpone_ok (n := n) (t := V 19 a + l) (y := nI l) (CB_b SB25) hq (by omega) (by omega) ha (by rw [nI_add]; rfl) (by omega) (wok_V hV)
    obtain ⟨qr, σ2⟩ := q1
    dsimp only at a1 a2 a3
    rw [e1, bnd2_s]
    dsimp only
    have R2 := rc_setC R1 a3 a2
    have F2 := Fr_cues a3
    have wo := wok_mov (wok_V hV) ha (by omega) j1
    have hV2 := vok_setC hV0 (by omega) wo.1 wo.2
    have t4 : setC (vset V 18 8 G) (V 18 7) (movW (cuesV V) a (V 19 a + l) j) 18 4 = V 18 4 := by rw [setC_18 (by decide), vset_n (by omega)]
    obtain ⟨⟨r3, σ3⟩, e3, b1, b2, b3⟩ := supplied_c (n := n) (by omega) hV2 R2 (e := e) (by omega) (by omega) (by omega)
    dsimp only at b1 b2 b3
    rw [e3, bnd2_s, b1]
    dsimp only
    have F3 := F0.tr (F1.tr (F2.tr b3))
    by_cases z : supV (setC (vset V 18 8 G) (V 18 7) (movW (cuesV V) a (V 19 a + l) j)) e = true
    · rw [if_pos z, if10]
      refine Ret_some ⟨⟨some l, rfl, ?_, ?_⟩, b2, F3⟩
      · intro l' _ h
        exact h1 l' (h l rfl)
      · intro d hd
        cases hd
        exact ⟨by omega, G, j, g1, j1, z⟩
    · rw [if_neg z, if00]
      refine Ret_nm (Ret_some ⟨σ3, by rw [show (1 : Int32) = nI 1 from rfl, nI_add], ?_, b2, F3⟩)
      intro l' hl'
      by_cases w : l' = l
      · subst w
        exact ⟨G, j, g1, j1, by simpa using z⟩
      · exact h1 l' (by omega)
  · rintro s ⟨h1, hg, F0⟩
    unfold f_X8_delay_B64
    dsimp only
    rw [if_pos (c := nI L < nI (L + 1)) (by rw [lt_i, nI_toInt (by omega), nI_toInt (by omega)]; omega)]
    refine Ret_some ⟨⟨none, rfl, ?_, ?_⟩, hg, F0⟩
    · intro l hl _
      exact h1 l (by omega)
    · intro d hd
      cases hd
/-- the reference's loop over later -/
theorem delay_r {n : Nat} (hn : 1200 < n) {σ : Mem} {V : Sh} {a e M : Nat} {D : Option Nat} (hV : Vok V) (hT : V 18 4 ≤ 200000) (hr : RrA V (σ 106)) (h7 : ∀ x, x < 1121 → σ 107 x = σ 106 x) (ha : a < V 18 7) (he : e ≤ 300) (hM : M ≤ 100) (h1 : ∀ l, l ≤ M → V 19 a + l ≤ 100000 → (∀ d, D = some d → l < d) → Tst V a e l false) (h2 : ∀ d, D = some d → d ≤ M ∧ V 19 a + d ≤ 100000 ∧ Tst V a e d true) : Ret (f_X9_delay_L45 n σ 105 (nI a) (nI M) (nI e) (-6) 0) (fun q => q.1 = fsI D ∧ Only [106] σ q.2 ∧ ∀ x, x < 1121 → q.2 106 x = σ 106 x) := by
  have hS := hV.2.2.1
  unfold VokS at hS
  have hC := (wok_V hV).1 a ha
  have ck : cuesV V 0 a = V 19 a := rfl
  rw [ck] at hC
  unfold f_X9_delay_L45
  refine Ret_iter (fun m x => ∃ l σ' x4, m = M + 2 - l ∧ l ≤ M + 1 ∧ x = (σ', x4, nI l) ∧ Only [106] σ σ' ∧ (∀ x, x < 1121 → σ' 106 x = σ 106 x) ∧ ((x4 = -6 ∧ ∀ d, D = some d → l ≤ d) ∨ (∃ d, D = some d ∧ x4 = nI d))) ?_ n (M + 2 - 0) _ ⟨0, σ, -6, rfl, by omega, rfl, fun _ _ => rfl, fun _ _ => rfl, Or.inl ⟨rfl, fun d _ => by omega⟩⟩ (by omega)
  rintro m _ ⟨l, s, x4, rfl, hl, rfl, o, s6, hx⟩
  unfold f_X9_delay_B45
  dsimp only
  rcases hx with ⟨rfl, hd⟩ | ⟨d, hD, rfl⟩
  · by_cases q : l ≤ M
    · rw [if_neg (c := nI M < nI l) (by rw [lt_i, nI_toInt (by omega), nI_toInt (by omega)]; omega), if_neg (c := (0 : Int32) ≤ -6) (by decide), cue9_0 (by omega), bnd_s, s6 _ (by omega), rr_cr hr a ha 0 (by decide), ck, nI_add]
      by_cases q2 : V 19 a + l ≤ 100000
      · rw [if_neg (c := (100000 : Int32) < nI (V 19 a + l)) (by rw [lt_i, nI_toInt (by omega), show (100000 : Int32).toInt = 100000 from rfl]; omega)]
        have hrs : RrA V (s 106) := rr_same hr (by omega) (by omega) s6
        have r7 : s 106 940 = nI (V 18 7) := (rr_sets hrs).2.2.2.2.2.2.2.2.2.2.2.2.2
        obtain ⟨⟨qr, σ2⟩, j, e1, j1, a1, a2, a3, a4, a5⟩ := shift9_ok (σ := s) (n := n) (t := V 19 a + l) (y := nI l) r7 (rr_cr hrs) (by omega) (by omega) ha (by rw [nI_add]; rfl) (by omega) (wok_V hV)
        dsimp only at a1 a2 a3 a4 a5
        rw [e1, bnd2_s]
        dsimp only
        have tst : ∀ b, Tst V a e l b → Ret (f_X9_isEnough n σ2 105 (nI e)) (fun q => q.1 = (if b = true then 1 else 0) ∧ Only [106] σ2 q.2) := by
          rintro b ⟨G, j', g1, j2, g3⟩
          have := next_u j1 j2
          subst this
          have wo := wok_mov (wok_V hV) ha (by omega) j1
          have hV2 := vok_setC (vok_gg hV g1) (by omega) wo.1 wo.2
          have t4 : setC (vset V 18 8 G) (V 18 7) (movW (cuesV V) a (V 19 a + l) j) 18 4 = V 18 4 := by rw [setC_18 (by decide), vset_n (by omega)]
          have := enough_r (n := n) (σ := σ2) (by omega) hV2 (rr_setC (rr_gg hrs) (by rw [vset_n (by omega)]; omega) a5 a2 a3) (e := e) (by omega) (by omega) (by omega)
          rw [g3] at this
          exact this
        by_cases q3 : D = some l
        · obtain ⟨⟨r3, σ3⟩, e3, b1, b2⟩ := tst true (h2 l q3).2.2
          dsimp only at b1 b2
          rw [e3, bnd2_s, b1, if_pos rfl, if10]
          unfold f_X9_delay_L94
          obtain ⟨σ4, e4, o4, k4⟩ := back_ok (σ := σ3) (n := n) hn
          rw [e4, bnd_s]
          refine Ret_nm (Ret_some ⟨M + 2 - (l + 1), by omega, l + 1, σ4, nI l, rfl, by omega, by rw [show (1 : Int32) = nI 1 from rfl, nI_add], o.one (a4.one (b2.one o4)), ?_, Or.inr ⟨l, q3, rfl⟩⟩)
          intro x hx
          rw [k4 x hx, b2 107 (by decide), a4 107 (by decide), o 107 (by decide), h7 x hx]
        · have hlt : ∀ d, D = some d → l < d := fun d hd' => by
            have := hd d hd'
            have : l ≠ d := fun w => q3 (by rw [hd', w])
            omega
          obtain ⟨⟨r3, σ3⟩, e3, b1, b2⟩ := tst false (h1 l q q2 hlt)
          dsimp only at b1 b2
          rw [e3, bnd2_s, b1, if_neg (c := false = true) (by decide), if00]
          unfold f_X9_delay_L94
          obtain ⟨σ4, e4, o4, k4⟩ := back_ok (σ := σ3) (n := n) hn
          rw [e4, bnd_s]
          refine Ret_nm (Ret_some ⟨M + 2 - (l + 1), by omega, l + 1, σ4, -6, rfl, by omega, by rw [show (1 : Int32) = nI 1 from rfl, nI_add], o.one (a4.one (b2.one o4)), ?_, Or.inl ⟨rfl, fun d hd' => hlt d hd'⟩⟩)
          intro x hx
          rw [k4 x hx, b2 107 (by decide), a4 107 (by decide), o 107 (by decide), h7 x hx]
      · rw [if_pos (c := (100000 : Int32) < nI (V 19 a + l)) (by rw [lt_i, nI_toInt (by omega), show (100000 : Int32).toInt = 100000 from rfl]; omega)]
        refine Ret_nm (Ret_some ⟨M + 2 - (l + 1), by omega, l + 1, s, -6, rfl, by omega, by rw [show (1 : Int32) = nI 1 from rfl, nI_add], o, s6, Or.inl ⟨rfl, fun d hd' => ?_⟩⟩)
        have := hd d hd'
        have w : l ≠ d := by
          intro w
          have := (h2 d hd').2.1
          omega
        omega
    · rw [if_pos (c := nI M < nI l) (by rw [lt_i, nI_toInt (by omega), nI_toInt (by omega)]; omega)]
      refine Ret_some ⟨?_, o, s6⟩
      cases D with
      | none => rfl
      | some d =>
        have := hd d rfl
        have := (h2 d rfl).1
        omega
  · have := (h2 d hD).1
    have fin : Ret (some (.inl (nI d, s)) : Option ((Int32 × Mem) ⊕ (Mem × Int32 × Int32))) (Lp (fun q : Int32 × Mem => q.1 = fsI D ∧ Only [106] σ q.2 ∧ ∀ x, x < 1121 → q.2 106 x = σ 106 x) (fun s' : Mem × Int32 × Int32 => ∃ m', m' < M + 2 - l ∧ ∃ l σ' x4, m' = M + 2 - l ∧ l ≤ M + 1 ∧ s' = (σ', x4, nI l) ∧ Only [106] σ σ' ∧ (∀ x, x < 1121 → σ' 106 x = σ 106 x) ∧ ((x4 = -6 ∧ ∀ d, D = some d → l ≤ d) ∨ (∃ d, D = some d ∧ x4 = nI d)))) := Ret_some ⟨by rw [hD]; rfl, o, s6⟩
    by_cases q : nI M < nI l
    · rw [if_pos q]
      exact fin
    · rw [if_neg q, if_pos (c := 0 ≤ nI d) (il (a := 0) (by omega) (by omega))]
      exact fin
theorem op_delay {n : Nat} (hn : 1200 < n) {σ : Mem} (h : Inv σ) (x y z : Int32) : Sim (f_X8_delay n σ 0 x y z) (fun σ => f_X9_delay n σ 105 x y z) := by
  have hh := h
  obtain ⟨⟨V, hV, hT, hc, hr⟩, ht, hs, hp, s1, s2, hg⟩ := h
  have hS := hV.2.2.1
  unfold VokS at hS
  have r7 : σ 106 940 = nI (V 18 7) := (rr_sets hr).2.2.2.2.2.2.2.2.2.2.2.2.2
  have hq := rc_cq hc
  have hk := CB_b SB1
  unfold f_X8_delay
  rw [p00, P0_4 SB1, hasC_c hq.1, bnd_s]
  by_cases c : 0 ≤ x ∧ x ≤ nI (V 18 7) - 1
  · obtain ⟨a, ha, rfl⟩ := of_m (by omega) c
    have d1 := (hq.2 a ha).1
    have hC := (wok_V hV).1 a ha
    have ck : cuesV V 0 a = V 19 a := rfl
    rw [ck] at hC d1
    rw [if_pos c, if10, in_X8, bnd_s]
    by_cases c1 : (0 : Int32) ≤ y ∧ y ≤ 100
    · rw [if_pos c1, if10, in_X8, bnd_s]
      by_cases c2 : (1 : Int32) ≤ z ∧ z ≤ 300
      · obtain ⟨M, m1, rfl⟩ := of_in (m := 100) (by decide) c1
        obtain ⟨e, e1, e2, rfl⟩ := of_rng (a := 1) (b := 300) (by decide) c2 (by decide)
        rw [if_pos c2, if10, hk.1, hk.2.2.2.1, ckI_nI (by omega) (by decide), chk_t, ix_nI (by omega), d1, show (100000 : Int32) = nI 100000 from rfl, nI_sub hC.1, mnI_n (by omega) (by omega)]
        unfold nm
        obtain ⟨G, g1, g2⟩ := hg 25 SB25 (by decide)
        obtain ⟨⟨q1, σ2⟩, f1, ⟨D, k1, k2, k3⟩, ⟨g, k4, k5⟩, F2⟩ := delay_c (n := n) (L := min M (100000 - V 19 a)) hn hV hT hc ha e2 (by omega) (by omega) g1 g2
        dsimp only at k1 k5 F2
        refine ⟨_, f1, ?_⟩
        have g6 : σ2 106 = σ 106 := F2.1 106 (by omega)
        dsimp only
        unfold f_X9_delay
        rw [hasC_r (by rw [g6]; exact r7), bnd_s, if_pos c, if10, in_X9, bnd_s, if_pos c1, if10, in_X9, bnd_s, if_pos c2, if10]
        obtain ⟨σ3, f3, o3, u3⟩ := aside_ok (σ := σ2) (n := n) hn
        have g7 : σ3 106 = σ2 106 := o3 106 (by decide)
        rw [f3, bnd_s]
        refine Ret_mono (delay_r (n := n) (σ := σ3) (D := D) hn hV hT (by rw [g7, g6]; exact hr) (fun x hx => by rw [u3 x hx, g7]) ha e2 m1 (fun l h1 h2 h3 => k2 l (by omega) h3) (fun d hd => ?_)) ?_
        · have := k3 d hd
          exact ⟨by omega, by omega, this.2⟩
        · rintro q' ⟨b1, b2, b3⟩
          refine ⟨by rw [k1, b1], Inv_trial hh F2 k4 k5 ?_ ?_⟩
          · intro a ha
            simp at ha
            rw [b2 a (by simp; omega), o3 a (by simp; omega)]
          · intro a ha
            rw [b3 a ha, g7, g6]
      · rw [if_neg c2, if00]
        refine Sim_err hh rfl ?_
        unfold f_X9_delay
        rw [hasC_r r7, bnd_s, if_pos c, if10, in_X9, bnd_s, if_pos c1, if10, in_X9, bnd_s, if_neg c2, if00]
    · rw [if_neg c1, if00]
      refine Sim_err hh rfl ?_
      unfold f_X9_delay
      rw [hasC_r r7, bnd_s, if_pos c, if10, in_X9, bnd_s, if_neg c1, if00]
  · rw [if_neg c, if00]
    refine Sim_err hh rfl ?_
    unfold f_X9_delay
    rw [hasC_r r7, bnd_s, if_neg c, if00]
