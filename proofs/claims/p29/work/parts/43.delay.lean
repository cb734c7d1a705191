/-! delay -/
def shSum (V : Sh) (k : Nat) : Nat := tkV V k 16 0 + tkV V k 16 1 + tkV V k 16 2
/-- no pump is short in e ticks -/
def supV (V : Sh) (e : Nat) : Bool := decide (shSum V e = shSum V 0)
theorem shSum_mono (V : Sh) (k : Nat) : ∀ d, shSum V k ≤ shSum V (k + d)
  | 0 => Nat.le_refl _
  | d + 1 => Nat.le_trans (shSum_mono V k d) (by
    have a := sh_step V 0 (k + d)
    have b := sh_step V 1 (k + d)
    have c := sh_step V 2 (k + d)
    unfold shSum
    rw [show k + (d + 1) = k + d + 1 by omega, a, b, c]
    omega)
theorem some_short {b : Nat} (hb : SB b) {V : Sh} {σ : Mem} {n : Nat} (hV : Vok V) (h : Rc b V σ) (hn : 60 < n) : f_X3_someShort n σ (b + 13) = some (if V 14 0 < V 15 0 ∨ V 14 1 < V 15 1 ∨ V 14 2 < V 15 2 then 1 else 0) := by
  have is : ∀ p, p < 3 → f_X3_isShort σ (b + 13) (nI p) = some (if V 14 p < V 15 p then 1 else 0) := by
    intro p hp
    have c := hV.2.1 p hp
    exact isShort_ok hb hp (h.2.1 p hp).2.2.1 (h.2.1 p hp).2.1 (by omega) (by omega)
  have key : Ret (f_X3_someShort n σ (b + 13)) (fun r => r = if V 14 0 < V 15 0 ∨ V 14 1 < V 15 1 ∨ V 14 2 < V 15 2 then 1 else 0) := by
    unfold f_X3_someShort f_X3_someShort_L2
    refine Ret_for0 3 (fun i => ∀ p, p < i → ¬ V 14 p < V 15 p) ?_ ?_ (i := 0) (Nat.zero_le _) (by omega) (fun p hp => by omega)
    · intro i hi hI
      unfold f_X3_someShort_B2
      rw [if_neg (c := (3 : Int32) ≤ nI i) (nil (a := 3) hi (by decide)), is i hi, bnd_s]
      by_cases q : V 14 i < V 15 i
      · rw [if_pos q, if10]
        refine Ret_some ?_
        have : i = 0 ∨ i = 1 ∨ i = 2 := by omega
        rcases this with w | w | w <;> subst w
        · rw [if_pos (Or.inl q)]; exact rfl
        · rw [if_pos (Or.inr (Or.inl q))]; exact rfl
        · rw [if_pos (Or.inr (Or.inr q))]; exact rfl
      · rw [if_neg q, if00]
        refine Ret_nm (Ret_some ⟨by rw [show (1 : Int32) = nI 1 from rfl, nI_add], ?_⟩)
        intro p hp
        by_cases e : p = i
        · subst e; exact q
        · exact hI p (by omega)
    · intro hI
      unfold f_X3_someShort_B2
      rw [if_pos (c := (3 : Int32) ≤ nI 3) (Int32.le_refl _)]
      refine Ret_some ?_
      have hno : ¬ (V 14 0 < V 15 0 ∨ V 14 1 < V 15 1 ∨ V 14 2 < V 15 2) := by
        rintro (q | q | q)
        · exact hI 0 (by decide) q
        · exact hI 1 (by decide) q
        · exact hI 2 (by decide) q
      rw [if_neg hno]
      exact rfl
  obtain ⟨r, e, rfl⟩ := key
  exact e
theorem supplied_c {n : Nat} (hn : 60 < n) {σ : Mem} {V : Sh} {e : Nat} (hV : Vok V) (hc : Rc 25 V σ) (he : e < n) (he2 : V 18 4 + e ≤ 2000000) (hh : e < 2 ^ 31) : Ret (f_X8_staysSupplied n σ 0 (nI e)) (fun q => q.1 = (if supV V e = true then 1 else 0) ∧ (∃ g, g ≤ 1000 ∧ q.2 28 9 = nI g) ∧ Fr 25 σ q.2) := by
  unfold f_X8_staysSupplied f_X8_staysSupplied_L2
  refine Ret_for e (fun i s => shSum V i = shSum V 0 ∧ Rc 25 (tkV V i) s ∧ Fr 25 σ s) ?_ ?_ (i := 0) (Nat.zero_le _) he ⟨rfl, hc, Fr.rf _ _⟩
  · rintro i s hi ⟨hs, hI⟩
    unfold f_X8_staysSupplied_B2
    dsimp only
    rw [if_neg (c := nI e ≤ nI i) (nil hi hh), p01, P0_2 SB25]
    refine Ret_bnd (tickC SB25 hn (tk_ok hV i (by omega)) hI.1) ?_
    rintro s' ⟨a1, a2⟩
    have w : Rc 25 (tkV V (i + 1)) s' := a1
    have st0 := sh_step V 0 i
    have st1 := sh_step V 1 i
    have st2 := sh_step V 2 i
    rw [some_short SB25 (tk_ok hV (i + 1) (by omega)) w hn, bnd_s]
    by_cases q : tkV V (i + 1) 14 0 < tkV V (i + 1) 15 0 ∨ tkV V (i + 1) 14 1 < tkV V (i + 1) 15 1 ∨ tkV V (i + 1) 14 2 < tkV V (i + 1) 15 2
    · rw [if_pos q, if10]
      refine Ret_some ⟨?_, gg_trial hV (by omega) w, hI.2.tr a2⟩
      have m := shSum_mono V (i + 1) (e - (i + 1))
      rw [show i + 1 + (e - (i + 1)) = e by omega] at m
      have : shSum V i < shSum V (i + 1) := by
        unfold shSum
        rw [st0, st1, st2]
        rcases q with q | q | q
        · rw [if_pos q]; omega
        · rw [if_pos q]; omega
        · rw [if_pos q]; omega
      rw [if_neg]
      intro z
      have := of_decide_eq_true z
      omega
    · rw [if_neg q, if00]
      refine Ret_nm (Ret_some ⟨s', by rw [show (1 : Int32) = nI 1 from rfl, nI_add], ?_, a1, hI.2.tr a2⟩)
      rw [← hs]
      unfold shSum
      rw [st0, st1, st2, if_neg (fun z => q (Or.inl z)), if_neg (fun z => q (Or.inr (Or.inl z))), if_neg (fun z => q (Or.inr (Or.inr z)))]
      rfl
  · rintro s ⟨hs, hI⟩
    unfold f_X8_staysSupplied_B2
    dsimp only
    rw [if_pos (c := nI e ≤ nI e) (Int32.le_refl _)]
    refine Ret_some ⟨?_, gg_trial hV he2 hI.1, hI.2⟩
    unfold supV
    rw [if_pos (decide_eq_true hs)]
theorem sh_le {V : Sh} (hV : Vok V) {k : Nat} (hk : V 18 4 + k ≤ 2000000) : shSum V k ≤ 6000000 := by
  have w := tk_ok hV k hk
  have t := tk_time V k
  have a := (w.2.1 0 (by decide)).2.2.2.2
  have b := (w.2.1 1 (by decide)).2.2.2.2
  have c := (w.2.1 2 (by decide)).2.2.2.2
  unfold shSum
  omega
/-- the cue a of V, l later: it is so, or not, that no pump is short -/
def Tst (V : Sh) (a e l : Nat) (b : Bool) : Prop := ∃ G j, G ≤ 1000 ∧ NextIs (V 18 7 - 1) (outW (cuesV V) a 0) (V 19 a + l + 1) j ∧ supV (setC (vset V 18 8 G) (V 18 7) (movW (cuesV V) a (V 19 a + l) j)) e = b
theorem cues_gg (V : Sh) (G : Nat) : cuesV (vset V 18 8 G) = cuesV V := by
  funext r c
  unfold cuesV
  rw [vset_n (by omega)]
theorem p01_4 : ptr 25 4 = 45 := rfl
/-- class: the loop over later -/
theorem delay_c {n : Nat} (hn : 1200 < n) {σ : Mem} {V : Sh} {a e L : Nat} (hV : Vok V) (hT : V 18 4 ≤ 200000) (hc : Rc 1 V σ) (ha : a < V 18 7) (he : e ≤ 300) (hL : L ≤ 100) (hL2 : V 19 a + L ≤ 100000) {G0 : Nat} (hG0 : G0 ≤ 1000) (hg : σ 28 9 = nI G0) : Ret (f_X8_delay_L64 n σ 0 (nI a) (nI e) (nI L) 0) (fun q => (∃ D, q.1 = fsI D ∧ (∀ l, l ≤ L → (∀ d, D = some d → l < d) → Tst V a e l false) ∧ ∀ d, D = some d → d ≤ L ∧ Tst V a e d true) ∧ (∃ g, g ≤ 1000 ∧ q.2 28 9 = nI g) ∧ Fr 25 σ q.2) := by
  have hS := hV.2.2.1
  unfold VokS at hS
  unfold f_X8_delay_L64
  refine Ret_for (L + 1) (fun l s => (∀ l', l' < l → Tst V a e l' false) ∧ (∃ g, g ≤ 1000 ∧ s 28 9 = nI g) ∧ Fr 25 σ s) ?_ ?_ (i := 0) (Nat.zero_le _) (by omega) ⟨fun l' h => by omega, ⟨G0, hG0, hg⟩, Fr.rf _ _⟩
  · rintro l s hl ⟨h1, ⟨G, g1, g2⟩, F0⟩
    unfold f_X8_delay_B64
    dsimp only
    rw [if_neg (c := nI L < nI l) (by rw [lt_i, nI_toInt (by omega), nI_toInt (by omega)]; omega), p00, p01, P0_4 SB25, copy_ok SB25 SB1 (by unfold Ds; omega), bnd_s]
    have hcs : Rc 1 V s := Rc_same hc (fun x _ _ => F0.1 x (by omega))
    have R1 := rc_copy (b := 25) hV hcs g2
    have F1 : Fr 25 s (Cpf 25 1 cpL s) := fr_cp (by decide)
    generalize Cpf 25 1 cpL s = σ1 at R1 F1
    have hV0 := vok_gg hV g1
    have c7 : vset V 18 8 G 18 7 = V 18 7 := vset_n (by omega)
    have hq := rc_cq R1
    rw [cues_gg, c7] at hq
    have ck : cuesV V 0 a = V 19 a := rfl
    obtain ⟨q1, j, e1, j1, a1, a2, a3⟩ := postpone_ok (n := n) (t := V 19 a + l) (y := nI l) (CB_b SB25) hq (by omega) (by omega) ha (by rw [nI_add]; rfl) (by omega) (wok_V hV)
    obtain ⟨qr, σ2⟩ := q1
    dsimp only at a1 a2 a3
    rw [e1, bnd2_s]
    dsimp only
    have R2 := rc_setC R1 a3 a2
    have F2 := Fr_cues a3
    have wo := wok_mov (wok_V hV) ha (by omega) j1
    have hV2 := vok_setC hV0 (by omega) wo.1 wo.2
    have t4 : setC (vset V 18 8 G) (V 18 7) (movW (cuesV V) a (V 19 a + l) j) 18 4 = V 18 4 := by rw [setC_18 (by decide), vset_n (by omega)]
    obtain ⟨⟨r3, σ3⟩, e3, b1, b2, b3⟩ := supplied_c (n := n) (by omega) hV2 R2 (e := e) (by omega) (by omega) (by omega)
    dsimp only at b1 b2 b3
    rw [e3, bnd2_s, b1]
    dsimp only
    have F3 := F0.tr (F1.tr (F2.tr b3))
    by_cases z : supV (setC (vset V 18 8 G) (V 18 7) (movW (cuesV V) a (V 19 a + l) j)) e = true
    · rw [if_pos z, if10]
      refine Ret_some ⟨⟨some l, rfl, ?_, ?_⟩, b2, F3⟩
      · intro l' _ h
        exact h1 l' (h l rfl)
      · intro d hd
        cases hd
        exact ⟨by omega, G, j, g1, j1, z⟩
    · rw [if_neg z, if00]
      refine Ret_nm (Ret_some ⟨σ3, by rw [show (1 : Int32) = nI 1 from rfl, nI_add], ?_, b2, F3⟩)
      intro l' hl'
      by_cases w : l' = l
      · subst w
        exact ⟨G, j, g1, j1, by simpa using z⟩
      · exact h1 l' (by omega)
  · rintro s ⟨h1, hg, F0⟩
    unfold f_X8_delay_B64
    dsimp only
    rw [if_pos (c := nI L < nI (L + 1)) (by rw [lt_i, nI_toInt (by omega), nI_toInt (by omega)]; omega)]
    refine Ret_some ⟨⟨none, rfl, ?_, ?_⟩, hg, F0⟩
    · intro l hl _
      exact h1 l (by omega)
    · intro d hd
      cases hd
