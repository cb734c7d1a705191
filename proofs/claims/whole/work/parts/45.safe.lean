/-! safeCut: both loops -/
def cI (m : Nat) : Int32 := if m = 0 then -1 else nI (m - 1)
theorem cI_s (c : Nat) : cI (c + 1) = nI c := by
  unfold cI
  rw [if_neg (by omega), Nat.add_sub_cancel]
theorem cI_0 : cI 0 = -1 := rfl
theorem cI_p (c : Nat) : nI c + (-1) = cI c := by
  cases c with
  | zero => rfl
  | succ d =>
    rw [cI_s, show (-1 : Int32) = - nI 1 from rfl, ← Int32.sub_eq_add_neg, nI_sub (by omega), Nat.add_sub_cancel]
theorem cI_neg : cI 0 < 0 := by decide
theorem cI_pos (c : Nat) (hc : c < 2 ^ 31) : ¬ cI (c + 1) < 0 := by
  rw [cI_s]
  exact nI_nneg hc
theorem fr_st {σ σ' : Mem} {b : Nat} (hb : b + 24 ≤ 100) (h : Fr b σ σ') (hs : St σ) : St σ' := St_same hs (fun a _ _ => h.1 a (by omega))
theorem p25_0 : ptr 25 0 = 26 := rfl
theorem p25_1 : ptr 25 1 = 28 := rfl
/-- D is the greatest safe CUT below m -/
def Dst (V : Sh) (e m : Nat) (D : Option Nat) : Prop := (∀ c, c < m → (∀ d, D = some d → d < c) → dryV (cutV V c) e = false) ∧ ∀ d, D = some d → d < m ∧ dryV (cutV V d) e = true
theorem safe_c {n : Nat} (hn : 1200 < n) {σ : Mem} {V : Sh} {e : Nat} (hV : Vok V) (hT : V 18 4 ≤ 200000) (hc : Rc 1 V σ) (ht : Th σ) (hst : St σ) (he : e ≤ 100) {G0 : Nat} (hG0 : G0 ≤ 1000) (hg : σ 28 9 = nI G0) : Ret (f_X8_safeCut_L17 n σ 0 (nI e) 1000) (fun q => (∃ D, q.1 = fsI D ∧ Dst V e 1001 D) ∧ (∃ g, g ≤ 1000 ∧ q.2 28 9 = nI g) ∧ Fr 25 σ q.2) := by
  unfold f_X8_safeCut_L17
  refine Ret_iter (fun m x => ∃ σ', x = (σ', cI m) ∧ m ≤ 1001 ∧ (∀ c, m ≤ c → c ≤ 1000 → dryV (cutV V c) e = false) ∧ (∃ g, g ≤ 1000 ∧ σ' 28 9 = nI g) ∧ Fr 25 σ σ') ?_ n 1001 _ ⟨σ, rfl, Nat.le_refl _, fun c h1 h2 => by omega, ⟨G0, hG0, hg⟩, Fr.rf _ _⟩ (by omega)
  rintro m _ ⟨s, rfl, hm, hd, ⟨G, g1, g2⟩, F0⟩
  unfold f_X8_safeCut_B17
  dsimp only
  cases m with
  | zero =>
    rw [if_pos cI_neg]
    refine Ret_some ⟨⟨none, rfl, ?_, ?_⟩, ⟨G, g1, g2⟩, F0⟩
    · intro c hc _
      exact hd c (by omega) (by omega)
    · intro d h
      cases h
  | succ c =>
    have hcs : Rc 1 V s := Rc_same hc (fun x _ _ => F0.1 x (by omega))
    rw [if_neg (cI_pos c (by omega)), p00, p01, p25_0, cI_s, copy_ok SB25 SB1 (by unfold Ds; omega), bnd_s]
    have R1 := rc_copy (b := 25) hV hcs g2
    have F1 : Fr 25 s (Cpf 25 1 cpL s) := fr_cp (by decide)
    generalize Cpf 25 1 cpL s = σ1 at R1 F1
    have F01 := F0.tr F1
    have e3 := chS_T SB25 (Th_fr ht SB25 F01) (fr_st (by omega) F01 hst) (j := 3) (w := c) (by decide) (Nat.zero_le _) (by show c ≤ 1000; omega)
    rw [show (3 : Int32) = nI 3 from rfl, show (26 : Nat) = 25 + 1 from rfl, e3, bnd2_s]
    dsimp only
    have R2 := rc_set (j := 3) (w := c) R1
    have F2 : Fr 25 σ1 (gst σ1 (25 + 2) 3 (nI c)) := Fr_gst (by omega) (by omega)
    generalize gst σ1 (25 + 2) 3 (nI c) = σ2 at R2 F2
    have ce := cut_eq V G c
    have w6 : vset (vset V 18 8 G) 17 3 c 18 6 = V 18 6 := by rw [vset_n (by omega), vset_n (by omega)]
    have w4 : vset (vset V 18 8 G) 17 3 c 18 4 = V 18 4 := by rw [vset_n (by omega), vset_n (by omega)]
    obtain ⟨⟨r, σ3⟩, f3, b1, ⟨g, b2, b3⟩, b4⟩ := dry_c (n := n) (by omega) (V := vset (vset V 18 8 G) 17 3 c) (by rw [ce]; exact vok_cut hV (by omega)) R2 (e := e) (by omega) (by rw [w4]; omega) (by omega)
    rw [ce, w6] at b1
    dsimp only at b1 b3 b4
    rw [f3, bnd2_s]
    dsimp only
    have F3 := F01.tr (F2.tr b4)
    rcases b1 with ⟨rfl, b1⟩ | ⟨rfl, k, k1, k2, k3⟩
    · rw [if10]
      refine Ret_some ⟨⟨some c, rfl, ?_, ?_⟩, ⟨g, b2, b3⟩, F3⟩
      · intro c' h1 h2
        exact hd c' (by have := h2 c rfl; omega) (by omega)
      · intro d h
        cases h
        refine ⟨by omega, decide_eq_true ?_⟩
        rw [b1]
        exact (cut_o (by omega) (by omega)).symm
    · rw [if00, p25_1, k3]
      have t4 : cutV V c 18 4 = V 18 4 := cut_o (by omega) (by omega)
      have hS2 := (tk_ok (vok_cut (c := c) hV (by omega)) k (by rw [t4]; omega)).2.2.1
      unfold VokS at hS2
      rw [mnI_n (by omega) (by omega)]
      refine Ret_nm (Ret_nm (Ret_some ⟨min c (tkV (cutV V c) k 18 8), by omega, σ3, by rw [cI_p], by omega, ?_, ⟨g, b2, b3⟩, F3⟩))
      intro c' h1 h2
      by_cases q : c' ≤ c
      · exact wet_cut hV hT (by omega) k1 (by omega) k2 h1 q
      · exact hd c' (by omega) h2
theorem safe_r {n : Nat} (hn : 1200 < n) {σ : Mem} {V : Sh} {e : Nat} {D : Option Nat} (hV : Vok V) (hT : V 18 4 ≤ 200000) (hr : RrA V (σ 106)) (h7 : ∀ x, x < 1121 → σ 107 x = σ 106 x) (he : e ≤ 100) (hD : Dst V e 1001 D) : Ret (f_X9_safeCut_L24 n σ 105 (nI e) (-6) 1000) (fun q => q.1 = fsI D ∧ Only [106] σ q.2 ∧ ∀ x, x < 1121 → q.2 106 x = σ 106 x) := by
  have hS := hV.2.2.1
  unfold VokS at hS
  unfold f_X9_safeCut_L24
  refine Ret_iter (fun m x => ∃ σ' x2, x = (σ', x2, cI m) ∧ m ≤ 1001 ∧ Only [106] σ σ' ∧ (∀ x, x < 1121 → σ' 106 x = σ 106 x) ∧ ((x2 = -6 ∧ ∀ d, D = some d → d < m) ∨ (∃ d, D = some d ∧ x2 = nI d))) ?_ n 1001 _ ⟨σ, -6, rfl, Nat.le_refl _, fun _ _ => rfl, fun _ _ => rfl, Or.inl ⟨rfl, fun d h => (hD.2 d h).1⟩⟩ (by omega)
  rintro m _ ⟨s, x2, rfl, hm, o, s6, hx⟩
  unfold f_X9_safeCut_B24
  dsimp only
  rcases hx with ⟨rfl, hd⟩ | ⟨d, hd, rfl⟩
  · cases m with
    | zero =>
      rw [if_pos cI_neg]
      refine Ret_some ⟨?_, o, s6⟩
      cases D with
      | none => rfl
      | some d =>
        have := hd d rfl
        omega
    | succ c =>
      have hrs : RrA V (s 106) := rr_same hr (by omega) (by omega) s6
      rw [if_neg (cI_pos c (by omega)), if_neg (c := (0 : Int32) ≤ -6) (by decide), PM0, AM0, show ckI 930 1121 = true from rfl, chk_t, show ix 930 = 930 from rfl, cI_s]
      refine Ret_nm ?_
      have R1 : RrA (cutV V c) (gst s 106 930 (nI c) 106) := by
        have a := rr_set (j := 3) (v := c) (V' := vset V 17 3 c) hrs (by omega) (by decide) (vset_s _ _ _ _) (fun r c' hrc => vset_n hrc)
        rw [gst_self]
        exact rr_gg (RrA_of a (by rw [vset_n (by omega)]) (by rw [vset_n (by omega)]) (by rw [vset_n (by omega)]))
      have o1 := gst_only s 106 930 (nI c)
      generalize gst s 106 930 (nI c) = σ1 at R1 o1
      have t4 : cutV V c 18 4 = V 18 4 := cut_o (by omega) (by omega)
      obtain ⟨⟨r, σ2⟩, e2, b1, b2⟩ := dry_r (n := n) (by omega) (vok_cut (c := c) hV (by omega)) R1 (e := e) (by omega) (by rw [t4]; omega) (by omega)
      dsimp only at b1 b2
      rw [e2, bnd2_s]
      dsimp only
      obtain ⟨σ3, e3, o3, k3⟩ := back_ok (σ := σ2) (n := n) hn
      have k4 : ∀ x, x < 1121 → σ3 106 x = σ 106 x := fun x hx => by rw [k3 x hx, b2 107 (by decide), o1 107 (by decide), o 107 (by decide), h7 x hx]
      have o4 : Only [106] σ σ3 := o.one (o1.one (b2.one o3))
      unfold f_X9_safeCut_L54
      by_cases q : D = some c
      · rw [b1, (hD.2 c q).2, if_pos rfl, if10, e3, bnd_s]
        exact Ret_nm (Ret_some ⟨c, by omega, σ3, nI c, by rw [cI_p], by omega, o4, k4, Or.inr ⟨c, q, rfl⟩⟩)
      · have hlt : ∀ d, D = some d → d < c := fun d hd' => by
          have := hd d hd'
          have : d ≠ c := fun w => q (by rw [hd', w])
          omega
        rw [b1, hD.1 c (by omega) hlt, if_neg (c := false = true) (by decide), if00, e3, bnd_s]
        exact Ret_nm (Ret_some ⟨c, by omega, σ3, -6, by rw [cI_p], by omega, o4, k4, Or.inl ⟨rfl, hlt⟩⟩)
  · have hd1 := (hD.2 d hd).1
    have fin : Ret (some (.inl (nI d, s)) : Option ((Int32 × Mem) ⊕ (Mem × Int32 × Int32))) (Lp (fun q : Int32 × Mem => q.1 = fsI D ∧ Only [106] σ q.2 ∧ ∀ x, x < 1121 → q.2 106 x = σ 106 x) (fun s' : Mem × Int32 × Int32 => ∃ m', m' < m ∧ ∃ σ' x2, s' = (σ', x2, cI m') ∧ m' ≤ 1001 ∧ Only [106] σ σ' ∧ (∀ x, x < 1121 → σ' 106 x = σ 106 x) ∧ ((x2 = -6 ∧ ∀ d, D = some d → d < m') ∨ (∃ d, D = some d ∧ x2 = nI d)))) := Ret_some ⟨by rw [hd]; rfl, o, s6⟩
    by_cases q : cI m < 0
    · rw [if_pos q]
      exact fin
    · rw [if_neg q, if_pos (c := 0 ≤ nI d) (il (a := 0) (by omega) (by omega))]
      exact fin
theorem op_safeCut {n : Nat} (hn : 1200 < n) {σ : Mem} (h : Inv σ) (x : Int32) : Sim (f_X8_safeCut n σ 0 x) (fun σ => f_X9_safeCut n σ 105 x) := by
  have hh := h
  obtain ⟨⟨V, hV, hT, hc, hr⟩, ht, hs, hp, s1, s2, hg⟩ := h
  unfold f_X8_safeCut
  rw [in_X8, bnd_s]
  by_cases c1 : (1 : Int32) ≤ x ∧ x ≤ 100
  · obtain ⟨e, e1, e2, rfl⟩ := of_rng (a := 1) (b := 100) (by decide) c1 (by decide)
    rw [if_pos c1, if10]
    obtain ⟨G, g1, g2⟩ := hg 25 SB25 (by decide)
    obtain ⟨⟨q1, σ2⟩, f1, ⟨D, k1, k2⟩, ⟨g, k4, k5⟩, F2⟩ := safe_c (n := n) hn hV hT hc ht hs e2 g1 g2
    dsimp only at k1 k5 F2
    refine ⟨_, f1, ?_⟩
    have g6 : σ2 106 = σ 106 := F2.1 106 (by omega)
    dsimp only
    unfold f_X9_safeCut
    rw [in_X9, bnd_s, if_pos c1, if10]
    obtain ⟨σ3, f3, o3, u3⟩ := aside_ok (σ := σ2) (n := n) hn
    have g7 : σ3 106 = σ2 106 := o3 106 (by decide)
    rw [f3, bnd_s]
    refine Ret_mono (safe_r (n := n) (σ := σ3) (D := D) hn hV hT (by rw [g7, g6]; exact hr) (fun x hx => by rw [u3 x hx, g7]) e2 k2) ?_
    rintro q' ⟨b1, b2, b3⟩
    refine ⟨by rw [k1, b1], Inv_trial hh F2 k4 k5 ?_ ?_⟩
    · intro a ha
      simp at ha
      rw [b2 a (by simp; omega), o3 a (by simp; omega)]
    · intro a ha
      rw [b3 a ha, g7, g6]
  · rw [if_neg c1, if00]
    refine Sim_err hh rfl ?_
    unfold f_X9_safeCut
    rw [in_X9, bnd_s, if_neg c1, if00]
