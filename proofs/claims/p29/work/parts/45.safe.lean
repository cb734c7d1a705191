/-! safeCut: both loops -/
def cI (m : Nat) : Int32 := if m = 0 then -1 else nI (m - 1)
theorem cI_s (c : Nat) : cI (c + 1) = nI c := by
  unfold cI
  rw [if_neg (by omega), Nat.add_sub_cancel]
theorem cI_0 : cI 0 = -1 := rfl
theorem cI_p (c : Nat) : nI c + (-1) = cI c := by
  cases c with
  | zero => rfl
  | succ d =>
    rw [cI_s, show (-1 : Int32) = - nI 1 from rfl, ← Int32.sub_eq_add_neg, nI_sub (by omega), Nat.add_sub_cancel]
theorem cI_neg : cI 0 < 0 := by decide
theorem cI_pos (c : Nat) (hc : c < 2 ^ 31) : ¬ cI (c + 1) < 0 := by
  rw [cI_s]
  exact nI_nneg hc
theorem fr_st {σ σ' : Mem} {b : Nat} (hb : b + 24 ≤ 100) (h : Fr b σ σ') (hs : St σ) : St σ' := St_same hs (fun a _ _ => h.1 a (by omega))
theorem p25_0 : ptr 25 0 = 26 := rfl
theorem p25_1 : ptr 25 1 = 28 := rfl
/-- D is the greatest safe CUT below m -/
def Dst (V : Sh) (e m : Nat) (D : Option Nat) : Prop := (∀ c, c < m → (∀ d, D = some d → d < c) → dryV (cutV V c) e = false) ∧ ∀ d, D = some d → d < m ∧ dryV (cutV V d) e = true
theorem safe_c {n : Nat} (hn : 1200 < n) {σ : Mem} {V : Sh} {e : Nat} (hV : Vok V) (hT : V 18 4 ≤ 200000) (hc : Rc 1 V σ) (ht : Th σ) (hst : St σ) (he : e ≤ 100) {G0 : Nat} (hG0 : G0 ≤ 1000) (hg : σ 28 9 = nI G0) : Ret (f_X8_safeCut_L17 n σ 0 (nI e) 1000) (fun q => (∃ D, q.1 = fsI D ∧ Dst V e 1001 D) ∧ (∃ g, g ≤ 1000 ∧ q.2 28 9 = nI g) ∧ Fr 25 σ q.2) := by
  unfold f_X8_safeCut_L17
  refine Ret_iter (fun m x => ∃ σ', x = (σ', cI m) ∧ m ≤ 1001 ∧ (∀ c, m ≤ c → c ≤ 1000 → dryV (cutV V c) e = false) ∧ (∃ g, g ≤ 1000 ∧ σ' 28 9 = nI g) ∧ Fr 25 σ σ') ?_ n 1001 _ ⟨σ, rfl, Nat.le_refl _, fun c h1 h2 => by omega, ⟨G0, hG0, hg⟩, Fr.rf _ _⟩ (by omega)
  rintro m _ ⟨s, rfl, hm, hd, ⟨G, g1, g2⟩, F0⟩
  unfold f_X8_safeCut_B17
  dsimp only
  cases m with
  | zero =>
    rw [if_pos cI_neg]
    refine Ret_some ⟨⟨none, rfl, ?_, ?_⟩, ⟨G, g1, g2⟩, F0⟩
    · intro c hc _
      exact hd c (by omega) (by omega)
    · intro d h
      cases h
  | succ c =>
    have hcs : Rc 1 V s := Rc_same hc (fun x _ _ => F0.1 x (by omega))
    rw [if_neg (cI_pos c (by omega)), p00, p01, p25_0, cI_s, copy_ok SB25 SB1 (by unfold Ds; omega), bnd_s]
    have R1 := rc_copy (b := 25) hV hcs g2
    have F1 : Fr 25 s (Cpf 25 1 cpL s) := fr_cp (by decide)
    generalize Cpf 25 1 cpL s = σ1 at R1 F1
    have F01 := F0.tr F1
    have e3 := chS_T SB25 (Th_fr ht SB25 F01) (fr_st (by omega) F01 hst) (j := 3) (w := c) (by decide) (Nat.zero_le _) (by show c ≤ 1000; omega)
    rw [show (3 : Int32) = nI 3 from rfl, show (26 : Nat) = 25 + 1 from rfl, e3, bnd2_s]
    dsimp only
    have R2 := rc_set (j := 3) (w := c) R1
    have F2 : Fr 25 σ1 (gst σ1 (25 + 2) 3 (nI c)) := Fr_gst (by omega) (by omega)
    generalize gst σ1 (25 + 2) 3 (nI c) = σ2 at R2 F2
    have ce := cut_eq V G c
    have w6 : vset (vset V 18 8 G) 17 3 c 18 6 = V 18 6 := by rw [vset_n (by omega), vset_n (by omega)]
    have w4 : vset (vset V 18 8 G) 17 3 c 18 4 = V 18 4 := by rw [vset_n (by omega), vset_n (by omega)]
    obtain ⟨⟨r, σ3⟩, f3, b1, ⟨g, b2, b3⟩, b4⟩ := dry_c (n := n) (by omega) (V := vset (vset V 18 8 G) 17 3 c) (by rw [ce]; exact vok_cut hV (by omega)) R2 (e := e) (by omega) (by rw [w4]; omega) (by omega)
    rw [ce, w6] at b1
    dsimp only at b1 b3 b4
    rw [f3, bnd2_s]
    dsimp only
    have F3 := F01.tr (F2.tr b4)
    rcases b1 with ⟨rfl, b1⟩ | ⟨rfl, k, k1, k2, k3⟩
    · rw [if10]
      refine Ret_some ⟨⟨some c, rfl, ?_, ?_⟩, ⟨g, b2, b3⟩, F3⟩
      · intro c' h1 h2
        exact hd c' (by have := h2 c rfl; omega) (by omega)
      · intro d h
        cases h
        refine ⟨by omega, decide_eq_true ?_⟩
        rw [b1]
        exact (cut_o (by omega) (by omega)).symm
    · rw [if00, p25_1, k3]
      have t4 : cutV V c 18 4 = V 18 4 := cut_o (by omega) (by omega)
      have hS2 := (tk_ok (vok_cut (c := c) hV (by omega)) k (by rw [t4]; omega)).2.2.1
      unfold VokS at hS2
      rw [mnI_n (by omega) (by omega)]
      refine Ret_nm (Ret_nm (Ret_some ⟨min c (tkV (cutV V c) k 18 8), by omega, σ3, by rw [cI_p], by omega, ?_, ⟨g, b2, b3⟩, F3⟩))
      intro c' h1 h2
      by_cases q : c' ≤ c
      · exact wet_cut hV hT (by omega) k1 (by omega) k2 h1 q
      · exact hd c' (by omega) h2
