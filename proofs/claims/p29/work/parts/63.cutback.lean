/-! cutBack -/
def Ct3 (V V1 : Sh) : Prop := ∀ r i, ¬ (r = 17 ∧ i = 3) → V1 r i = V r i
theorem ct_set {V V1 : Sh} (h : Ct3 V V1) (c : Nat) : Ct3 V (vset V1 17 3 c) := fun r i hr => by
  rw [vset_n hr]
  exact h r i hr
theorem eqs_cut {V V1 : Sh} (h : Ct3 V V1) (c : Nat) : EqS (vset V1 17 3 c) (cutV V c) := by
  intro r i hr
  rw [vset_n (by omega)] at hr
  have t4 : V1 18 4 = V 18 4 := h 18 4 (by omega)
  by_cases q : r = 17 ∧ i = 3
  · obtain ⟨rfl, rfl⟩ := q
    rw [vset_s, cut_17]
  · rw [vset_n q, cut_o q (by omega)]
    exact (h r i q).symm
theorem eqs_back {V V1 : Sh} (h : Ct3 V V1) : EqS V (vset V1 17 3 (V 17 3)) := by
  intro r i _
  by_cases q : r = 17 ∧ i = 3
  · obtain ⟨rfl, rfl⟩ := q
    rw [vset_s]
  · rw [vset_n q]
    exact h r i q
section CbR
variable {V : Sh} {A B : Option Sh} {σ : Mem} {n w : Nat}
theorem cb152 {V1 : Sh} (h : Lv V1 A B σ) (hV : V 17 3 ≤ 1000) (hc : Ct3 V V1) : Ret (f_L_cutBack_L152 n w σ 0 (nI (V 17 3)) 1) (fun q => q.1 = 1 ∧ ∃ V', EqS V V' ∧ Lv V' A B q.2) := by
  have hS := h.vs
  unfold VokS at hS
  unfold f_L_cutBack_L152
  rw [if10]
  refine Ret_bnd2 (o_set (j := 3) (w := V 17 3) h (by decide) (Nat.zero_le _) hV) ?_
  rintro r s ⟨r1, h1⟩
  dsimp only at r1 h1
  rw [r1, if_neg (nI_pos (by omega))]
  exact Ret_some ⟨rfl, _, eqs_back hc, h1⟩
theorem cb126 {V1 : Sh} (h : Lv V1 A B σ) (hn : 1200 < n) (hV : V 17 3 ≤ 1000) (hc : Ct3 V V1) {e c : Nat} (e1 : 1 ≤ e) (e2 : e ≤ 12) (c2 : c ≤ 1000) (hd : dryV (cutV V c) e = false) : Ret (f_L_cutBack_L126 n w σ 0 (nI e) (nI (V 17 3)) 1 (nI c) 3) (fun q => q.1 = 1 ∧ ∃ V', EqS V V' ∧ Lv V' A B q.2) := by
  unfold f_L_cutBack_L126
  refine Ret_bnd2 (o_set (j := 3) (w := c) h (by decide) (Nat.zero_le _) c2) ?_
  rintro r s ⟨r1, h1⟩
  dsimp only at r1 h1
  rw [if10]
  refine Ret_bnd2 (o_ahead (e := e) (p := 0) (w := 3) (y := 0) h1 hn e1 (by omega) (by decide) (by decide) (fun _ => rfl)) ?_
  rintro r2 s2 ⟨r3, h2⟩
  dsimp only at r3 h2
  have a3 : ahV (vset V1 17 3 c) 0 3 e = nI (tkV (vset V1 17 3 c) e 18 6 - vset V1 17 3 c 18 6) := rfl
  have hnd : dryV (vset V1 17 3 c) e = false := by rw [← hd]; exact (eqs_dry (eqs_cut hc c) e).symm
  have mo := wet_mono (vset V1 17 3 c) e
  have hne : ¬ tkV (vset V1 17 3 c) e 18 6 = vset V1 17 3 c 18 6 := of_decide_eq_false hnd
  have hS2 := h2.vs
  unfold VokS at hS2
  have t2 := h2.1.2.1
  have hS3 := (tk_ok h2.1.1 e (by omega)).2.2.1
  unfold VokS at hS3
  rw [r3, a3, if_neg (nI_nle (by omega) (by omega))]
  exact cb152 h2 hV (ct_set hc c)
theorem cb86 {V1 : Sh} (h : Lv V1 A B σ) (hn : 1200 < n) (hV : V 17 3 ≤ 1000) (hc : Ct3 V V1) {e : Nat} {D : Option Nat} (e1 : 1 ≤ e) (e2 : e ≤ 12) (hD : Dst V e 1001 D) (x : Int32) : Ret (f_L_cutBack_L86 n w σ 0 x (nI e) (fsI D) (nI (V 17 3)) 1) (fun q => q.1 = 1 ∧ ∃ V', EqS V V' ∧ Lv V' A B q.2) := by
  obtain ⟨d1, d2⟩ := hD
  unfold f_L_cutBack_L86
  cases D with
  | none =>
    have u := up_lt (x >>> (5 &&& 31)) (m := 1001) (by decide)
    rw [if_neg (c := (1000 : Int32) ≤ fsI none) (by decide), if_neg (c := 0 ≤ fsI none) (by decide), up_1001, bnd_s]
    exact cb126 h hn hV hc e1 e2 (by omega) (d1 _ u (fun d hd => by cases hd))
  | some d =>
    have hd := (d2 d rfl).1
    have e0 : fsI (some d) = nI d := rfl
    rw [e0]
    by_cases q : 1000 ≤ d
    · rw [if_pos (c := (1000 : Int32) ≤ nI d) (nI_le (a := 1000) q (by omega))]
      exact cb152 h hV hc
    · have u := up_lt (x >>> (5 &&& 31)) (m := 1000 - d) (by omega)
      rw [if_neg (c := (1000 : Int32) ≤ nI d) (nI_ge (b := 1000) (by omega) (by decide)), if_pos (c := 0 ≤ nI d) (nI_pos' (by omega)), show (1000 : Int32) = nI 1000 from rfl, nI_sub (by omega), up_ok _ (by omega) (by omega), bnd_s, nI_1, nI_add]
      exact cb126 h hn hV hc e1 e2 (by omega) (d1 _ (by omega) (fun d' hd' => by cases hd'; omega))
theorem cutBack_ok (h : Lv V A B σ) (hn : 1200 < n) (x : Int32) : Ret (f_L_cutBack n w σ 0 x) (fun q => q.1 = 1 ∧ ∃ V', EqS V V' ∧ Lv V' A B q.2) := by
  have hS := h.vs
  unfold VokS at hS
  have u := up_lt x (m := 12) (by decide)
  unfold f_L_cutBack
  rw [up_12, bnd_s, add1]
  obtain ⟨e, he⟩ : ∃ e, e = 1 + upN x 12 := ⟨_, rfl⟩
  rw [← he]
  refine Ret_nm (Ret_bnd2 (o_safe (e := e) h hn (by omega) (by omega)) ?_)
  rintro r σ1 ⟨⟨D, r1, hD⟩, h1⟩
  dsimp only at r1 h1
  subst r1
  have k13 : f_X8_state n σ1 0 13 = some (nI (V 17 3)) := o_ss h1 (j := 3) (by decide)
  have hc0 : Ct3 V V := fun _ _ _ => rfl
  have l46 : Ret (f_L_cutBack_L46 n w σ1 0 x (nI e) (fsI D) (nI (V 17 3))) (fun q => q.1 = 1 ∧ ∃ V', EqS V V' ∧ Lv V' A B q.2) := by
    unfold f_L_cutBack_L46 f_L_cutBack_L51 f_L_cutBack_L84
    cases D with
    | none =>
      rw [if_pos (c := fsI none < 0) (by decide)]
      exact cb86 h1 hn (by omega) hc0 (by omega) (by omega) hD x
    | some d =>
      have hd := hD.2 d rfl
      have e0 : fsI (some d) = nI d := rfl
      rw [if_neg (c := fsI (some d) < 0) (by rw [e0]; exact nI_pos (by omega))]
      refine Ret_bnd2 (o_set (j := 3) (w := d) h1 (by decide) (Nat.zero_le _) (by show d ≤ 1000; omega)) ?_
      rintro r s ⟨r2, h2⟩
      dsimp only at r2 h2
      rw [if10]
      refine Ret_bnd2 (o_ahead (e := e) (p := 0) (w := 3) (y := 0) h2 hn (by omega) (by omega) (by decide) (by decide) (fun _ => rfl)) ?_
      rintro r3 s3 ⟨r4, h3⟩
      dsimp only at r4 h3
      have a3 : ahV (vset V 17 3 d) 0 3 e = nI (tkV (vset V 17 3 d) e 18 6 - vset V 17 3 d 18 6) := rfl
      have hdr : dryV (vset V 17 3 d) e = true := by rw [← hd.2]; exact (eqs_dry (eqs_cut hc0 d) e).symm
      have heq : tkV (vset V 17 3 d) e 18 6 = vset V 17 3 d 18 6 := of_decide_eq_true hdr
      rw [r4, a3, heq, Nat.sub_self, if_pos (c := nI 0 = 0) rfl]
      exact cb86 h3 hn (by omega) (ct_set hc0 d) (by omega) (by omega) hD x
  rw [k13, bnd_s]
  cases D with
  | none =>
    rw [if_neg (c := fsI none < -6) (by decide), if_neg (c := 1000 < fsI none) (by decide), if_neg (c := 0 ≤ fsI none) (by decide), if_pos (c := fsI none = -6) rfl]
    exact l46
  | some d =>
    have hd := (hD.2 d rfl).1
    have e0 : fsI (some d) = nI d := rfl
    rw [if_neg (c := fsI (some d) < -6) (by rw [e0, lt_i, nI_toInt (by omega), show (-6 : Int32).toInt = -6 from rfl]; omega), if_neg (c := 1000 < fsI (some d)) (by rw [e0]; exact nI_nlt (b := d) (a := 1000) (by omega) (by decide)), if_pos (c := 0 ≤ fsI (some d)) (by rw [e0]; exact nI_pos' (by omega))]
    exact l46
end CbR
