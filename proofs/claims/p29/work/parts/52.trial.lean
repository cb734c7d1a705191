/-! TRIALS AND SLOTS, of the class alone -/
section TrR
variable {V : Sh} {A B : Option Sh} {σ : Mem} {n : Nat}
theorem o_ahead (h : Lv V A B σ) (hn : 1200 < n) {e p w : Nat} {y : Int32} (e1 : 1 ≤ e) (e2 : e ≤ 1000) (hp : p < 3) (hw : w ≤ 4) (hy : w ≤ 2 → y = nI p) : Ret (f_X8_ahead n σ 0 (nI e) y (nI w)) (fun q => q.1 = ahV V p w e ∧ Lv V A B q.2) := by
  have hh := h
  obtain ⟨⟨hV, hT, hc⟩, ht, hs, hpd, s1, s2, hg⟩ := h
  have main : Ret (f_X8_ahead_L39 n σ 0 (nI e) y (nI w)) (fun q => q.1 = ahV V p w e ∧ Lv V A B q.2) := by
    obtain ⟨G, g1, g2⟩ := hg 25 SB25 (by decide)
    unfold f_X8_ahead_L39
    rw [p00, p01, copy_ok SB25 SB1 (by unfold Ds; omega), bnd_s]
    have R1 := rc_copy (b := 25) hV hc g2
    have F1 : Fr 25 σ (Cpf 25 1 cpL σ) := fr_cp (by decide)
    generalize Cpf 25 1 cpL σ = σ1 at R1 F1
    have hV0 := vok_gg hV g1
    have t0 : vset V 18 8 G 18 4 = V 18 4 := vset_n (by omega)
    refine Ret_mono (ahead_c (n := n) (σ := σ1) hn hw hp hV0 R1 (e := e) (by omega) (by omega) (by omega) hy) ?_
    rintro q ⟨a1, ⟨g, a2, a3⟩, a4⟩
    exact ⟨by rw [a1, eqs_ah (eqs_gg V G)], Lv_trial hh (F1.tr a4) a2 a3⟩
  unfold f_X8_ahead
  rw [in_X8, bnd_s, if_pos (c := (1 : Int32) ≤ nI e ∧ nI e ≤ 1000) ⟨nI_le (a := 1) e1 (by omega), nI_le (b := 1000) e2 (by decide)⟩, if10, in_X8, bnd_s, if_pos (c := (0 : Int32) ≤ nI w ∧ nI w ≤ 4) (m_of (m := 5) (by decide) (by omega)), if10]
  by_cases q : 2 < w
  · rw [if_pos (c := (2 : Int32) < nI w) (nI_lt (a := 2) q (by omega))]
    exact main
  · rw [if_neg (c := (2 : Int32) < nI w) (nI_nlt (b := w) (a := 2) (by omega) (by decide)), in_X8, bnd_s, if_pos (c := (0 : Int32) ≤ y ∧ y ≤ 2), if10]
    · exact main
    · rw [hy (by omega)]
      exact m_of (m := 3) (by decide) hp
/-- what delay tries: the cue a later by l -/
def dlV (V : Sh) (a l j : Nat) : Sh := setC V (V 18 7) (movW (cuesV V) a (V 19 a + l) j)
theorem setC_p {V W : Sh} {N r i : Nat} {U : Sh} (h : W r i = V r i) : setC W N U r i = setC V N U r i := by
  unfold setC
  by_cases q : r = 18 ∧ i = 7
  · rw [if_pos q, if_pos q]
  · rw [if_neg q, if_neg q]
    by_cases q2 : 19 ≤ r ∧ r ≤ 21
    · rw [if_pos q2, if_pos q2]
    · rw [if_neg q2, if_neg q2]
      exact h
theorem eqs_setC {V W : Sh} (h : EqS V W) (N : Nat) (U : Sh) : EqS (setC V N U) (setC W N U) := by
  intro r i hr
  rw [setC_18 (by decide)] at hr
  exact setC_p (h r i hr)
theorem Tst_sup {V : Sh} {a e l j : Nat} {b : Bool} (h : Tst V a e l b) (hj : NextIs (V 18 7 - 1) (outW (cuesV V) a 0) (V 19 a + l + 1) j) : supV (dlV V a l j) e = b := by
  obtain ⟨G, j', g1, j1, j2⟩ := h
  have := next_u hj j1
  subst this
  rw [← j2]
  exact (eqs_sup (eqs_setC (eqs_gg V G) _ _) e).symm
theorem o_delay (h : Lv V A B σ) (hn : 1200 < n) {a m e : Nat} (ha : a < V 18 7) (hm : m ≤ 100) (e1 : 1 ≤ e) (e2 : e ≤ 300) (hl : V 19 a + m ≤ 100000) : Ret (f_X8_delay n σ 0 (nI a) (nI m) (nI e)) (fun q => (∃ D, q.1 = fsI D ∧ (∀ l, l ≤ m → (∀ d, D = some d → l < d) → Tst V a e l false) ∧ ∀ d, D = some d → d ≤ m ∧ Tst V a e d true) ∧ Lv V A B q.2) := by
  have hh := h
  have hS := h.vs
  unfold VokS at hS
  obtain ⟨⟨hV, hT, hc⟩, ht, hs, hpd, s1, s2, hg⟩ := h
  have hq := rc_cq hc
  have hk := CB_b SB1
  have d1 := (hq.2 a ha).1
  have ck : cuesV V 0 a = V 19 a := rfl
  have hC := (wok_V hV).1 a ha
  rw [ck] at hC
  obtain ⟨G, g1, g2⟩ := hg 25 SB25 (by decide)
  unfold f_X8_delay
  rw [p00, P0_4 SB1, hasC_c hq.1, bnd_s, if_pos (m_of (by omega) ha), if10, in_X8, bnd_s, if_pos (c := (0 : Int32) ≤ nI m ∧ nI m ≤ 100) (m_of (m := 101) (by decide) (by omega)), if10, in_X8, bnd_s, if_pos (c := (1 : Int32) ≤ nI e ∧ nI e ≤ 300) ⟨nI_le (a := 1) e1 (by omega), nI_le (b := 300) e2 (by decide)⟩, if10, hk.1, hk.2.2.2.1, ckI_nI (by omega) (by decide), chk_t, ix_nI (by omega), d1, ck, show (100000 : Int32) = nI 100000 from rfl, nI_sub (by omega), mnI_n (by omega) (by omega), show min m (100000 - V 19 a) = m by omega]
  refine Ret_nm (Ret_mono (delay_c (n := n) hn hV hT hc ha e2 hm hl g1 g2) ?_)
  rintro q ⟨a1, ⟨g, a2, a3⟩, a4⟩
  exact ⟨a1, Lv_trial hh a4 a2 a3⟩
theorem o_safe (h : Lv V A B σ) (hn : 1200 < n) {e : Nat} (e1 : 1 ≤ e) (e2 : e ≤ 100) : Ret (f_X8_safeCut n σ 0 (nI e)) (fun q => (∃ D, q.1 = fsI D ∧ Dst V e 1001 D) ∧ Lv V A B q.2) := by
  have hh := h
  obtain ⟨⟨hV, hT, hc⟩, ht, hs, hpd, s1, s2, hg⟩ := h
  obtain ⟨G, g1, g2⟩ := hg 25 SB25 (by decide)
  unfold f_X8_safeCut
  rw [in_X8, bnd_s, if_pos (c := (1 : Int32) ≤ nI e ∧ nI e ≤ 100) ⟨nI_le (a := 1) e1 (by omega), nI_le (b := 100) e2 (by decide)⟩, if10]
  refine Ret_mono (safe_c (n := n) hn hV hT hc ht hs e2 g1 g2) ?_
  rintro q ⟨a1, ⟨g, a2, a3⟩, a4⟩
  exact ⟨a1, Lv_trial hh a4 a2 a3⟩
/-- a slot written -/
theorem Lv_save {s b : Nat} {W : Sh} {σ' : Mem} (h : Lv V A B σ) (hsb : (s = 49 ∧ b = 50) ∨ (s = 74 ∧ b = 75)) (k : ∀ a, a ≠ s → ¬ (b ≤ a ∧ a < b + 24) → σ' a = σ a) (hf : σ' (b + 1) = σ (b + 1) ∧ σ' (b + 4) = σ (b + 4) ∧ σ' (b + 14) = σ (b + 14)) (hs : σ' s 1 = 1) (hW : Vok W) (hT : W 18 4 ≤ 200000) (hc : Rc b W σ') : Lv V (if s = 49 then some W else A) (if s = 49 then B else some W) σ' := by
  obtain ⟨⟨v1, v2, v3⟩, t, st, p, s1, s2, g⟩ := h
  have hst : St σ' := St_same st (fun a _ _ => k a (by omega) (by omega))
  have new : SlK s b (some W) σ' := ⟨hs, hW, hT, hc⟩
  refine ⟨⟨v1, v2, Rc_same v3 (fun a _ _ => k a (by omega) (by omega))⟩, ?_, hst, by rw [k 99 (by omega) (by omega)]; exact p, ?_, ?_, ?_⟩
  · intro b' hb'
    by_cases q : b' = b
    · subst q
      rw [hf.1, hf.2.1, hf.2.2]
      exact t b' hb'
    · have w : ∀ c, c = 1 ∨ c = 4 ∨ c = 14 → b' + c ≠ s ∧ ¬ (b ≤ b' + c ∧ b' + c < b + 24) := by intro c hc; rcases hb' with q | q | q | q <;> omega
      rw [k (b' + 1) (w 1 (by omega)).1 (w 1 (by omega)).2, k (b' + 4) (w 4 (by omega)).1 (w 4 (by omega)).2, k (b' + 14) (w 14 (by omega)).1 (w 14 (by omega)).2]
      exact t b' hb'
  · rcases hsb with ⟨q1, q2⟩ | ⟨q1, q2⟩ <;> subst q1 q2
    · exact new
    · exact SlK_same s1 (k _ (by omega) (by omega)) (fun a _ _ => k a (by omega) (by omega))
  · rcases hsb with ⟨q1, q2⟩ | ⟨q1, q2⟩ <;> subst q1 q2
    · exact SlK_same s2 (k _ (by omega) (by omega)) (fun a _ _ => k a (by omega) (by omega))
    · exact new
  · intro b' hb' hn'
    by_cases q : b' = b
    · subst q
      exact ⟨W 18 8, by have := hW.2.2.1; unfold VokS at this; omega, hc.2.2.1.2.2.2.2.2.2.2.2.2⟩
    · rw [k (b' + 3) (by rcases hb' with q | q | q | q <;> omega) (by rcases hb' with q | q | q | q <;> omega)]
      exact g b' hb' hn'
theorem o_saveL (h : Lv V A B σ) {s b : Nat} (hsb : (s = 49 ∧ b = 50) ∨ (s = 74 ∧ b = 75)) : Ret (bnd (f_X5_copy σ b 1) fun σ_6 => nm (gst σ_6 s 1 1) fun σ_7 => some (σ_7 1 5, σ_7)) (fun q => q.1 = nI (V 18 4) ∧ ∃ W, EqS V W ∧ Lv V (if s = 49 then some W else A) (if s = 49 then B else some W) q.2) := by
  have hh := h
  obtain ⟨⟨hV, hT, hc⟩, ht, hs, hpd, s1, s2, hg⟩ := h
  have t1 : σ 1 5 = nI (V 18 4) := hc.2.2.1.2.2.2.2.2.1
  have hb : SB b := by rcases hsb with q | q <;> (obtain ⟨-, q⟩ := q; subst q) <;> first | exact SB50 | exact SB75
  obtain ⟨G, g1, g2⟩ := hg b hb (by omega)
  rw [copy_ok hb SB1 (by unfold Ds; omega), bnd_s]
  have R1 := rc_copy (b := b) hV hc g2
  have F1 : Fr b σ (Cpf b 1 cpL σ) := fr_cp (by decide)
  generalize Cpf b 1 cpL σ = σ1 at R1 F1
  refine Ret_nm (Ret_some ⟨?_, vset V 18 8 G, eqs_gg V G, Lv_save hh hsb ?_ ?_ gst_s2 (vok_gg hV g1) (by rw [vset_n (by omega)]; exact hT) (Rc_same R1 (fun a _ _ => gst_row (by omega)))⟩)
  · show gst σ1 s 1 1 1 5 = _
    rw [gst_row (by omega), F1.1 1 (by omega), t1]
  · intro a q1 q2
    dsimp only
    rw [gst_row q1, F1.1 a q2]
  · dsimp only
    obtain ⟨f1, f2, f3, f4⟩ := F1
    rw [gst_row (by omega), gst_row (by omega), gst_row (by omega)]
    exact ⟨f2, f3, f4⟩
theorem o_save0 (h : Lv V A B σ) : Ret (f_X8_save σ 0 0) (fun q => q.1 = nI (V 18 4) ∧ ∃ W, EqS V W ∧ Lv V (some W) B q.2) := by
  unfold f_X8_save f_X8_slotAt
  rw [p00, p02, p03, if_pos rfl, bnd_s]
  exact o_saveL h (s := 49) (b := 50) (by omega)
theorem o_save1 (h : Lv V A B σ) : Ret (f_X8_save σ 0 1) (fun q => q.1 = nI (V 18 4) ∧ ∃ W, EqS V W ∧ Lv V A (some W) q.2) := by
  unfold f_X8_save f_X8_slotAt
  rw [p00, p02, p03, if_neg (by decide), if_pos rfl, bnd_s]
  exact o_saveL h (s := 74) (b := 75) (by omega)
theorem o_restL (h : Lv V A B σ) {s b : Nat} {W : Sh} (hsb : (s = 49 ∧ b = 50) ∨ (s = 74 ∧ b = 75)) (hk : SlK s b (some W) σ) : Ret (if σ s 1 = 0 then some ((-5), σ) else bnd (f_X5_copy σ 1 b) fun σ_6 => some (σ_6 1 5, σ_6)) (fun q => q.1 = nI (W 18 4) ∧ ∃ V', EqS W V' ∧ Lv V' A B q.2) := by
  have hh := h
  obtain ⟨⟨hV, hT, hc⟩, ht, hs, hpd, s1, s2, hg⟩ := h
  have hb : SB b := by rcases hsb with q | q <;> (obtain ⟨-, q⟩ := q; subst q) <;> first | exact SB50 | exact SB75
  obtain ⟨h0, w1, w2, w3⟩ := hk
  obtain ⟨G, g1, g2⟩ := Rc_gg hV hc
  rw [if_neg (by rw [h0]; decide), copy_ok SB1 hb (by unfold Ds; omega), bnd_s]
  have R1 := rc_copy (b := 1) w1 w3 g2
  have F1 : Fr 1 σ (Cpf 1 b cpL σ) := fr_cp (by decide)
  generalize Cpf 1 b cpL σ = σ1 at R1 F1
  refine Ret_some ⟨?_, vset W 18 8 G, eqs_gg W G, Lv_next hh F1 (vok_gg w1 g1) (by rw [vset_n (by omega)]; exact w2) R1⟩
  have := R1.2.2.1.2.2.2.2.2.1
  rw [vset_n (by omega)] at this
  exact this
theorem o_rest0 {W : Sh} (h : Lv V (some W) B σ) : Ret (f_X8_restore σ 0 0) (fun q => q.1 = nI (W 18 4) ∧ ∃ V', EqS W V' ∧ Lv V' (some W) B q.2) := by
  unfold f_X8_restore f_X8_slotAt
  rw [p00, p02, p03, if_pos rfl, bnd_s]
  exact o_restL h (s := 49) (b := 50) (by omega) h.2.2.2.2.1
theorem o_rest1 {W : Sh} (h : Lv V A (some W) σ) : Ret (f_X8_restore σ 0 1) (fun q => q.1 = nI (W 18 4) ∧ ∃ V', EqS W V' ∧ Lv V' A (some W) q.2) := by
  unfold f_X8_restore f_X8_slotAt
  rw [p00, p02, p03, if_neg (by decide), if_pos rfl, bnd_s]
  exact o_restL h (s := 74) (b := 75) (by omega) h.2.2.2.2.2.1
end TrR
