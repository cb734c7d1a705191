/-! ahead: the reference's, and both -/
def ahV (V : Sh) (p w e : Nat) : Int32 := if w = 0 then nI (gdV V p e) else if w = 1 then nI (tkV V e 16 p - V 16 p) else if w = 2 then fsI (fsV V p e) else if w = 3 then nI (tkV V e 18 6 - V 18 6) else nI (ghV V e)
theorem fs_lt {V : Sh} {p : Nat} : ∀ {k j : Nat}, fsV V p k = some j → j < k
  | 0, j, h => by
    have h : (none : Option Nat) = some j := h
    cases h
  | k + 1, j, h => by
    have h : (match fsV V p k with | some j => some j | none => if tkV V (k + 1) 14 p < tkV V (k + 1) 15 p then some k else none) = some j := h
    cases q : fsV V p k with
    | some j' =>
      rw [q] at h
      have := fs_lt q
      cases h
      omega
    | none =>
      rw [q] at h
      dsimp only at h
      split at h
      · cases h
        omega
      · cases h
theorem l169 {σ : Mem} {n : Nat} {V : Sh} {H i : Nat} {a b c x1 x3 x4 x5 x6 y0 : Int32} (hV : Vok V) (h : RrA V (σ 106)) (hn : 60 < n) (hH : H ≤ 5000) (hi : i < 2 ^ 30) : f_X9_ahead_L169 n σ 105 x1 x3 x4 x5 x6 (nI H) (nI i) y0 = some (.inr (σ, x5, x6, y0, nI (max H (maxV (V 9) 0 (V 18 5))), nI (i + 1))) := by
  have lm : maxV (V 9) 0 (V 18 5) ≤ 5000 := maxV_le (by omega) (fun j hj => (hV.1 j (by omega)).2.2.2.2.2.2.2.2.2.1)
  unfold f_X9_ahead_L169
  rw [high_now9 hV h hn, bnd_s]
  by_cases q : maxV (V 9) 0 (V 18 5) ≤ H
  · rw [if_pos (il q (by omega)), Nat.max_eq_left q]
    unfold nm
    rw [show (1 : Int32) = nI 1 from rfl, nI_add]
  · rw [if_neg (nil (by omega) (by omega)), Nat.max_eq_right (by omega)]
    unfold nm
    rw [show (1 : Int32) = nI 1 from rfl, nI_add]
theorem l75 {σ : Mem} {n : Nat} {V : Sh} {e p w : Nat} (hn : 1200 < n) (hw : w ≤ 4) (hp : p < 3) (hV : Vok V) (hr : RrA V (σ 106)) (h7 : ∀ a, a < 1121 → σ 107 a = σ 106 a) (he : e < n) (he2 : V 18 4 + e ≤ 2000000) : Ret (f_X9_ahead_L75 n σ 105 (nI e) (nI w) (nI (912 + 5 * p)) 0 0 (-6) 0 0) (fun q => q.1 = ahV V p w e ∧ Only [106] σ q.2 ∧ ∀ a, a < 1121 → q.2 106 a = σ 106 a) := by
  unfold f_X9_ahead_L75
  refine Ret_iter (fun m x => ∃ i σ', m = e - i ∧ i ≤ e ∧ x = (σ', nI (gdV V p i), nI (tkV V i 16 p - V 16 p), fsI (fsV V p i), nI (ghV V i), nI i) ∧ Only [106] σ σ' ∧ RrA (tkV V i) (σ' 106)) ?_ n (e - 0) _ ⟨0, σ, rfl, by omega, ?_, fun _ _ => rfl, hr⟩ (by omega)
  · rintro m _ ⟨i, σ1, rfl, hi, rfl, o1, r1⟩
    unfold f_X9_ahead_B75
    dsimp only
    rcases Nat.lt_or_ge i e with q | q
    · rw [if_neg (c := nI e ≤ nI i) (nil q (by omega)), PM0, AM0, show (4 : Int32) = nI 4 from rfl, show (3 : Int32) = nI 3 from rfl, nI_add, nI_add, ckI_nI (by omega) (by decide), ckI_nI (by omega) (by decide), ix_nI (by omega), ix_nI (by omega), r1.2.1 p hp 4 (by decide)]
      simp only [chk_t, nm]
      refine Ret_bnd (tickR (by omega) (tk_ok hV i (by omega)) r1) ?_
      rintro σ2 ⟨r2, o2⟩
      have w2 : RrA (tkV V (i + 1)) (σ2 106) := r2
      have hV2 := tk_ok hV (i + 1) (by omega)
      have c3 := w2.2.1 p hp 3 (by decide)
      have c4 := w2.2.1 p hp 4 (by decide)
      have b2 := hV2.2.1 p hp
      have b1 := (tk_ok hV i (by omega)).2.1 p hp
      have t1 := tk_time V i
      have t2 := tk_time V (i + 1)
      have gl := gd_le hV hp i (by omega)
      have hl := gh_le hV i (by omega)
      have st := sh_step V p i
      have mo := sh_mono V p i
      have key : Ret (f_X9_ahead_L124 n σ2 105 (nI e) (nI w) (nI (912 + 5 * p)) (nI (tkV V i 16 p - V 16 p)) (fsI (fsV V p i)) (nI (ghV V i)) (nI i) (nI (tkV V i 16 p)) (nI (gdV V p (i + 1)))) (fun t => t = .inr (σ2, nI (gdV V p (i + 1)), nI (tkV V (i + 1) 16 p - V 16 p), fsI (fsV V p (i + 1)), nI (ghV V (i + 1)), nI (i + 1))) := by
        unfold f_X9_ahead_L124 f_X9_ahead_L167
        rw [PM0, AM0, show (4 : Int32) = nI 4 from rfl, nI_add, ckI_nI (by omega) (by decide), ix_nI (by omega), c4]
        simp only [chk_t, nm]
        have f4 : tkV V (i + 1) (12 + 4) p = tkV V (i + 1) 16 p := rfl
        rw [f4, nI_sub (by omega), nI_add, show tkV V i 16 p - V 16 p + (tkV V (i + 1) 16 p - tkV V i 16 p) = tkV V (i + 1) 16 p - V 16 p by omega]
        have fz : fsV V p (i + 1) = (match fsV V p i with | some j => some j | none => if tkV V (i + 1) 14 p < tkV V (i + 1) 15 p then some i else none) := rfl
        cases fq : fsV V p i with
        | some j =>
          rw [fq] at fz
          have := fs_lt fq
          rw [fz, if_pos (c := 0 ≤ fsI (some j)) (il (a := 0) (c := j) (by omega) (by omega)), l169 (a := 0) (b := 0) (c := 0) hV2 w2 (by omega) hl (by omega)]
          exact Ret_some rfl
        | none =>
          rw [fq] at fz
          dsimp only at fz
          rw [if_neg (c := 0 ≤ fsI none) (by decide)]
          by_cases s : tkV V (i + 1) 14 p < tkV V (i + 1) 15 p
          · rw [if_pos s] at fz st
            rw [fz, if_neg (c := nI (tkV V (i + 1) 16 p) ≤ nI (tkV V i 16 p)) (nil (by omega) (by omega)), l169 (a := 0) (b := 0) (c := 0) hV2 w2 (by omega) hl (by omega)]
            exact Ret_some rfl
          · rw [if_neg s] at fz st
            rw [fz, if_pos (c := nI (tkV V (i + 1) 16 p) ≤ nI (tkV V i 16 p)) (il (by omega) (by omega)), l169 (a := 0) (b := 0) (c := 0) hV2 w2 (by omega) hl (by omega)]
            exact Ret_some rfl
      have fin : ∀ t, t = .inr (σ2, nI (gdV V p (i + 1)), nI (tkV V (i + 1) 16 p - V 16 p), fsI (fsV V p (i + 1)), nI (ghV V (i + 1)), nI (i + 1)) → Lp (fun q : Int32 × Mem => q.1 = ahV V p w e ∧ Only [106] σ q.2 ∧ ∀ a, a < 1121 → q.2 106 a = σ 106 a) (fun s' : Mem × Int32 × Int32 × Int32 × Int32 × Int32 => ∃ m', m' < e - i ∧ ∃ i_1 σ', m' = e - i_1 ∧ i_1 ≤ e ∧ s' = (σ', nI (gdV V p i_1), nI (tkV V i_1 16 p - V 16 p), fsI (fsV V p i_1), nI (ghV V i_1), nI i_1) ∧ Only [106] σ σ' ∧ RrA (tkV V i_1) (σ' 106)) t := by
        rintro t rfl
        exact ⟨e - (i + 1), by omega, i + 1, σ2, rfl, by omega, rfl, o1.one o2, w2⟩
      rw [c3]
      have f3 : tkV V (i + 1) (12 + 3) p = tkV V (i + 1) 15 p := rfl
      rw [f3]
      have gz : gdV V p (i + 1) = max (gdV V p i) (tkV V (i + 1) 15 p) := rfl
      by_cases s : tkV V (i + 1) 15 p ≤ gdV V p i
      · rw [if_pos (c := nI (tkV V (i + 1) 15 p) ≤ nI (gdV V p i)) (il s (by omega))]
        rw [Nat.max_eq_left s] at gz
        rw [gz] at key fin
        exact Ret_mono key fin
      · rw [if_neg (c := nI (tkV V (i + 1) 15 p) ≤ nI (gdV V p i)) (nil (by omega) (by omega))]
        rw [Nat.max_eq_right (by omega)] at gz
        rw [gz] at key fin
        exact Ret_mono key fin
    · have : i = e := by omega
      subst this
      have r9 : σ1 106 939 = nI (tkV V i 18 6) := (rr_sets r1).2.2.2.2.2.2.2.2.2.2.2.2.1
      have r0 : σ1 107 939 = nI (V 18 6) := by
        rw [o1 107 (by decide), h7 939 (by decide)]
        exact (rr_sets hr).2.2.2.2.2.2.2.2.2.2.2.2.1
      rw [if_pos (c := nI i ≤ nI i) (Int32.le_refl _), PM0, PM1, AM0, AM1, show ckI 939 1121 = true from rfl, show ix 939 = 939 from rfl, r9, r0, nI_sub (wet_mono V i)]
      simp only [chk_t, nm]
      obtain ⟨σ2, e2, o2, k2⟩ := back_ok (σ := σ1) (n := n) hn
      rw [e2, bnd_s]
      have tail : Only [106] σ σ2 ∧ ∀ a, a < 1121 → σ2 106 a = σ 106 a := ⟨o1.one o2, fun a ha => by rw [k2 a ha, o1 107 (by decide), h7 a ha]⟩
      unfold ahV
      have : w = 0 ∨ w = 1 ∨ w = 2 ∨ w = 3 ∨ w = 4 := by omega
      rcases this with z | z | z | z | z <;> subst z
      · rw [if_pos (c := nI 0 = 0) rfl]; exact Ret_some ⟨rfl, tail⟩
      · rw [if_neg (c := nI 1 = 0) (by decide), if_pos (c := nI 1 = 1) rfl]; exact Ret_some ⟨rfl, tail⟩
      · rw [if_neg (c := nI 2 = 0) (by decide), if_neg (c := nI 2 = 1) (by decide), if_pos (c := nI 2 = 2) rfl]; exact Ret_some ⟨rfl, tail⟩
      · rw [if_neg (c := nI 3 = 0) (by decide), if_neg (c := nI 3 = 1) (by decide), if_neg (c := nI 3 = 2) (by decide), if_pos (c := nI 3 = 3) rfl]; exact Ret_some ⟨rfl, tail⟩
      · rw [if_neg (c := nI 4 = 0) (by decide), if_neg (c := nI 4 = 1) (by decide), if_neg (c := nI 4 = 2) (by decide), if_neg (c := nI 4 = 3) (by decide)]; exact Ret_some ⟨rfl, tail⟩
  · show _ = (σ, nI 0, nI (V 16 p - V 16 p), (-6 : Int32), nI 0, nI 0)
    rw [Nat.sub_self]
    rfl
/-- the trial's greatest goal, after some ticks -/
theorem gg_trial {V : Sh} {σ : Mem} {k : Nat} (hV : Vok V) (hk : V 18 4 + k ≤ 2000000) (h : Rc 25 (tkV V k) σ) : ∃ g, g ≤ 1000 ∧ σ 28 9 = nI g := Rc_gg (tk_ok hV k hk) h
theorem ahead_c {n : Nat} (hn : 1200 < n) {σ : Mem} {V : Sh} {e p w : Nat} (hw : w ≤ 4) (hp : p < 3) (hV : Vok V) (hc : Rc 25 V σ) (he : e < n) (he2 : V 18 4 + e ≤ 2000000) (hh : e < 2 ^ 31) {y : Int32} (hy : w ≤ 2 → y = nI p) : Ret (if nI w = 0 then bnd2 (f_X8_greatestDemand n σ 0 (nI e) y) fun r_12 σ_13 => some (r_12, σ_13) else if nI w = 1 then bnd2 (f_X8_shortTicks n σ 0 (nI e) y) fun r_15 σ_16 => some (r_15, σ_16) else if nI w = 2 then bnd2 (f_X8_firstShort n σ 0 (nI e) y) fun r_18 σ_19 => some (r_18, σ_19) else if nI w = 3 then bnd2 (f_X8_wetTicks n σ 0 (nI e)) fun r_21 σ_22 => some (r_21, σ_22) else bnd2 (f_X8_greatestHeight n σ 0 (nI e)) fun r_9 σ_10 => some (r_9, σ_10)) (fun q => q.1 = ahV V p w e ∧ (∃ g, g ≤ 1000 ∧ q.2 28 9 = nI g) ∧ Fr 25 σ q.2) := by
  have : w = 0 ∨ w = 1 ∨ w = 2 ∨ w = 3 ∨ w = 4 := by omega
  unfold ahV
  rcases this with z | z | z | z | z <;> subst z
  · rw [if_pos (c := nI 0 = 0) rfl, hy (by omega)]
    obtain ⟨q, e1, a1, a2, a3⟩ := l_demand (n := n) (by omega) hp hV hc he he2 hh
    rw [e1, bnd2_s]
    exact Ret_some ⟨a1, gg_trial hV he2 a2, a3⟩
  · rw [if_neg (c := nI 1 = 0) (by decide), if_pos (c := nI 1 = 1) rfl, hy (by omega)]
    obtain ⟨q, e1, a1, ⟨k, k1, k2⟩, a3⟩ := l_short (n := n) (by omega) hp hV hc he he2 hh
    rw [e1, bnd2_s]
    exact Ret_some ⟨a1, gg_trial hV k1 k2, a3⟩
  · rw [if_neg (c := nI 2 = 0) (by decide), if_neg (c := nI 2 = 1) (by decide), if_pos (c := nI 2 = 2) rfl, hy (by omega)]
    obtain ⟨q, e1, a1, ⟨k, k1, k2⟩, a3⟩ := l_first (n := n) (by omega) hp hV hc he he2 hh
    rw [e1, bnd2_s]
    exact Ret_some ⟨a1, gg_trial hV k1 k2, a3⟩
  · rw [if_neg (c := nI 3 = 0) (by decide), if_neg (c := nI 3 = 1) (by decide), if_neg (c := nI 3 = 2) (by decide), if_pos (c := nI 3 = 3) rfl]
    obtain ⟨q, e1, a1, ⟨k, k1, k2⟩, a3⟩ := l_wet (n := n) (by omega) hV hc he he2 hh
    rw [e1, bnd2_s]
    exact Ret_some ⟨a1, gg_trial hV k1 k2, a3⟩
  · rw [if_neg (c := nI 4 = 0) (by decide), if_neg (c := nI 4 = 1) (by decide), if_neg (c := nI 4 = 2) (by decide), if_neg (c := nI 4 = 3) (by decide)]
    obtain ⟨q, e1, a1, a2, a3⟩ := l_height (n := n) (by omega) hV hc he he2 hh
    rw [e1, bnd2_s]
    exact Ret_some ⟨a1, gg_trial hV he2 a2, a3⟩
theorem op_ahead {n : Nat} (hn : 1200 < n) {σ : Mem} (h : Inv σ) (x y z : Int32) : Sim (f_X8_ahead n σ 0 x y z) (fun σ => f_X9_ahead n σ 105 x y z) := by
  have hh := h
  obtain ⟨⟨V, hV, hT, hc, hr⟩, ht, hs, hp, s1, s2, hg⟩ := h
  have main : ∀ e p w, 1 ≤ e → e ≤ 1000 → p < 3 → w ≤ 4 → (w ≤ 2 → y = nI p) → (3 ≤ w → p = 0) → Sim (f_X8_ahead_L39 n σ 0 (nI e) y (nI w)) (fun σ => f_X9_ahead_L37 n σ 105 (nI e) y (nI w)) := by
    intro e p w h1 h2 hp' hw hy hy0
    obtain ⟨G, g1, g2⟩ := hg 25 SB25 (by decide)
    unfold f_X8_ahead_L39
    rw [p00, p01, copy_ok SB25 SB1 (by unfold Ds; omega), bnd_s]
    have R1 := rc_copy (b := 25) hV hc g2
    have F1 : Fr 25 σ (Cpf 25 1 cpL σ) := fr_cp (by decide)
    generalize Cpf 25 1 cpL σ = σ1 at R1 F1
    have hV0 := vok_gg hV g1
    have t0 : vset V 18 8 G 18 4 = V 18 4 := vset_n (by omega)
    obtain ⟨⟨q1, σ2⟩, e1, a1, ⟨g, a2, a3⟩, a4⟩ := ahead_c (n := n) (σ := σ1) hn hw hp' hV0 R1 (e := e) (by omega) (by omega) (by omega) hy
    dsimp only at a1 a3 a4
    rw [e1]
    refine ⟨_, rfl, ?_⟩
    have F2 := F1.tr a4
    have g6 : σ2 106 = σ 106 := F2.1 106 (by omega)
    dsimp only
    unfold f_X9_ahead_L37 f_X9_ahead_L55
    obtain ⟨σ3, e3, o3, k3⟩ := aside_ok (σ := σ2) (n := n) hn
    have g7 : σ3 106 = σ2 106 := o3 106 (by decide)
    rw [e3, bnd_s]
    have hl := l75 (σ := σ3) (n := n) (e := e) (p := p) (w := w) hn hw hp' hV0 (by rw [g7, g6]; exact rr_gg hr) (fun a ha => by rw [k3 a ha, g7]) (by omega) (by omega)
    have fin : Ret (f_X9_ahead_L75 n σ3 105 (nI e) (nI w) (nI (912 + 5 * p)) 0 0 (-6) 0 0) (fun q' => q'.1 = q1 ∧ Inv q'.2) := by
      refine Ret_mono hl ?_
      rintro q' ⟨b1, b2, b3⟩
      refine ⟨by rw [a1, b1], Inv_trial hh F2 a2 a3 ?_ ?_⟩
      · intro a ha
        simp at ha
        rw [b2 a (by simp; omega), o3 a (by simp; omega)]
      · intro a ha
        rw [b3 a ha, g7, g6]
    by_cases c3 : w ≤ 2
    · rw [if_neg (c := 3 ≤ nI w) (nil (a := 3) (by omega) (by decide)), hy c3]
      unfold nm
      rw [show (5 : Int32) = nI 5 from rfl, show (912 : Int32) = nI 912 from rfl, nI_mul, nI_add]
      exact fin
    · rw [if_pos (c := 3 ≤ nI w) (il (a := 3) (by omega) (by omega))]
      have := hy0 (by omega)
      subst this
      exact fin
  unfold f_X8_ahead
  rw [in_X8, bnd_s, in_X8, bnd_s]
  by_cases c1 : (1 : Int32) ≤ x ∧ x ≤ 1000
  · rw [if_pos c1, if10]
    by_cases c2 : (0 : Int32) ≤ z ∧ z ≤ 4
    · rw [if_pos c2, if10]
      obtain ⟨e, e1, e2, rfl⟩ := of_rng (a := 1) (b := 1000) (by decide) c1 (by decide)
      obtain ⟨w, w1, rfl⟩ := of_in (m := 4) (by decide) c2
      by_cases c3 : w ≤ 2
      · have c3' : ¬ (2 : Int32) < nI w := by rw [lt_i, nI_toInt (by omega), show (2 : Int32).toInt = 2 from rfl]; omega
        have c3r : ¬ (3 : Int32) ≤ nI w := nil (a := 3) (by omega) (by decide)
        rw [if_neg c3', in_X8, bnd_s]
        by_cases c4 : (0 : Int32) ≤ y ∧ y ≤ 2
        · obtain ⟨p, hp', rfl⟩ := of_in (m := 2) (by decide) c4
          rw [if_pos c4, if10]
          refine Ret_mono (main e p w e1 e2 (by omega) w1 (fun _ => rfl) (fun q => by omega)) ?_
          intro q hq
          dsimp only
          unfold f_X9_ahead
          rw [in_X9, bnd_s, if_pos c1, if10, in_X9, bnd_s, if_pos c2, if10, if_neg c3r, isP_r, bnd_s, if_pos c4, if10]
          exact hq
        · rw [if_neg c4, if00]
          refine Sim_err hh rfl ?_
          unfold f_X9_ahead
          rw [in_X9, bnd_s, if_pos c1, if10, in_X9, bnd_s, if_pos c2, if10, if_neg c3r, isP_r, bnd_s, if_neg c4, if00]
      · have c3' : (2 : Int32) < nI w := by rw [lt_i, nI_toInt (by omega), show (2 : Int32).toInt = 2 from rfl]; omega
        have c3r : (3 : Int32) ≤ nI w := il (a := 3) (by omega) (by omega)
        rw [if_pos c3']
        refine Ret_mono (main e 0 w e1 e2 (by omega) w1 (fun q => by omega) (fun q => rfl)) ?_
        intro q hq
        dsimp only
        unfold f_X9_ahead
        rw [in_X9, bnd_s, if_pos c1, if10, in_X9, bnd_s, if_pos c2, if10, if_pos c3r]
        exact hq
    · rw [if_neg c2, if00]
      refine Sim_err hh rfl ?_
      unfold f_X9_ahead
      rw [in_X9, bnd_s, if_pos c1, if10, in_X9, bnd_s, if_neg c2, if00]
  · rw [if_neg c1, if00]
    refine Sim_err hh rfl ?_
    unfold f_X9_ahead
    rw [in_X9, bnd_s, if_neg c1, if00]
