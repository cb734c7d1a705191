/-! THE LAW, as a function: it answers 1 -/
section LwR
variable {A B : Option Sh} {n w : Nat}
/-- a fresh show of N nozzles: no cues, at the time 0 -/
def Fr0 (N : Nat) (V : Sh) : Prop := V 18 5 = N ∧ V 18 4 = 0 ∧ V 18 7 = 0
theorem fr0_set {N r c v : Nat} {V : Sh} (h : Fr0 N V) (hr : r ≠ 18) : Fr0 N (vset V r c v) := by
  obtain ⟨h1, h2, h3⟩ := h
  unfold Fr0
  rw [vset_r (by omega)]
  exact ⟨h1, h2, h3⟩
theorem lw265 {V : Sh} {σ : Mem} {a : Nat} (h : Lv V A B σ) (hb : Bd 0 V) (hn : 2000 < n) (hw : 61 < w) (ha : a ≤ 1000) (cv : Int32 → Int32) : Ret (f_L_law_L265 n w cv σ 0 (nI a) 0) (fun q => q.1 = 1) := by
  unfold f_L_law_L265
  refine Ret_iter (fun m s => ∃ k σ' V', m = 18 - k ∧ k ≤ 18 ∧ s = (σ', nI (a + 3 * k), nI k) ∧ Lv V' A B σ' ∧ Bd k V') ?_ w (18 - 0) _ ⟨0, σ, V, rfl, Nat.zero_le _, rfl, h, hb⟩ (by omega)
  rintro m _ ⟨k, s, V', rfl, hk, rfl, h1, hb1⟩
  unfold f_L_law_B265
  dsimp only
  rw [nI_1]
  rcases Nat.lt_or_ge k 18 with q | q
  · rw [if_neg (c := (18 : Int32) ≤ nI k) (nI_ge (b := 18) q (by decide))]
    refine Ret_nm (Ret_chk (decide_eq_true (nI_pos' (by omega))) ?_)
    rw [nI_1]
    refine Ret_nm (Ret_chk (decide_eq_true (nI_pos' (by omega))) ?_)
    rw [nI_1]
    refine Ret_nm (Ret_chk (decide_eq_true (nI_pos' (by omega))) (Ret_bnd2 (act_ok h1 hb1 q hn hw _ _ _) ?_))
    rintro r s2 ⟨r1, V2, h2, hb2⟩
    dsimp only at r1 h2
    rw [r1, if10, ordered_ok h2 (by omega) (by omega), bnd_s, if10, nI_1]
    exact Ret_nm (Ret_some ⟨18 - (k + 1), by omega, k + 1, s2, V2, rfl, q, rfl, h2, hb2⟩)
  · have : k = 18 := by omega
    subst this
    obtain ⟨b1, b2, b3⟩ := hb1
    rw [if_pos (c := (18 : Int32) ≤ nI 18) (by decide)]
    refine Ret_nm (Ret_chk (decide_eq_true (nI_pos' (by omega))) (Ret_nm (Ret_bnd2 (comes_ok h1 hn hw (by omega) _) ?_)))
    rintro r s2 ⟨r1, V2, A2, e2, h2⟩
    dsimp only at r1 h2
    rw [r1, if10, nI_1]
    refine Ret_nm (Ret_chk (decide_eq_true (nI_pos' (by omega))) (Ret_bnd2 (delayed_ok h2 (by omega) hw (fun c hc => ?_) _) ?_))
    · rw [e2.e (j := 7) (by decide)] at hc
      rw [e2.r (r := 19) (by decide) (by decide)]
      have := b3 c hc
      omega
    rintro r s3 ⟨r2, V3, B3, e3, h3⟩
    dsimp only at r2 h3
    rw [r2, if10, nI_1]
    refine Ret_nm (Ret_chk (decide_eq_true (nI_pos' (by omega))) (Ret_bnd2 (cutBack_ok h3 (by omega) _) ?_))
    rintro r s4 ⟨r3, V4, e4, h4⟩
    dsimp only at r3 h4
    rw [r3, if10, nI_1]
    refine Ret_nm (Ret_chk (decide_eq_true (nI_pos' (by omega))) (Ret_bnd2 (kept_ok h4 hn hw (by rw [e4.t, e3.t, e2.t]; omega) _) ?_))
    rintro r s5 r4
    dsimp only at r4
    rw [r4, if10]
    exact Ret_some rfl
theorem lw191 {V : Sh} {σ : Mem} {a N : Nat} (h : Lv V A B σ) (hf : Fr0 N V) (hn : 2000 < n) (hw : 61 < w) (ha : a ≤ 100) (cv : Int32 → Int32) (x3 : Int32) : Ret (f_L_law_L191 n w cv σ 0 (nI a) x3 0) (fun q => q.1 = 1) := by
  unfold f_L_law_L191
  refine Ret_iter (fun m s => ∃ k σ' V' x, m = 3 - k ∧ k ≤ 3 ∧ s = (σ', nI (a + k), x, nI k) ∧ Lv V' A B σ' ∧ Fr0 N V') ?_ w (3 - 0) _ ⟨0, σ, V, x3, rfl, Nat.zero_le _, rfl, h, hf⟩ (by omega)
  rintro m _ ⟨k, s, V', x, rfl, hk, rfl, h1, hf1⟩
  unfold f_L_law_B191
  dsimp only
  rcases Nat.lt_or_ge k 3 with q | q
  · rw [if_neg (c := (3 : Int32) ≤ nI k) (nI_ge (b := 3) q (by decide)), nI_1]
    refine Ret_nm (Ret_chk (decide_eq_true (nI_pos' (by omega))) (Ret_nm ?_))
    generalize cv (nI (a + k)) = y
    have u1 := up_lt y (m := 600) (by decide)
    have u2 := up_lt (y >>> (9 &&& 31)) (m := 100) (by decide)
    rw [up_600, bnd_s]
    refine Ret_bnd2 (o_pump (i := k) (j := 0) (w := upN y 600) h1 q (by decide) (Nat.zero_le _) (by show upN y 600 ≤ 2000; omega)) ?_
    rintro r s2 h2
    dsimp only at h2
    rw [up_100, bnd_s, add1]
    refine Ret_bnd2 (o_pump (i := k) (j := 1) (w := 1 + upN (y >>> (9 &&& 31)) 100) h2 q (by decide) (by show 1 ≤ _; omega) (by show 1 + upN (y >>> (9 &&& 31)) 100 ≤ 500; omega)) ?_
    rintro r s3 h3
    dsimp only at h3
    rw [nI_1]
    exact Ret_nm (Ret_some ⟨3 - (k + 1), by omega, k + 1, s3, _, y, rfl, q, rfl, h3, fr0_set (fr0_set hf1 (by decide)) (by decide)⟩)
  · have : k = 3 := by omega
    subst this
    have u1 := up_lt (x >>> (16 &&& 31)) (m := 500) (by decide)
    rw [if_pos (c := (3 : Int32) ≤ nI 3) (by decide), up_500, bnd_s]
    refine Ret_bnd2 (o_set (j := 5) (w := upN (x >>> (16 &&& 31)) 500) h1 (by decide) (Nat.zero_le _) (by show upN (x >>> (16 &&& 31)) 500 ≤ 5000; omega)) ?_
    rintro r s2 ⟨-, h2⟩
    dsimp only at h2
    have hf2 := fr0_set (r := 17) (c := 5) (v := upN (x >>> (16 &&& 31)) 500) hf1 (by decide)
    obtain ⟨f1, f2, f3⟩ := hf2
    exact Ret_exi (lw265 h2 ⟨by omega, by omega, fun c hc => by omega⟩ hn hw (by omega) cv)
theorem lw61 {V : Sh} {σ : Mem} {N : Nat} (h : Lv V A B σ) (hf : Fr0 N V) (hN : N ≤ 12) (hn : 2000 < n) (hw : 61 < w) (cv : Int32 → Int32) (x3 : Int32) : Ret (f_L_law_L61 n w cv σ 0 (nI 2) x3 (nI N) 0) (fun q => q.1 = 1) := by
  unfold f_L_law_L61
  refine Ret_iter (fun m s => ∃ k σ' V' x, m = N - k ∧ k ≤ N ∧ s = (σ', nI (2 + k), x, nI k) ∧ Lv V' A B σ' ∧ Fr0 N V') ?_ w (N - 0) _ ⟨0, σ, V, x3, rfl, Nat.zero_le _, rfl, h, hf⟩ (by omega)
  rintro m _ ⟨k, s, V', x, rfl, hk, rfl, h1, hf1⟩
  unfold f_L_law_B61
  dsimp only
  rcases Nat.lt_or_ge k N with q | q
  · rw [if_neg (nI_ge q (by omega)), nI_1]
    refine Ret_nm (Ret_chk (decide_eq_true (nI_pos' (by omega))) (Ret_nm ?_))
    generalize cv (nI (2 + k)) = y
    have u0 := up_lt y (m := 100) (by decide)
    have u1 := up_lt (y >>> (7 &&& 31)) (m := 5000) (by decide)
    have u2 := up_lt (y >>> (11 &&& 31)) (m := 20) (by decide)
    have u3 := up_lt (y >>> (3 &&& 31)) (m := 1000) (by decide)
    have u4 := up_lt (y >>> (17 &&& 31)) (m := 3) (by decide)
    have u5 := up_lt (y >>> (19 &&& 31)) (m := 101) (by decide)
    rw [up_100, bnd_s, add1]
    refine Ret_bnd2 (o_noz (i := k) (j := 0) (w := 1 + upN y 100) h1 (by rw [hf1.1]; exact q) (by decide) (by show 1 ≤ _; omega) (by show 1 + upN y 100 ≤ 100; omega)) ?_
    rintro r s2 h2
    dsimp only at h2
    have f2 := fr0_set (r := 0) (c := k) (v := 1 + upN y 100) hf1 (by decide)
    rw [up_5000, bnd_s, add1]
    refine Ret_bnd2 (o_noz (i := k) (j := 1) (w := 1 + upN (y >>> (7 &&& 31)) 5000) h2 (by rw [f2.1]; exact q) (by decide) (by show 1 ≤ _; omega) (by show 1 + upN (y >>> (7 &&& 31)) 5000 ≤ 5000; omega)) ?_
    rintro r s3 h3
    dsimp only at h3
    have f3 := fr0_set (r := 1) (c := k) (v := 1 + upN (y >>> (7 &&& 31)) 5000) f2 (by decide)
    rw [up_20, bnd_s]
    refine Ret_bnd2 (o_noz (i := k) (j := 2) (w := upN (y >>> (11 &&& 31)) 20) h3 (by rw [f3.1]; exact q) (by decide) (Nat.zero_le _) (by show upN (y >>> (11 &&& 31)) 20 ≤ 50; omega)) ?_
    rintro r s4 h4
    dsimp only at h4
    have f4 := fr0_set (r := 2) (c := k) (v := upN (y >>> (11 &&& 31)) 20) f3 (by decide)
    rw [up_1000, bnd_s, add1]
    refine Ret_bnd2 (o_noz (i := k) (j := 3) (w := 1 + upN (y >>> (3 &&& 31)) 1000) h4 (by rw [f4.1]; exact q) (by decide) (by show 1 ≤ _; omega) (by show 1 + upN (y >>> (3 &&& 31)) 1000 ≤ 1000; omega)) ?_
    rintro r s5 h5
    dsimp only at h5
    have f5 := fr0_set (r := 3) (c := k) (v := 1 + upN (y >>> (3 &&& 31)) 1000) f4 (by decide)
    rw [up_3, bnd_s]
    refine Ret_bnd2 (o_noz (i := k) (j := 4) (w := upN (y >>> (17 &&& 31)) 3) h5 (by rw [f5.1]; exact q) (by decide) (Nat.zero_le _) (by show upN (y >>> (17 &&& 31)) 3 ≤ 2; omega)) ?_
    rintro r s6 h6
    dsimp only at h6
    have f6 := fr0_set (r := 4) (c := k) (v := upN (y >>> (17 &&& 31)) 3) f5 (by decide)
    rw [up_101, bnd_s]
    refine Ret_bnd2 (o_noz (i := k) (j := 5) (w := upN (y >>> (19 &&& 31)) 101) h6 (by rw [f6.1]; exact q) (by decide) (Nat.zero_le _) (by show upN (y >>> (19 &&& 31)) 101 ≤ 100; omega)) ?_
    rintro r s7 h7
    dsimp only at h7
    have f7 := fr0_set (r := 5) (c := k) (v := upN (y >>> (19 &&& 31)) 101) f6 (by decide)
    rw [nI_1]
    exact Ret_nm (Ret_some ⟨N - (k + 1), by omega, k + 1, s7, _, y, rfl, q, rfl, h7, f7⟩)
  · have : k = N := by omega
    subst this
    rw [if_pos (c := nI k ≤ nI k) (Int32.le_refl _)]
    exact Ret_exi (lw191 h1 hf1 hn hw (by omega) cv x)
theorem law_ok {σ : Mem} (h : Lv (iniV 4 0) A B σ) (hn : 2000 < n) (hw : 61 < w) (cv : Int32 → Int32) : Ret (f_L_law n w cv σ 0) (fun q => q.1 = 1) := by
  unfold f_L_law
  refine Ret_nm (Ret_chk (by decide) (Ret_bnd2 (refused_ok h (by omega) w _) ?_))
  rintro r s1 ⟨r1, h1⟩
  dsimp only at r1 h1
  rw [r1, if10]
  refine Ret_nm (Ret_chk (by decide) (Ret_nm ?_))
  have u := up_lt (cv (0 + 1)) (m := 12) (by decide)
  rw [up_12, bnd_s, add1]
  refine Ret_nm (Ret_bnd2 (o_setUp (c := 1 + upN (cv (0 + 1)) 12) h1 (by omega) (by omega) (by omega)) ?_)
  rintro r s2 ⟨r2, G, -, h2⟩
  dsimp only at r2 h2
  rw [r2, if_pos (c := nI (iniV 4 0 18 5) = 4) rfl]
  exact lw61 (N := 1 + upN (cv (0 + 1)) 12) h2 ⟨rfl, rfl, rfl⟩ (by omega) hn hw cv _
end LwR
