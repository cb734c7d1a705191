/-! the reference's openings, pumps and nozzles -/
def vset (V : Sh) (r c v : Nat) : Sh := fun r' c' => if r' = r ∧ c' = c then v else V r' c'
theorem vset_s (V : Sh) (r c v : Nat) : vset V r c v r c = v := by unfold vset; rw [if_pos ⟨rfl, rfl⟩]
theorem vset_n {V : Sh} {r c v r' c' : Nat} (h : ¬ (r' = r ∧ c' = c)) : vset V r c v r' c' = V r' c' := by unfold vset; rw [if_neg h]
theorem goal9_ok {σ : Mem} {T i lag st cut : Nat} {g : Nat → Nat} (hi : i < 12) (hT : T ≤ 2000000) (hl : lag ≤ 50) (hst : st ≤ 2) (hcut : cut ≤ 1000) (h7 : σ 106 937 = nI T) (h2 : σ 106 (12 * i + 2) = nI lag) (h5 : σ 106 935 = nI st) (h0 : σ 106 930 = nI cut) (hg : ∀ t', t' ≤ T → T ≤ t' + 50 → σ 106 (144 + 64 * i + t' % 64) = nI (g t')) (hg1 : ∀ t', g t' ≤ 1000 ∨ True) (hgl : (if lag ≤ T then g (T - lag) else 0) ≤ 1000) : f_X9_goal σ 105 (nI i) = some (nI (goalX st cut (if lag ≤ T then g (T - lag) else 0))) := by
  have L47 : ∀ v, v ≤ 1000 → f_X9_goal_L47 σ 105 (nI v) = some (nI (goalX st cut v)) := by
    intro v hv
    unfold f_X9_goal_L47 goalX
    rw [PM0, AM0, show ix 935 = 935 from rfl, show ix 930 = 930 from rfl, h5, h0, show ckI 935 1121 = true from rfl, show ckI 930 1121 = true from rfl]
    show (if nI st = 2 then some 0 else (if nI st = 1 then (if nI v ≤ nI cut then some (nI v) else some (nI cut)) else some (nI v))) = _
    by_cases s2 : st = 2
    · subst s2; rfl
    · rw [if_neg (fun e => s2 (nI_inj (by omega) (by decide) (e.trans l_2)))]
      by_cases s1 : st = 1
      · rw [if_pos (by rw [s1]; rfl), if_pos s1]
        by_cases c : v ≤ cut
        · rw [if_pos (nI_le c (by omega)), show min v cut = v by omega]
        · rw [if_neg (nI_ge (by omega) (by omega)), show min v cut = cut by omega]
      · rw [if_neg (fun e => s1 (nI_inj (by omega) (by decide) (e.trans l_1))), if_neg s1, if_neg s2]
  unfold f_X9_goal nm
  rw [PM0, AM0, show ix 937 = 937 from rfl, show ckI 937 1121 = true from rfl, l_12, l_2, l_144, l_64, nI_mul, nI_mul, nI_add, nI_add, ix_nI (by omega), h7, h2, ckI_nI (by omega) (by decide)]
  show (if 0 ≤ nI T - nI lag then chk (ckI (nI (144 + 64 * i) + irm (nI T - nI lag) (nI 64)) 1121) (f_X9_goal_L47 σ 105 (σ 106 (ix (nI (144 + 64 * i) + irm (nI T - nI lag) (nI 64))))) else f_X9_goal_L47 σ 105 0) = _
  by_cases h : lag ≤ T
  · have hm : (T - lag) % 64 < 64 := Nat.mod_lt _ (by decide)
    rw [if_pos h] at hgl ⊢
    rw [nI_sub h, if_pos (nI_pos' (by omega)), irm_nI (by omega) (by decide) (by decide), nI_add, ckI_nI (by omega) (by decide), ix_nI (by omega), hg _ (by omega) (by omega)]
    exact L47 _ hgl
  · have hs := pk_sneg (a := T) (b := lag) (by omega) (by omega)
    rw [if_neg h] at hgl ⊢
    rw [if_neg (by rw [le_i]; rw [lt_i] at hs; rw [Int32.toInt_zero] at *; omega)]
    exact L47 0 (by omega)
/-- the pumps' step -/
theorem stepPump_ok {T M K : Nat} {W : Sh} {σ : Mem} {n p dem run : Nat} (h : RrB T M K W (σ 106)) (hM : M ≤ 12) (h5 : W 18 5 = M) (hn : 12 < n) (hp : p < 3) (hW : ∀ i, i < M → W 7 i ≤ 1000 ∧ W 0 i ≤ 100 ∧ W 4 i ≤ 2) (hP : W 12 p ≤ 2000 ∧ W 13 p ≤ 500 ∧ W 14 p ≤ 2000000 ∧ W 16 p ≤ 2000000) (hdem : dem = sumV (fun i => if W 4 i = p then W 7 i * W 0 i else 0) M) (hrun : run = tow (W 14 p) (min dem (1000 * W 12 p)) (1000 * W 13 p)) :
    Ret (f_X9_stepPump n σ 105 (nI p)) (fun σ' => (∀ W' : Sh, W' 14 p = run → W' 15 p = dem → W' 16 p = W 16 p + (if run < dem then 1 else 0) → (∀ r c, ¬ (c = p ∧ (r = 14 ∨ r = 15 ∨ r = 16)) → W' r c = W r c) → RrB T M K W' (σ' 106)) ∧ Only [106] σ σ' ∧ ∀ x, x < 912 → σ' 106 x = σ 106 x) := by
  have hd : dem ≤ 1200000 := by
    rw [hdem]
    refine Nat.le_trans (sumV_le (m := 100000) (fun i hi => ?_)) (Nat.mul_le_mul hM (Nat.le_refl 100000))
    obtain ⟨a1, a2, -⟩ := hW i hi
    have := own_le a1 a2
    split <;> omega
  have hr : run ≤ 2000000 := by rw [hrun]; exact tow_le hP.2.2.1 (by omega)
  have R := rr_sets h
  obtain ⟨-, -, -, -, -, -, -, -, -, -, -, r5, -, -⟩ := R
  rw [h5] at r5
  have p0 : σ 106 (912 + 5 * p + 0) = nI (W 12 p) := h.2.1 p hp 0 (by decide)
  have p1 : σ 106 (912 + 5 * p + 1) = nI (W 13 p) := h.2.1 p hp 1 (by decide)
  have p2 : σ 106 (912 + 5 * p + 2) = nI (W 14 p) := h.2.1 p hp 2 (by decide)
  have p4 : σ 106 (912 + 5 * p + 4) = nI (W 16 p) := h.2.1 p hp 4 (by decide)
  -- behind the sum
  have L173 : ∀ (σ6 : Mem) (s : Nat), σ6 106 = upd (upd (σ 106) (912 + 5 * p + 3) (nI dem)) (912 + 5 * p + 2) (nI run) → Only [106] σ σ6 → s = (if run < dem then 1 else 0) → Ret (f_X9_stepPump_L173 n σ6 105 (nI s) (nI (W 16 p)) (nI (912 + 5 * p + 4))) (fun σ' => (∀ W' : Sh, W' 14 p = run → W' 15 p = dem → W' 16 p = W 16 p + (if run < dem then 1 else 0) → (∀ r c, ¬ (c = p ∧ (r = 14 ∨ r = 15 ∨ r = 16)) → W' r c = W r c) → RrB T M K W' (σ' 106)) ∧ Only [106] σ σ' ∧ ∀ x, x < 912 → σ' 106 x = σ 106 x) := by
    intro σ6 s e6 o6 hs
    unfold f_X9_stepPump_L173
    rw [PM0, AM0, ix_nI (by omega), nI_add]
    refine Ret_chk (ckI_nI (by omega) (by decide)) (Ret_nm (Ret_some ⟨?_, o6.one (gst_only _ _ _ _), ?_⟩))
    · intro W' w14 w15 w16 ws
      rw [gst_self, e6]
      have a1 := rr_pmp (j := 3) (v := dem) (V' := vset W 15 p dem) h hM hp (by decide) (vset_s _ _ _ _) (fun r c hh => vset_n hh)
      have a2 := rr_pmp (j := 2) (v := run) (V' := vset (vset W 15 p dem) 14 p run) a1 hM hp (by decide) (vset_s _ _ _ _) (fun r c hh => vset_n hh)
      refine rr_pmp (j := 4) (v := W 16 p + s) a2 hM hp (by decide) (by rw [w16, hs]) ?_
      intro r c hh
      by_cases q14 : r = 14 ∧ c = p
      · obtain ⟨rfl, rfl⟩ := q14; rw [vset_s, w14]
      · rw [vset_n q14]
        by_cases q15 : r = 15 ∧ c = p
        · obtain ⟨rfl, rfl⟩ := q15; rw [vset_s, w15]
        · rw [vset_n q15]
          exact ws r c (by omega)
    · intro x hx
      rw [gst_self, e6, upd_n (by omega), upd_n (by omega), upd_n (by omega)]
  have L131 : ∀ (σ3 : Mem) (g : Nat), σ3 106 = upd (σ 106) (912 + 5 * p + 3) (nI dem) → Only [106] σ σ3 → g = min dem (1000 * W 12 p) → Ret (f_X9_stepPump_L131 n σ3 105 (nI (912 + 5 * p)) (nI dem) (nI g) (nI (W 14 p)) (nI (912 + 5 * p + 2))) (fun σ' => (∀ W' : Sh, W' 14 p = run → W' 15 p = dem → W' 16 p = W 16 p + (if run < dem then 1 else 0) → (∀ r c, ¬ (c = p ∧ (r = 14 ∨ r = 15 ∨ r = 16)) → W' r c = W r c) → RrB T M K W' (σ' 106)) ∧ Only [106] σ σ' ∧ ∀ x, x < 912 → σ' 106 x = σ 106 x) := by
    intro σ3 g e3 o3 hg
    unfold f_X9_stepPump_L131
    rw [PM0, AM0, l_1, l_2, l_4, l_1000, nI_add, nI_add, nI_add, ix_nI (by omega), ix_nI (by omega), e3, upd_n (by omega), p1, nI_mul]
    refine Ret_chk (ckI_nI (by omega) (by decide)) (Ret_bndE (tow_X9 (by omega) (by omega) (by omega)) (Ret_chk (ckI_nI (by omega) (by decide)) (Ret_nm ?_)))
    rw [hg, ← hrun]
    have e6 : gst σ3 106 (912 + 5 * p + 2) (nI run) 106 = upd (upd (σ 106) (912 + 5 * p + 3) (nI dem)) (912 + 5 * p + 2) (nI run) := by rw [gst_self, e3]
    have o6 := o3.one (gst_only σ3 106 (912 + 5 * p + 2) (nI run))
    generalize gst σ3 106 (912 + 5 * p + 2) (nI run) = σ6 at e6 o6
    refine Ret_nm (Ret_chk (ckI_nI (by omega) (by decide)) (Ret_chk (ckI_nI (by omega) (by decide)) ?_))
    rw [ix_nI (by omega), e6, upd_s, upd_n (by omega), upd_n (by omega), p4, l_0]
    by_cases c : run < dem
    · exact Ret_iteF (nI_ge c (by omega)) (L173 σ6 1 e6 o6 (by rw [if_pos c]))
    · exact Ret_iteT (nI_le (by omega) (by omega)) (L173 σ6 0 e6 o6 (by rw [if_neg c]))
  unfold f_X9_stepPump f_X9_stepPump_L13
  refine Ret_nm ?_
  rw [l_912, l_5, nI_mul, nI_add]
  refine Ret_for1 M (fun i v => v = nI (sumV (fun i => if W 4 i = p then W 7 i * W 0 i else 0) i)) ?_ ?_ (i := 0) (Nat.zero_le _) (by omega) rfl
  · rintro i v hi rfl
    have n0 : σ 106 (12 * i + 0) = nI (W 0 i) := h.1 i hi 0 (by decide)
    have n4 : σ 106 (12 * i + 4) = nI (W 4 i) := h.1 i hi 4 (by decide)
    have n7 : σ 106 (12 * i + 7) = nI (W 7 i) := h.1 i hi 7 (by decide)
    obtain ⟨-, -, w4⟩ := hW i hi
    show Ret (f_X9_stepPump_B13 n σ 105 (nI p) (nI (912 + 5 * p)) _ (nI i)) _
    unfold f_X9_stepPump_B13
    rw [PM0, AM0, show ix 938 = 938 from rfl, r5]
    refine Ret_chk (by decide) (Ret_iteF (nI_ge hi (by omega)) ?_)
    rw [l_12, l_4, l_7, l_0, nI_mul, nI_add, nI_add, nI_add, ix_nI (by omega), ix_nI (by omega), ix_nI (by omega), n4, n7, n0, nI_mul]
    refine Ret_chk (ckI_nI (by omega) (by decide)) ?_
    by_cases q : W 4 i = p
    · refine Ret_iteT (by rw [q]) (Ret_chk (ckI_nI (by omega) (by decide)) (Ret_chk (ckI_nI (by omega) (by decide)) (Ret_nm (Ret_nm ?_))))
      rw [nI_add, nI_1]
      refine Ret_some ⟨_, rfl, ?_⟩
      show nI _ = nI (_ + if W 4 i = p then W 7 i * W 0 i else 0)
      rw [if_pos q]
    · refine Ret_iteF (fun e => q (nI_inj (by omega) (by omega) e)) (Ret_nm (Ret_nm ?_))
      rw [nI_add, nI_1]
      refine Ret_some ⟨_, rfl, ?_⟩
      show nI _ = nI (_ + if W 4 i = p then W 7 i * W 0 i else 0)
      rw [if_neg q]
  · rintro v rfl
    rw [← hdem]
    show Ret (f_X9_stepPump_B13 n σ 105 (nI p) (nI (912 + 5 * p)) (nI dem) (nI M)) _
    unfold f_X9_stepPump_B13
    rw [PM0, AM0, show ix 938 = 938 from rfl, r5]
    refine Ret_chk (by decide) (Ret_iteT (nI_le (Nat.le_refl _) (by omega)) ?_)
    rw [l_0, l_3, l_2, l_1000, nI_add, nI_add, nI_add, ix_nI (by omega), ix_nI (by omega), ix_nI (by omega), p0, nI_mul]
    refine Ret_chk (ckI_nI (by omega) (by decide)) (Ret_nm (Ret_chk (ckI_nI (by omega) (by decide)) (Ret_nm ?_)))
    have e3 := gst_self σ 106 (912 + 5 * p + 3) (nI dem)
    have o3 := gst_only σ 106 (912 + 5 * p + 3) (nI dem)
    generalize gst σ 106 (912 + 5 * p + 3) (nI dem) = σ3 at e3 o3
    refine Ret_chk (ckI_nI (by omega) (by decide)) ?_
    rw [e3, upd_n (by omega), p2]
    by_cases c : 1000 * W 12 p ≤ dem
    · exact Ret_iteT (nI_le c (by omega)) (Ret_exi (L131 σ3 _ e3 o3 (by omega)))
    · exact Ret_iteF (nI_ge (by omega) (by omega)) (Ret_exi (L131 σ3 _ e3 o3 (by omega)))
/-- a nozzle's step -/
theorem stepNozzle_ok {T M K : Nat} {W : Sh} {σ : Mem} {i own D f fl hi dr m sp : Nat} (h : RrB T M K W (σ 106)) (hM : M ≤ 12) (hic : i < M) (hW : (1 ≤ W 0 i ∧ W 0 i ≤ 100) ∧ W 1 i ≤ 5000 ∧ W 4 i ≤ 2 ∧ W 5 i ≤ 100 ∧ W 7 i ≤ 1000 ∧ W 11 i ≤ 5000) (hF : W 18 1 ≤ 307200) (hm : m = W 18 1 / 1024) (hsp : W 17 5 = sp) (hsp2 : sp ≤ 5000) (hown : own = W 7 i * W 0 i) (hD : D = W 15 (W 4 i)) (hf : f = W 14 (W 4 i)) (hDl : D ≤ 1200000) (hfl : f ≤ 2000000) (hfl2 : fl = if D ≤ f then own else own * f / D) (hhi : hi = W 1 i * (fl / W 0 i) * (fl / W 0 i) / 1000000) (hdr : dr = hi * m * W 5 i / 100000) :
    Ret (f_X9_stepNozzle σ 105 (nI i)) (fun q => q.1 = (if sp < dr then 1 else 0) ∧ (∀ W' : Sh, W' 8 i = fl → W' 9 i = hi → W' 10 i = dr → W' 11 i = max (W 11 i) hi → (∀ r c, ¬ (c = i ∧ (r = 8 ∨ r = 9 ∨ r = 10 ∨ r = 11)) → W' r c = W r c) → RrB T M K W' (q.2 106)) ∧ Only [106] σ q.2 ∧ ∀ x, 144 ≤ x → q.2 106 x = σ 106 x) := by
  obtain ⟨⟨w0, w0'⟩, w1, w4, w5, w7, w11⟩ := hW
  have R := rr_sets h
  obtain ⟨-, -, -, -, -, r932, -, r934, -⟩ := R
  rw [hsp] at r932
  have ownl : own ≤ 100000 := by rw [hown]; exact own_le w7 w0'
  have flo : fl ≤ own := by
    rw [hfl2]
    split
    · exact Nat.le_refl _
    · rename_i c
      rw [Nat.div_le_iff_le_mul (by omega)]
      have : own * f ≤ own * D := Nat.mul_le_mul (Nat.le_refl _) (by omega)
      omega
  have hv : fl / W 0 i ≤ 1000 := by
    rw [Nat.div_le_iff_le_mul (by omega)]
    have : own ≤ 1000 * W 0 i := by rw [hown]; exact Nat.mul_le_mul w7 (Nat.le_refl _)
    omega
  have hhl : hi ≤ 5000 := by rw [hhi]; exact high_le w1 hv
  have hml : m ≤ 300 := by omega
  have hdl := drift_le hhl hml w5
  have n0 : σ 106 (12 * i + 0) = nI (W 0 i) := h.1 i hic 0 (by decide)
  have n1 : σ 106 (12 * i + 1) = nI (W 1 i) := h.1 i hic 1 (by decide)
  have n4 : σ 106 (12 * i + 4) = nI (W 4 i) := h.1 i hic 4 (by decide)
  have n5 : σ 106 (12 * i + 5) = nI (W 5 i) := h.1 i hic 5 (by decide)
  have n7 : σ 106 (12 * i + 7) = nI (W 7 i) := h.1 i hic 7 (by decide)
  have n11 : σ 106 (12 * i + 11) = nI (W 11 i) := h.1 i hic 11 (by decide)
  have p2 : σ 106 (912 + 5 * W 4 i + 2) = nI f := by rw [hf]; exact h.2.1 (W 4 i) (by omega) 2 (by decide)
  have p3 : σ 106 (912 + 5 * W 4 i + 3) = nI D := by rw [hD]; exact h.2.1 (W 4 i) (by omega) 3 (by decide)
  have L252 : ∀ (σ7 : Mem) (g : Nat), σ7 106 = upd (upd (upd (σ 106) (12 * i + 8) (nI fl)) (12 * i + 9) (nI hi)) (12 * i + 10) (nI dr) → Only [106] σ σ7 → g = max (W 11 i) hi → Ret (f_X9_stepNozzle_L252 σ7 105 (nI (12 * i)) (nI g) (nI (12 * i + 11))) (fun q => q.1 = (if sp < dr then 1 else 0) ∧ (∀ W' : Sh, W' 8 i = fl → W' 9 i = hi → W' 10 i = dr → W' 11 i = max (W 11 i) hi → (∀ r c, ¬ (c = i ∧ (r = 8 ∨ r = 9 ∨ r = 10 ∨ r = 11)) → W' r c = W r c) → RrB T M K W' (q.2 106)) ∧ Only [106] σ q.2 ∧ ∀ x, 144 ≤ x → q.2 106 x = σ 106 x) := by
    intro σ7 g e7 o7 hg
    have core : (∀ W' : Sh, W' 8 i = fl → W' 9 i = hi → W' 10 i = dr → W' 11 i = max (W 11 i) hi → (∀ r c, ¬ (c = i ∧ (r = 8 ∨ r = 9 ∨ r = 10 ∨ r = 11)) → W' r c = W r c) → RrB T M K W' (gst σ7 106 (12 * i + 11) (nI g) 106)) ∧ Only [106] σ (gst σ7 106 (12 * i + 11) (nI g)) ∧ ∀ x, 144 ≤ x → gst σ7 106 (12 * i + 11) (nI g) 106 x = σ 106 x := by
      refine ⟨?_, o7.one (gst_only _ _ _ _), ?_⟩
      · intro W' a8 a9 a10 a11 as
        rw [gst_self, e7]
        have c1 := rr_noz (j := 8) (v := fl) (V' := vset W 8 i fl) h hM hic (by decide) (vset_s _ _ _ _) (fun r c hh => vset_n hh)
        have c2 := rr_noz (j := 9) (v := hi) (V' := vset (vset W 8 i fl) 9 i hi) c1 hM hic (by decide) (vset_s _ _ _ _) (fun r c hh => vset_n hh)
        have c3 := rr_noz (j := 10) (v := dr) (V' := vset (vset (vset W 8 i fl) 9 i hi) 10 i dr) c2 hM hic (by decide) (vset_s _ _ _ _) (fun r c hh => vset_n hh)
        refine rr_noz (j := 11) (v := g) c3 hM hic (by decide) (by rw [a11, hg]) ?_
        intro r c hh
        by_cases q10 : r = 10 ∧ c = i
        · obtain ⟨rfl, rfl⟩ := q10; rw [vset_s, a10]
        · rw [vset_n q10]
          by_cases q9 : r = 9 ∧ c = i
          · obtain ⟨rfl, rfl⟩ := q9; rw [vset_s, a9]
          · rw [vset_n q9]
            by_cases q8 : r = 8 ∧ c = i
            · obtain ⟨rfl, rfl⟩ := q8; rw [vset_s, a8]
            · rw [vset_n q8]
              exact as r c (by omega)
      · intro x hx
        rw [gst_self, e7, upd_n (by omega), upd_n (by omega), upd_n (by omega), upd_n (by omega)]
    have d10 : gst σ7 106 (12 * i + 11) (nI g) 106 (12 * i + 10) = nI dr := by rw [gst_self, e7, upd_n (by omega), upd_s]
    have d932 : gst σ7 106 (12 * i + 11) (nI g) 106 932 = nI sp := by rw [core.2.2 932 (by decide), r932]
    unfold f_X9_stepNozzle_L252
    rw [PM0, AM0, show ix 932 = 932 from rfl, ix_nI (by omega)]
    refine Ret_chk (ckI_nI (by omega) (by decide)) (Ret_nm ?_)
    generalize gst σ7 106 (12 * i + 11) (nI g) = σ8 at core d10 d932
    rw [l_10, nI_add, ix_nI (by omega), d10, d932]
    refine Ret_chk (ckI_nI (by omega) (by decide)) (Ret_chk (by decide) ?_)
    by_cases c : sp < dr
    · exact Ret_iteF (nI_ge c (by omega)) (Ret_some ⟨by rw [if_pos c], core⟩)
    · exact Ret_iteT (nI_le (by omega) (by omega)) (Ret_some ⟨by rw [if_neg c], core⟩)
  have L107 : ∀ y : Int64, y = lN fl → Ret (f_X9_stepNozzle_L107 σ 105 (nI (12 * i)) y (nI (12 * i + 8))) (fun q => q.1 = (if sp < dr then 1 else 0) ∧ (∀ W' : Sh, W' 8 i = fl → W' 9 i = hi → W' 10 i = dr → W' 11 i = max (W 11 i) hi → (∀ r c, ¬ (c = i ∧ (r = 8 ∨ r = 9 ∨ r = 10 ∨ r = 11)) → W' r c = W r c) → RrB T M K W' (q.2 106)) ∧ Only [106] σ q.2 ∧ ∀ x, 144 ≤ x → q.2 106 x = σ 106 x) := by
    intro y hy
    subst hy
    have hp1 : W 1 i * (fl / W 0 i) ≤ 5000 * 1000 := Nat.mul_le_mul w1 hv
    have hp2 : W 1 i * (fl / W 0 i) * (fl / W 0 i) ≤ 5000 * 1000 * 1000 := Nat.mul_le_mul hp1 hv
    unfold f_X9_stepNozzle_L107
    rw [PM0, AM0, show ix 934 = 934 from rfl, lN_32, l_8, l_0, l_1, l_9, l_5, l_10, l_11, nI_add, nI_add, nI_add, nI_add, nI_add, nI_add, nI_add, ix_nI (by omega), ix_nI (by omega), ix_nI (by omega), ix_nI (by omega), ix_nI (by omega), ix_nI (by omega), ix_nI (by omega)]
    refine Ret_chk (ckI_nI (by omega) (by decide)) (Ret_nm ?_)
    have e4 := gst_self σ 106 (12 * i + 8) (nI fl)
    have o4 := gst_only σ 106 (12 * i + 8) (nI fl)
    generalize gst σ 106 (12 * i + 8) (nI fl) = σ4 at e4 o4
    have q8 : σ4 106 (12 * i + 8) = nI fl := by rw [e4, upd_s]
    have q0 : σ4 106 (12 * i + 0) = nI (W 0 i) := by rw [e4, upd_n (by omega)]; exact n0
    have q1 : σ4 106 (12 * i + 1) = nI (W 1 i) := by rw [e4, upd_n (by omega)]; exact n1
    rw [q8, q0, q1, nI_div (by omega) (by omega) (by omega), nI_64 (by omega), nI_64 (by omega), show (1000000 : Int64) = lN 1000000 from rfl]
    refine Ret_chk (ckI_nI (by omega) (by decide)) (Ret_chk (ckI_nI (by omega) (by decide)) (Ret_chk (decide_eq_true (nI_ne0 (by omega) (by omega))) (Ret_nm (Ret_chk (ckI_nI (by omega) (by decide)) (Ret_chk (ckI_nI (by omega) (by decide)) (Ret_nm ?_))))))
    rw [lN_mul, lN_mul, lN_div (by omega) (by decide) (by decide), lN_32, ← hhi]
    have e6 : gst σ4 106 (12 * i + 9) (nI hi) 106 = upd (upd (σ 106) (12 * i + 8) (nI fl)) (12 * i + 9) (nI hi) := by rw [gst_self, e4]
    have o6 := o4.one (gst_only σ4 106 (12 * i + 9) (nI hi))
    generalize gst σ4 106 (12 * i + 9) (nI hi) = σ6 at e6 o6
    have q9 : σ6 106 (12 * i + 9) = nI hi := by rw [e6, upd_s]
    have q5 : σ6 106 (12 * i + 5) = nI (W 5 i) := by rw [e6, upd_n (by omega), upd_n (by omega)]; exact n5
    have q934 : σ6 106 934 = nI (W 18 1) := by rw [e6, upd_n (by omega), upd_n (by omega)]; exact r934
    rw [q9, q5, q934, l_1024, nI_div (by omega) (by decide) (by decide), ← hm, l_100000, nI_mul, nI_mul, nI_div (by omega) (by decide) (by decide), ← hdr]
    refine Ret_chk (ckI_nI (by omega) (by decide)) (Ret_chk (by decide) (Ret_chk (ckI_nI (by omega) (by decide)) (Ret_chk (ckI_nI (by omega) (by decide)) (Ret_nm ?_))))
    have e7 : gst σ6 106 (12 * i + 10) (nI dr) 106 = upd (upd (upd (σ 106) (12 * i + 8) (nI fl)) (12 * i + 9) (nI hi)) (12 * i + 10) (nI dr) := by rw [gst_self, e6]
    have o7 := o6.one (gst_only σ6 106 (12 * i + 10) (nI dr))
    generalize gst σ6 106 (12 * i + 10) (nI dr) = σ7 at e7 o7
    have q9' : σ7 106 (12 * i + 9) = nI hi := by rw [e7, upd_n (by omega), upd_s]
    have q11 : σ7 106 (12 * i + 11) = nI (W 11 i) := by rw [e7, upd_n (by omega), upd_n (by omega), upd_n (by omega)]; exact n11
    rw [q9', q11]
    refine Ret_chk (ckI_nI (by omega) (by decide)) (Ret_chk (ckI_nI (by omega) (by decide)) ?_)
    by_cases c : hi ≤ W 11 i
    · exact Ret_iteT (nI_le c (by omega)) (Ret_chk (ckI_nI (by omega) (by decide)) (L252 σ7 _ e7 o7 (by omega)))
    · exact Ret_iteF (nI_ge (by omega) (by omega)) (Ret_chk (ckI_nI (by omega) (by decide)) (L252 σ7 _ e7 o7 (by omega)))
  unfold f_X9_stepNozzle
  refine Ret_nm ?_
  rw [PM0, AM0, l_12, l_4, l_7, l_0, l_5, l_912, nI_mul, nI_add, nI_add, nI_add, ix_nI (by omega), ix_nI (by omega), ix_nI (by omega), n4, n7, n0, nI_mul, nI_mul, nI_add, nI_64 (by omega), ← hown]
  refine Ret_chk (ckI_nI (by omega) (by decide)) (Ret_nm (Ret_chk (ckI_nI (by omega) (by decide)) (Ret_chk (ckI_nI (by omega) (by decide)) (Ret_nm ?_))))
  rw [l_3, l_2, nI_add, nI_add, ix_nI (by omega), ix_nI (by omega), p2, p3]
  refine Ret_chk (ckI_nI (by omega) (by decide)) (Ret_chk (ckI_nI (by omega) (by decide)) ?_)
  by_cases c : f < D
  · refine Ret_iteT (nI_lt c (by omega)) ?_
    unfold f_X9_stepNozzle_L65
    rw [PM0, AM0, l_3, l_2, l_8, nI_add, nI_add, nI_add, ix_nI (by omega), ix_nI (by omega), p2, p3]
    have hmm : own * f ≤ 100000 * 2000000 := Nat.mul_le_mul ownl hfl
    have hne : ¬ (nI D).toInt64 = 0 := by
      rw [nI_64 (by omega)]
      intro e
      have := congrArg Int64.toInt e
      rw [lN_T (by omega), Int64.toInt_zero] at this
      omega
    refine Ret_iteT rfl (Ret_chk (ckI_nI (by omega) (by decide)) (Ret_chk (ckI_nI (by omega) (by decide)) (Ret_chk (decide_eq_true hne) ?_)))
    refine L107 _ ?_
    rw [nI_64 (by omega), nI_64 (by omega), lN_mul, lN_div (by omega) (by omega) (by omega), hfl2, if_neg (by omega)]
  · refine Ret_iteF (nI_nlt (by omega) (by omega)) ?_
    unfold f_X9_stepNozzle_L65
    refine Ret_iteF (by decide) ?_
    rw [l_8, nI_add]
    exact L107 _ (by rw [hfl2, if_pos (by omega)])
