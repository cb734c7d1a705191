/-! the reference's step of the wind -/
theorem sca_id (V : Sh) : scaV V (V 18 1) (V 18 2) (V 18 3) = V := by
  funext r c
  unfold scaV vrow
  by_cases e : r = 18
  · subst e
    simp only [if_pos]
    split
    · rename_i q; rw [q]
    · split
      · rename_i q; rw [q]
      · split
        · rename_i q; rw [q]
        · rfl
  · rw [if_neg e]
theorem sca_17 (V : Sh) (F st ca : Nat) : scaV V F st ca 17 = V 17 := vrow_n (by decide)
theorem sca_1 (V : Sh) (F st ca : Nat) : scaV V F st ca 18 1 = F := by unfold scaV vrow; simp
theorem sca_2 (V : Sh) (F st ca : Nat) : scaV V F st ca 18 2 = st := by unfold scaV vrow; simp
theorem sca_3 (V : Sh) (F st ca : Nat) : scaV V F st ca 18 3 = ca := by unfold scaV vrow; simp
theorem sca_o (V : Sh) (F st ca F' st' ca' : Nat) (r c : Nat) (h : ¬ (r = 18 ∧ c = 1 ∧ F ≠ F') ∧ ¬ (r = 18 ∧ c = 2 ∧ st ≠ st') ∧ ¬ (r = 18 ∧ c = 3 ∧ ca ≠ ca')) : scaV V F' st' ca' r c = scaV V F st ca r c := by
  unfold scaV vrow
  by_cases e : r = 18
  · subst e
    simp only [if_pos]
    split
    · omega
    · split
      · omega
      · split
        · omega
        · rfl
  · rw [if_neg e, if_neg e]
theorem sca_F {T M K : Nat} {V : Sh} {σ : Mem} {F st ca F' : Nat} (h : RrB T M K (scaV V F st ca) (σ 106)) (hM : M ≤ 12) : RrB T M K (scaV V F' st ca) (gst σ 106 934 (nI F') 106) := by
  rw [gst_self]
  exact rr_sca (j := 1) h hM (by decide) (sca_1 _ _ _ _) (fun r c hrc => sca_o _ _ _ _ _ _ _ r c (by omega))
theorem sca_st {T M K : Nat} {V : Sh} {σ : Mem} {F st ca st' : Nat} (h : RrB T M K (scaV V F st ca) (σ 106)) (hM : M ≤ 12) : RrB T M K (scaV V F st' ca) (gst σ 106 935 (nI st') 106) := by
  rw [gst_self]
  exact rr_sca (j := 2) h hM (by decide) (sca_2 _ _ _ _) (fun r c hrc => sca_o _ _ _ _ _ _ _ r c (by omega))
theorem sca_ca {T M K : Nat} {V : Sh} {σ : Mem} {F st ca ca' : Nat} (h : RrB T M K (scaV V F st ca) (σ 106)) (hM : M ≤ 12) : RrB T M K (scaV V F st ca') (gst σ 106 936 (nI ca') 106) := by
  rw [gst_self]
  exact rr_sca (j := 3) h hM (by decide) (sca_3 _ _ _ _) (fun r c hrc => sca_o _ _ _ _ _ _ _ r c (by omega))
theorem w201_ok {T M K : Nat} {V : Sh} {σ : Mem} {F st ca y : Nat} (h : RrB T M K (scaV V F st ca) (σ 106)) (hM : M ≤ 12) : Ret (f_X9_stepWind_L201 σ 105 (nI y) 935) (fun σ' => RrB T M K (scaV V F y 0) (σ' 106) ∧ Only [106] σ σ') := by
  unfold f_X9_stepWind_L201
  rw [PM0, AM0, show ix 935 = 935 from rfl, show ix 936 = 936 from rfl, l_0]
  exact Ret_chk (by decide) (Ret_nm (Ret_chk (by decide) (Ret_nm (Ret_some ⟨sca_ca (sca_st h hM) hM, (gst_only _ _ _ _).one (gst_only _ _ _ _)⟩))))
theorem w214_ok {T M K : Nat} {V : Sh} {σ : Mem} {F st ca : Nat} {y : Int32} (hy : y = 0 ∨ (y = 1 ∧ 0 < st)) (h : RrB T M K (scaV V F st ca) (σ 106)) (hM : M ≤ 12) (hst : st ≤ 2) (hca : ca ≤ 2000000) (hh : V 17 4 ≤ 600) : Ret (f_X9_stepWind_L214 σ 105 y) (fun σ' => RrB T M K (if y = 0 then scaV V F st 0 else if V 17 4 ≤ ca + 1 then scaV V F (st - 1) 0 else scaV V F st (ca + 1)) (σ' 106) ∧ Only [106] σ σ') := by
  have R := rr_sets h
  rw [sca_17, sca_1, sca_2, sca_3] at R
  obtain ⟨-, -, -, -, r4, -, -, -, r2, r3, -⟩ := R
  unfold f_X9_stepWind_L214
  rw [PM0, AM0, show ix 935 = 935 from rfl, show ix 936 = 936 from rfl, show ix 931 = 931 from rfl]
  by_cases hy0 : y = 0
  · refine Ret_iteT hy0 (Ret_chk (by decide) (Ret_nm (Ret_some ⟨?_, gst_only _ _ _ _⟩)))
    rw [if_pos hy0]
    exact sca_ca h hM
  · have hst0 : 0 < st := by rcases hy with q | q; exact absurd q hy0; exact q.2
    refine Ret_iteF hy0 (Ret_chk (by decide) (Ret_chk (by decide) (Ret_nm ?_)))
    rw [if_neg hy0, r3, nI_1]
    have h2 := sca_ca (ca' := ca + 1) h hM
    have o2 := gst_only σ 106 936 (nI (ca + 1))
    generalize gst σ 106 936 (nI (ca + 1)) = σ2 at h2 o2
    have R := rr_sets h2
    rw [sca_17, sca_1, sca_2, sca_3] at R
    obtain ⟨-, -, -, -, q4, -, -, -, q2, q3, -⟩ := R
    refine Ret_chk (by decide) (Ret_chk (by decide) ?_)
    rw [q3, q4, q2]
    by_cases c : V 17 4 ≤ ca + 1
    · refine Ret_iteF (nI_nlt c (by omega)) (Ret_chk (by decide) (Ret_chk (by decide) (Ret_nm (Ret_chk (by decide) (Ret_nm ?_)))))
      rw [if_pos c, l_1, nI_sub (by omega), l_0]
      exact Ret_some ⟨sca_ca (sca_st h2 hM) hM, (o2.one (gst_only _ _ _ _)).one (gst_only _ _ _ _)⟩
    · refine Ret_iteT (nI_lt (by omega) (by omega)) (Ret_some ?_)
      rw [if_neg c]
      exact ⟨h2, o2⟩
/-- rounded down, out of a quotient and a rest -/
theorem fdiv9 {x : Int32} {f : Nat} (hf : 0 < f) (hf2 : f ≤ 64) (hx : -2 ^ 30 ≤ x.toInt ∧ x.toInt < 2 ^ 30) : (0 ≤ x.toInt → (x / nI f).toInt = x.toInt / (f : Int)) ∧ (x.toInt < 0 → irm x (nI f) = 0 → (x / nI f).toInt = x.toInt / (f : Int)) ∧ (x.toInt < 0 → ¬ irm x (nI f) = 0 → (x / nI f).toInt = x.toInt / (f : Int) + 1) := by
  have hft : (nI f).toInt = (f : Int) := nI_toInt (by omega)
  have hq : (x / nI f).toInt = x.toInt.tdiv (f : Int) := by rw [ti_div (by rw [hft]; omega), hft]
  refine ⟨fun h => by rw [hq, Int.tdiv_eq_ediv_of_nonneg h], ?_⟩
  suffices H : x.toInt < 0 → (irm x (nI f) = 0 → (x / nI f).toInt = x.toInt / (f : Int)) ∧ (¬ irm x (nI f) = 0 → (x / nI f).toInt = x.toInt / (f : Int) + 1) from ⟨fun h => (H h).1, fun h => (H h).2⟩
  intro hneg
  generalize hX : -x.toInt = X
  have hXp : 0 ≤ X := by omega
  have e1 : x.toInt.tdiv (f : Int) = -(X / (f : Int)) := by
    rw [show x.toInt = -X by omega, Int.neg_tdiv, Int.tdiv_eq_ediv_of_nonneg hXp]
  have hy : 0 < (f : Int) := by omega
  have hdm := Int.emod_add_mul_ediv X (f : Int)
  have hm1 := Int.emod_nonneg X (b := (f : Int)) (by omega)
  have hm2 := Int.emod_lt_of_pos X hy
  have hle : X / (f : Int) ≤ X := Int.ediv_le_self _ hXp
  have hge : 0 ≤ X / (f : Int) := Int.ediv_nonneg hXp (by omega)
  have hf0 : 0 ≤ X / (f : Int) * (f : Int) := Int.mul_nonneg hge (by omega)
  have hmulc : (f : Int) * (X / (f : Int)) = X / (f : Int) * (f : Int) := Int.mul_comm _ _
  have hprod : (x / nI f * nI f).toInt = -(X / (f : Int) * (f : Int)) := by
    rw [ti_mul, hq, e1, hft, Int.neg_mul]
    · rw [hq, e1, hft, Int.neg_mul]; omega
    · rw [hq, e1, hft, Int.neg_mul]; omega
  have hirm : (irm x (nI f)).toInt = -(X % (f : Int)) := by
    unfold irm
    rw [ti_sub, hprod]
    · omega
    · rw [hprod]; omega
    · rw [hprod]; omega
  have h0 : (irm x (nI f) = 0) ↔ X % (f : Int) = 0 := by
    rw [eq_i, hirm, Int32.toInt_zero]
    omega
  rw [h0, hq, e1, show x.toInt = -X by omega]
  constructor
  · intro hz
    have e2 : -X = (f : Int) * (-(X / (f : Int))) := by rw [Int.mul_neg]; omega
    rw [e2, Int.mul_ediv_cancel_left _ (by omega)]
  · intro hz
    have : -X / (f : Int) = -(X / (f : Int)) - 1 := by
      rw [Int.ediv_eq_iff_of_pos hy, Int.sub_mul, Int.neg_mul, Int.one_mul]
      constructor <;> omega
    omega
theorem stepWind_ok {T M K : Nat} {V : Sh} {σ : Mem} (h : RrB T M K V (σ 106)) (hM : M ≤ 12) (hS : VokS V) : Ret (f_X9_stepWind σ 105) (fun σ' => RrB T M K (scaV V (filtV V) (windV V).1 (windV V).2) (σ' 106) ∧ Only [106] σ σ') := by
  obtain ⟨fe, fl⟩ := filt_eq hS
  obtain ⟨⟨f1, f2⟩, b1, b2, b3, b4, b5, w0, w1, w2, w3, w4, -⟩ := hS
  have R := rr_sets h
  obtain ⟨r170, r171, r172, r173, r174, r175, r0, r1, r2, r3, -⟩ := R
  rw [← sca_id V] at h
  have hml : measV V ≤ 300 := by unfold measV; omega
  -- the step behind the new F
  have low : ∀ σ1 : Mem, RrB T M K (scaV V (filtV V) (V 18 2) (V 18 3)) (σ1 106) → Only [106] σ σ1 → ∀ y : Int32, (y = 0 ∨ (y = 1 ∧ 0 < V 18 2)) → (y = 1 ↔ (0 < V 18 2 ∧ measV V + 10 < (if V 18 2 = 2 then V 17 2 else V 17 1))) → Ret (f_X9_stepWind_L140 σ1 105 (nI (measV V)) y) (fun σ' => RrB T M K (scaV V (filtV V) (windV V).1 (windV V).2) (σ' 106) ∧ Only [106] σ σ') := by
    intro σ1 h1 o1 y hy hyc
    have Q := rr_sets h1
    rw [sca_17, sca_1, sca_2, sca_3] at Q
    obtain ⟨q0, q1, q2, q3, q4, q5, -, q7, q8, q9, -⟩ := Q
    have L177 : ∀ st, (if V 17 2 ≤ measV V then 2 else 1) = st → windV V = (st, 0) → Ret (f_X9_stepWind_L177 σ1 105 (nI (measV V))) (fun σ' => RrB T M K (scaV V (filtV V) (windV V).1 (windV V).2) (σ' 106) ∧ Only [106] σ σ') := by
      intro st hst hw
      unfold f_X9_stepWind_L177
      rw [PM0, AM0, show ix 929 = 929 from rfl, q2, hw]
      refine Ret_chk (by decide) ?_
      by_cases c : V 17 2 ≤ measV V
      · rw [if_pos c] at hst
        subst hst
        refine Ret_iteF (nI_nlt c (by omega)) ?_
        exact Ret_mono (w201_ok (y := 2) h1 hM) (fun σ' hh => ⟨hh.1, o1.one hh.2⟩)
      · rw [if_neg c] at hst
        subst hst
        refine Ret_iteT (nI_lt (by omega) (by omega)) ?_
        exact Ret_mono (w201_ok (y := 1) h1 hM) (fun σ' hh => ⟨hh.1, o1.one hh.2⟩)
    have L214 : ¬ V 17 2 ≤ measV V → ¬ (V 17 1 ≤ measV V ∧ V 18 2 = 0) → Ret (f_X9_stepWind_L214 σ1 105 y) (fun σ' => RrB T M K (scaV V (filtV V) (windV V).1 (windV V).2) (σ' 106) ∧ Only [106] σ σ') := by
      intro n1 n2
      refine Ret_mono (w214_ok hy h1 hM w2 (by omega) b4) ?_
      rintro σ' ⟨g1, g2⟩
      refine ⟨?_, o1.one g2⟩
      have e : (if y = 0 then scaV V (filtV V) (V 18 2) 0 else if V 17 4 ≤ V 18 3 + 1 then scaV V (filtV V) (V 18 2 - 1) 0 else scaV V (filtV V) (V 18 2) (V 18 3 + 1)) = scaV V (filtV V) (windV V).1 (windV V).2 := by
        unfold windV
        rw [if_neg n1, if_neg n2]
        by_cases hc : 0 < V 18 2 ∧ measV V + 10 < (if V 18 2 = 2 then V 17 2 else V 17 1)
        · rw [if_pos hc]
          have y1 := hyc.mpr hc
          rw [if_neg (by rw [y1]; decide)]
          split <;> rfl
        · rw [if_neg hc]
          have y0 : y = 0 := by
            rcases hy with q | q
            · exact q
            · exact absurd (hyc.mp q.1) hc
          rw [if_pos y0]
      rw [← e]
      exact g1
    unfold f_X9_stepWind_L140
    rw [PM0, AM0, show ix 929 = 929 from rfl, show ix 928 = 928 from rfl, show ix 935 = 935 from rfl, q1, q2, q8]
    refine Ret_chk (by decide) ?_
    by_cases c2 : V 17 2 ≤ measV V
    · exact Ret_iteT (nI_le c2 (by omega)) (L177 2 (by rw [if_pos c2]) (by unfold windV; rw [if_pos c2]))
    · refine Ret_iteF (nI_ge (by omega) (by omega)) (Ret_chk (by decide) ?_)
      by_cases c1 : V 17 1 ≤ measV V
      · refine Ret_iteF (nI_nlt c1 (by omega)) (Ret_chk (by decide) ?_)
        by_cases s0 : V 18 2 = 0
        · exact Ret_iteT (by rw [s0]; rfl) (L177 1 (by rw [if_neg c2]) (by unfold windV; rw [if_neg c2, if_pos ⟨c1, s0⟩]))
        · exact Ret_iteF (fun e => s0 (nI_inj (by omega) (by decide) (e.trans l_0))) (L214 c2 (fun q => s0 q.2))
      · exact Ret_iteT (nI_lt (by omega) (by omega)) (L214 c2 (fun q => c1 q.1))
  have step54 : ∀ y0 y1 : Int32, (y1 - y0).toInt = ((1024 * V 18 0 : Nat) - (V 18 1 : Int)) / (V 17 0 : Int) → Ret (f_X9_stepWind_L54 σ 105 y0 y1) (fun σ' => RrB T M K (scaV V (filtV V) (windV V).1 (windV V).2) (σ' 106) ∧ Only [106] σ σ') := by
    intro y0 y1 hd
    unfold f_X9_stepWind_L54
    rw [PM0, AM0, show ix 934 = 934 from rfl, show ix 935 = 935 from rfl, show ix 929 = 929 from rfl, r1]
    refine Ret_nm (Ret_chk (by decide) (Ret_chk (by decide) (Ret_nm ?_)))
    have hF : nI (V 18 1) + (y1 - y0) = nI (filtV V) := by
      apply eq_nI (by omega)
      rw [ti_add (by rw [nI_toInt (by omega)]; omega) (by rw [nI_toInt (by omega)]; omega), nI_toInt (by omega), fe, hd]
    rw [hF]
    have h1 := sca_F (F' := filtV V) h hM
    have o1 := gst_only σ 106 934 (nI (filtV V))
    generalize gst σ 106 934 (nI (filtV V)) = σ1 at h1 o1
    have Q := rr_sets h1
    rw [sca_17, sca_1, sca_2, sca_3] at Q
    obtain ⟨q0, q1, q2, q3, q4, q5, -, q7, q8, q9, -⟩ := Q
    refine Ret_chk (by decide) (Ret_nm (Ret_chk (by decide) ?_))
    rw [q7, q8, q2, l_1024, nI_div (by omega) (by decide) (by decide)]
    show Ret (if nI (V 18 2) = 2 then chk _ (if nI (measV V) < nI (V 17 2) - 10 then f_X9_stepWind_L135 σ1 105 (nI (measV V)) else f_X9_stepWind_L108 σ1 105 (nI (measV V))) else f_X9_stepWind_L108 σ1 105 (nI (measV V))) _
    have calm : 0 < V 18 2 → measV V + 10 < (if V 18 2 = 2 then V 17 2 else V 17 1) → Ret (f_X9_stepWind_L135 σ1 105 (nI (measV V))) (fun σ' => RrB T M K (scaV V (filtV V) (windV V).1 (windV V).2) (σ' 106) ∧ Only [106] σ σ') := by
      intro g1 g2
      unfold f_X9_stepWind_L135
      exact low σ1 h1 o1 1 (Or.inr ⟨rfl, g1⟩) ⟨fun _ => ⟨g1, g2⟩, fun _ => rfl⟩
    have nocalm : ¬ (0 < V 18 2 ∧ measV V + 10 < (if V 18 2 = 2 then V 17 2 else V 17 1)) → Ret (f_X9_stepWind_L139 σ1 105 (nI (measV V))) (fun σ' => RrB T M K (scaV V (filtV V) (windV V).1 (windV V).2) (σ' 106) ∧ Only [106] σ σ') := by
      intro g
      unfold f_X9_stepWind_L139
      exact low σ1 h1 o1 0 (Or.inl rfl) ⟨fun e => absurd e (by decide), fun e => absurd e g⟩
    have hs1 := pk_sub_toInt (a := V 17 1) (b := 10) (by omega) (by decide)
    have hs2 := pk_sub_toInt (a := V 17 2) (b := 10) (by omega) (by decide)
    have L108 : ¬ (V 18 2 = 2 ∧ measV V + 10 < V 17 2) → Ret (f_X9_stepWind_L108 σ1 105 (nI (measV V))) (fun σ' => RrB T M K (scaV V (filtV V) (windV V).1 (windV V).2) (σ' 106) ∧ Only [106] σ σ') := by
      intro g
      unfold f_X9_stepWind_L108
      rw [PM0, AM0, show ix 928 = 928 from rfl, show ix 935 = 935 from rfl, q1, q8, l_1]
      refine Ret_chk (by decide) ?_
      by_cases s1 : V 18 2 = 1
      · refine Ret_iteT (by rw [s1]) (Ret_chk (by decide) ?_)
        by_cases c : measV V + 10 < V 17 1
        · exact Ret_iteF (by rw [l_10, le_i, hs1, nI_toInt (by omega)]; omega) (calm (by omega) (by rw [if_neg (by omega)]; exact c))
        · exact Ret_iteT (by rw [l_10, le_i, hs1, nI_toInt (by omega)]; omega) (nocalm (by rw [if_neg (by omega)]; omega))
      · refine Ret_iteF (fun e => s1 (nI_inj (by omega) (by decide) e)) (nocalm ?_)
        by_cases s2 : V 18 2 = 2
        · rw [if_pos s2]; omega
        · rw [if_neg s2]; omega
    by_cases s2 : V 18 2 = 2
    · refine Ret_iteT (by rw [s2]; rfl) (Ret_chk (by decide) ?_)
      by_cases c : measV V + 10 < V 17 2
      · exact Ret_iteT (by rw [l_10, lt_i, hs2, nI_toInt (by omega)]; omega) (calm (by omega) (by rw [if_pos s2]; exact c))
      · exact Ret_iteF (by rw [l_10, lt_i, hs2, nI_toInt (by omega)]; omega) (L108 (by omega))
    · exact Ret_iteF (fun e => s2 (nI_inj (by omega) (by decide) (e.trans l_2))) (L108 (by omega))
  unfold f_X9_stepWind
  rw [PM0, AM0, show ix 933 = 933 from rfl, show ix 934 = 934 from rfl, show ix 927 = 927 from rfl, r0, r1, r170, l_1024, nI_mul]
  have hd := pk_sub_toInt (a := 1024 * V 18 0) (b := V 18 1) (by omega) (by omega)
  refine Ret_chk (by decide) (Ret_chk (by decide) (Ret_nm (Ret_chk (by decide) (Ret_chk (decide_eq_true (nI_ne0 (by omega) (by omega))) ?_))))
  generalize nI (1024 * V 18 0) - nI (V 18 1) = d at hd
  obtain ⟨D1, D2, D3⟩ := fdiv9 (x := d) (f := V 17 0) (by omega) f2 (by rw [hd]; omega)
  rw [← hd] at step54
  have zero : ∀ y : Int32, (y - 0).toInt = y.toInt := fun y => by rw [ti_sub] <;> rw [Int32.toInt_zero] <;> have := y.le_toInt <;> have := y.toInt_lt <;> omega
  by_cases c : 0 ≤ d.toInt
  · refine Ret_iteT (by rw [le_i, Int32.toInt_zero]; exact c) ?_
    unfold f_X9_stepWind_L53
    exact step54 _ _ (by rw [zero]; exact D1 c)
  · refine Ret_iteF (by rw [le_i, Int32.toInt_zero]; exact c) (Ret_chk (by decide) (Ret_chk (decide_eq_true (nI_ne0 (by omega) (by omega))) ?_))
    by_cases z : irm d (nI (V 17 0)) = 0
    · refine Ret_iteT z ?_
      unfold f_X9_stepWind_L53
      exact step54 _ _ (by rw [zero]; exact D2 (by omega) z)
    · refine Ret_iteF z ?_
      have hv := D3 (by omega) z
      refine step54 _ _ ?_
      rw [ti_sub, hv, show (1 : Int32).toInt = 1 by decide]
      · omega
      · rw [hv, show (1 : Int32).toInt = 1 by decide]; rw [hd]; omega
      · rw [hv, show (1 : Int32).toInt = 1 by decide]; rw [hd]; omega
