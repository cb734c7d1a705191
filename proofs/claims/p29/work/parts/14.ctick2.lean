/-! cues, past commands, wind -/
theorem sorted_le {V : Sh} (hC : VokC V) : ∀ (d i : Nat), i + d < V 18 7 → V 19 i ≤ V 19 (i + d)
  | 0, i, _ => Nat.le_refl _
  | d + 1, i, h => Nat.le_trans (sorted_le hC d i (by omega)) (hC.2 (i + d) (by omega))
theorem carry_stop {V : Sh} (hC : VokC V) {i : Nat} (h : V 18 4 < V 19 i) (hi : i < V 18 7) : ∀ d, i + d ≤ V 18 7 → carryV V (i + d) = carryV V i
  | 0, _ => rfl
  | d + 1, hd => by
    have h1 := carry_stop hC h hi d (by omega)
    have h2 := sorted_le hC d i (by omega)
    show (if V 19 (i + d) = V 18 4 then _ else carryV V (i + d)) = _
    rw [if_neg (by omega), h1]
theorem carryOut_ok {b : Nat} (hb : SB b) {V : Sh} {σ : Mem} {n : Nat} (hn : 60 < n) (hC : VokC V) (hcc : V 18 7 ≤ 60) (hcnt : V 18 5 ≤ 12) (htm : V 18 4 ≤ 2000000) (h3 : σ (b + 20) 3 = nI (V 18 7)) (h8 : σ (b + 3) 8 = nI (V 18 5)) (hR : RcC b V σ) (hc : ∀ i, i < V 18 5 → σ (b + 6) i = nI (V 6 i)) :
    Ret (f_X0_carryOut n σ (b + 20) (b + 3) (nI (V 18 4))) (fun σ' => Only [b + 6] σ σ' ∧ ∀ i, i < V 18 5 → σ' (b + 6) i = nI (cmdV V i)) := by
  unfold f_X0_carryOut f_X0_carryOut_L2
  refine Ret_for (V 18 7) (fun i σ' => Only [b + 6] σ σ' ∧ ∀ j, j < V 18 5 → σ' (b + 6) j = nI (carryV V i j)) ?_ ?_ (i := 0) (Nat.zero_le _) (by omega) ⟨fun _ _ => rfl, hc⟩
  · rintro i σ' hi ⟨ho, hd⟩
    show Ret (f_X0_carryOut_B2 n σ' (b + 20) (b + 3) (nI (V 18 4)) (nI i)) _
    obtain ⟨c1, c2, c3⟩ := hC.1 i hi
    obtain ⟨r1, r2, r3⟩ := hR i hi
    have e20 : σ' (b + 20) = σ (b + 20) := ho _ (by simp)
    have e21 : σ' (b + 21) = σ (b + 21) := ho _ (by simp)
    have e22 : σ' (b + 22) = σ (b + 22) := ho _ (by simp)
    have e23 : σ' (b + 23) = σ (b + 23) := ho _ (by simp)
    have ck : ckI (nI i) 60 = true := ckI_nI (by omega) (by decide)
    unfold f_X0_carryOut_B2
    rw [P20_0 hb, A21 hb, P20_1 hb, A22 hb, P20_2 hb, A23 hb, ix_nI (by omega), e20, e21, e22, e23, r1, r2, r3, h3]
    refine Ret_iteF (nI_ge hi (by omega)) (Ret_chk ck ?_)
    by_cases q : V 18 4 < V 19 i
    · refine Ret_iteT (nI_lt q (by omega)) (Ret_some ⟨ho, ?_⟩)
      have := carry_stop hC q hi (V 18 7 - i) (by omega)
      rw [show i + (V 18 7 - i) = V 18 7 by omega] at this
      unfold cmdV
      rw [this]
      exact hd
    · refine Ret_iteF (nI_nlt (by omega) (by omega)) (Ret_chk ck ?_)
      by_cases q2 : V 19 i = V 18 4
      · refine Ret_iteT (by rw [q2]) (Ret_chk ck (Ret_chk ck ?_))
        refine Ret_bnd (obey_ok hb (by omega) hcnt (by rw [ho _ (by simp), h8]) c2 hd) ?_
        rintro σ2 ⟨o2, d2⟩
        refine Ret_nm ?_
        rw [nI_1]
        refine Ret_some ⟨_, rfl, ?_, ?_⟩
        · intro a ha
          rw [o2 a ha, ho a ha]
        · intro j hj
          rw [d2 j hj]
          show nI _ = nI ((if V 19 i = V 18 4 then obeyV (carryV V i) (V 20 i) (V 21 i) else carryV V i) j)
          rw [if_pos q2]
      · refine Ret_iteF (fun e => q2 (nI_inj (by omega) (by omega) e)) (Ret_nm ?_)
        rw [nI_1]
        refine Ret_some ⟨_, rfl, ho, ?_⟩
        intro j hj
        show _ = nI ((if V 19 i = V 18 4 then obeyV (carryV V i) (V 20 i) (V 21 i) else carryV V i) j)
        rw [if_neg q2]
        exact hd j hj
  · rintro σ' ⟨ho, hd⟩
    show Ret (f_X0_carryOut_B2 n σ' (b + 20) (b + 3) (nI (V 18 4)) (nI (V 18 7))) _
    unfold f_X0_carryOut_B2
    refine Ret_iteT (by rw [ho _ (by simp), h3]; exact nI_le (Nat.le_refl _) (by omega)) ?_
    exact Ret_some ⟨ho, hd⟩
theorem ckC_nI {sp dp m na nb : Nat} (h1 : sp + m ≤ na) (h2 : dp + m ≤ nb) (ha : na < 2 ^ 31) (hbb : nb < 2 ^ 31) : ckC (nI sp) (nI dp) (nI m) na nb = true := by
  unfold ckC
  rw [nI_toInt (by omega), nI_toInt (by omega), nI_toInt (by omega)]
  exact decide_eq_true ⟨by omega, by omega, by omega, by omega, by omega⟩
theorem keep_ok {b : Nat} (hb : SB b) {σ : Mem} {t : Nat} (ht : t ≤ 2000000) :
    Ret (f_X1_keepCommands σ (b + 3) (nI t)) (fun σ' => Only [b + 12] σ σ' ∧ (∀ i, i < 12 → σ' (b + 12) (12 * (t % 51) + i) = σ (b + 6) i) ∧ ∀ r i, r ≠ t % 51 → i < 12 → σ' (b + 12) (12 * r + i) = σ (b + 12) (12 * r + i)) := by
  have hm : t % 51 < 51 := Nat.mod_lt _ (by decide)
  unfold f_X1_keepCommands
  refine Ret_bndE (rowOf_ok (by omega)) ?_
  rw [P3_1 hb, P3_7 hb, A6 hb, A12 hb, show (0 : Int32) = nI 0 from rfl, show (12 : Int32) = nI 12 from rfl]
  refine Ret_chk (ckC_nI (by omega) (by omega) (by decide) (by decide)) (Ret_nm (Ret_some ⟨?_, ?_, ?_⟩))
  · intro a ha
    rw [gput_n (by intro e; subst e; simp at ha)]
  · intro i hi
    rw [gput_s, ix_nI (by decide), ix_nI (by omega), ix_nI (by decide)]
    unfold va_cpy
    rw [if_pos (by omega)]
    congr 1
    omega
  · intro r i hr hi
    rw [gput_s, ix_nI (by decide), ix_nI (by omega), ix_nI (by decide)]
    unfold va_cpy
    rw [if_neg (by omega)]
theorem filt_eq {V : Sh} (hS : VokS V) : (filtV V : Int) = (V 18 1 : Int) + ((1024 * V 18 0 : Nat) - (V 18 1 : Int)) / (V 17 0 : Int) ∧ filtV V ≤ 307200 := by
  obtain ⟨⟨f1, f2⟩, -, -, -, -, -, w1, w2, -⟩ := hS
  have hw : (1024 * V 18 0 : Nat) ≤ 307200 := by omega
  generalize hW : (1024 * V 18 0 : Nat) = Wn at hw
  have key : 0 ≤ (V 18 1 : Int) + ((Wn : Nat) - (V 18 1 : Int)) / (V 17 0 : Int) ∧ (V 18 1 : Int) + ((Wn : Nat) - (V 18 1 : Int)) / (V 17 0 : Int) ≤ 307200 := by
    by_cases h : V 18 1 ≤ Wn
    · have h1 : 0 ≤ ((Wn : Nat) - (V 18 1 : Int)) / (V 17 0 : Int) := Int.ediv_nonneg (by omega) (by omega)
      have h2 : ((Wn : Nat) - (V 18 1 : Int)) / (V 17 0 : Int) ≤ (Wn : Nat) - (V 18 1 : Int) := Int.ediv_le_self _ (by omega)
      omega
    · have h1 : ((Wn : Nat) - (V 18 1 : Int)) / (V 17 0 : Int) < 0 := Int.ediv_neg_of_neg_of_pos (by omega) (by omega)
      have h2 : (Wn : Nat) - (V 18 1 : Int) ≤ ((Wn : Nat) - (V 18 1 : Int)) / (V 17 0 : Int) := by
        rw [Int.le_ediv_iff_mul_le (by omega)]
        have : ((Wn : Nat) - (V 18 1 : Int)) * (V 17 0 : Int) ≤ ((Wn : Nat) - (V 18 1 : Int)) * 1 := Int.mul_le_mul_of_nonpos_left (by omega) (by omega)
        omega
      omega
  unfold filtV
  rw [hW]
  omega
theorem windV_le {V : Sh} (hS : VokS V) : (windV V).1 ≤ 2 ∧ (windV V).2 ≤ V 18 4 + 1 := by
  obtain ⟨-, -, -, -, -, -, -, -, s1, s2, -⟩ := hS
  unfold windV
  repeat' split
  all_goals (constructor <;> dsimp only <;> omega)
/-- what the class's three ends of blow leave: stage and calm count -/
theorem calm0_ok {σ : Mem} {k x : Nat} {st : Nat} (h2 : σ k 2 = nI st) : Ret (f_X7_blow_L130 σ k x) (fun σ' => Only [k] σ σ' ∧ (∀ j, j ≠ 2 → j ≠ 3 → σ' k j = σ k j) ∧ σ' k 2 = nI st ∧ σ' k 3 = nI 0) := by
  unfold f_X7_blow_L130
  refine Ret_nm (Ret_some ⟨?_, ?_, ?_, ?_⟩)
  · intro a ha; exact gst_row (by intro e; subst e; simp at ha)
  · intro j _ h3; rw [gst_at, if_neg (by intro q; exact h3 q.2)]
  · rw [gst_at, if_neg (by intro q; exact absurd q.2 (by decide))]; exact h2
  · rw [gst_at, if_pos ⟨rfl, rfl⟩]; rfl
theorem enter_ok {σ : Mem} {k st : Nat} {x : Int32} (hx : x = nI st) : Ret (f_X7_enter σ k x) (fun σ' => Only [k] σ σ' ∧ (∀ j, j ≠ 2 → j ≠ 3 → σ' k j = σ k j) ∧ σ' k 2 = nI st ∧ σ' k 3 = nI 0) := by
  subst hx
  unfold f_X7_enter
  refine Ret_nm (Ret_nm (Ret_some ⟨?_, ?_, ?_, ?_⟩))
  · intro a ha
    have : a ≠ k := by intro e; subst e; simp at ha
    rw [gst_row this, gst_row this]
  · intro j h2 h3; rw [gst_at, if_neg (by intro q; exact h3 q.2), gst_at, if_neg (by intro q; exact h2 q.2)]
  · rw [gst_at, if_neg (by intro q; exact absurd q.2 (by decide)), gst_at, if_pos ⟨rfl, rfl⟩]
  · rw [gst_at, if_pos ⟨rfl, rfl⟩]; rfl
theorem calmDown_ok {σ : Mem} {k st ca hold : Nat} (h2 : σ k 2 = nI st) (h3 : σ k 3 = nI ca) (hst : 0 < st ∧ st ≤ 2) (hca : ca ≤ 2000000) (hh : hold ≤ 600) : Ret (f_X7_calmDown σ k (nI hold)) (fun σ' => Only [k] σ σ' ∧ (∀ j, j ≠ 2 → j ≠ 3 → σ' k j = σ k j) ∧ σ' k 2 = nI (if hold ≤ ca + 1 then st - 1 else st) ∧ σ' k 3 = nI (if hold ≤ ca + 1 then 0 else ca + 1)) := by
  unfold f_X7_calmDown
  refine Ret_nm ?_
  have e3 : gst σ k 3 (σ k 3 + 1) k 3 = nI (ca + 1) := by rw [gst_at, if_pos ⟨rfl, rfl⟩, h3, nI_1]
  have e2 : gst σ k 3 (σ k 3 + 1) k 2 = nI st := by rw [gst_at, if_neg (by intro q; exact absurd q.2 (by decide)), h2]
  have eo : Only [k] σ (gst σ k 3 (σ k 3 + 1)) := fun a ha => gst_row (by intro e; subst e; simp at ha)
  have ej : ∀ j, j ≠ 2 → j ≠ 3 → gst σ k 3 (σ k 3 + 1) k j = σ k j := fun j _ q => by rw [gst_at, if_neg (by intro z; exact q z.2)]
  generalize gst σ k 3 (σ k 3 + 1) = σ1 at e3 e2 eo ej
  by_cases h : hold ≤ ca + 1
  · refine Ret_iteF (by rw [e3]; exact nI_nlt h (by omega)) ?_
    refine Ret_bnd (enter_ok (st := st - 1) (by rw [e2, show (1 : Int32) = nI 1 from rfl, nI_sub (by omega)])) ?_
    rintro σ2 ⟨o2, j2, a2, a3⟩
    refine Ret_some ⟨fun a ha => (o2 a ha).trans (eo a ha), fun j q1 q2 => (j2 j q1 q2).trans (ej j q1 q2), ?_, ?_⟩
    · rw [if_pos h]; exact a2
    · rw [if_pos h]; exact a3
  · refine Ret_iteT (by rw [e3]; exact nI_lt (by omega) (by omega)) ?_
    refine Ret_some ⟨eo, ej, ?_, ?_⟩
    · rw [if_neg h]; exact e2
    · rw [if_neg h]; exact e3
theorem blow_ok {b : Nat} (hb : SB b) {V : Sh} {σ : Mem} (hS : VokS V) (hR : RcS b V σ) :
    Ret (f_X7_blow σ (b + 19) (b + 1)) (fun σ' => Only [b + 19] σ σ' ∧ σ' (b + 19) 0 = nI (V 18 0) ∧ σ' (b + 19) 1 = nI (filtV V) ∧ σ' (b + 19) 2 = nI (windV V).1 ∧ σ' (b + 19) 3 = nI (windV V).2) := by
  obtain ⟨fe, fl⟩ := filt_eq hS
  obtain ⟨⟨f1, f2⟩, b1, b2, b3, b4, b5, w0, w1, w2, w3, w4, -⟩ := hS
  obtain ⟨r17, r0, r1, r2, r3, -⟩ := hR
  unfold f_X7_blow
  rw [show (0 : Int32) = nI 0 from rfl, show (1024 : Int32) = nI 1024 from rfl]
  refine Ret_bndE (val_show hb (j := 0) (by decide)) ?_
  rw [r17 0 (by decide), r0, r1, nI_mul]
  have hd := pk_sub_toInt (a := 1024 * V 18 0) (b := V 18 1) (by omega) (by omega)
  obtain ⟨q, q1, q2⟩ := quot_i (x := (nI (1024 * V 18 0) - nI (V 18 1)).toInt64) (y := (nI (V 17 0)).toInt64) (by rw [Int32.toInt_toInt64, nI_toInt (by omega)]; omega) (by rw [Int32.toInt_toInt64, hd]; omega)
  refine Ret_bndE q1 ?_
  rw [Int32.toInt_toInt64, Int32.toInt_toInt64, hd, nI_toInt (by omega)] at q2
  have hF : nI (V 18 1) + q.toInt32 = nI (filtV V) := by
    have hq : q.toInt32.toInt = q.toInt := tl_i (by omega) (by omega)
    apply eq_nI (by omega)
    rw [ti_add (by rw [nI_toInt (by omega), hq]; omega) (by rw [nI_toInt (by omega), hq]; omega), nI_toInt (by omega), hq, fe, q2]
  rw [hF]
  refine Ret_nm ?_
  have g0 : gst σ (b + 19) 1 (nI (filtV V)) (b + 19) 0 = nI (V 18 0) := by rw [gst_at, if_neg (by intro q; exact absurd q.2 (by decide)), r0]
  have g1 : gst σ (b + 19) 1 (nI (filtV V)) (b + 19) 1 = nI (filtV V) := by rw [gst_at, if_pos ⟨rfl, rfl⟩]
  have g2 : gst σ (b + 19) 1 (nI (filtV V)) (b + 19) 2 = nI (V 18 2) := by rw [gst_at, if_neg (by intro q; exact absurd q.2 (by decide)), r2]
  have g3 : gst σ (b + 19) 1 (nI (filtV V)) (b + 19) 3 = nI (V 18 3) := by rw [gst_at, if_neg (by intro q; exact absurd q.2 (by decide)), r3]
  have go : Only [b + 19] σ (gst σ (b + 19) 1 (nI (filtV V))) := fun a ha => gst_row (by intro e; subst e; simp at ha)
  have g17 : ∀ j, j < 6 → gst σ (b + 19) 1 (nI (filtV V)) (b + 2) j = nI (V 17 j) := fun j hj => by rw [gst_row (by omega)]; exact r17 j hj
  generalize gst σ (b + 19) 1 (nI (filtV V)) = σ1 at g0 g1 g2 g3 go g17
  rw [show (1 : Int32) = nI 1 from rfl, show (2 : Int32) = nI 2 from rfl]
  refine Ret_bndE (val_show hb (j := 1) (by decide)) (Ret_bndE (val_show hb (j := 2) (by decide)) ?_)
  rw [g17 1 (by decide), g17 2 (by decide)]
  have hm : f_X7_measured σ1 (b + 19) = some (nI (measV V)) := by
    unfold f_X7_measured
    rw [g1, show (1024 : Int32) = nI 1024 from rfl, nI_div (by omega) (by decide) (by decide)]
    rfl
  have hml : measV V ≤ 300 := by unfold measV; omega
  refine Ret_bndE hm ?_
  -- the end: what one of the roads leaves is what is wanted
  have fin : ∀ {o : Option Mem} {st ca : Nat}, (windV V) = (st, ca) → Ret o (fun σ' => Only [b + 19] σ1 σ' ∧ (∀ j, j ≠ 2 → j ≠ 3 → σ' (b + 19) j = σ1 (b + 19) j) ∧ σ' (b + 19) 2 = nI st ∧ σ' (b + 19) 3 = nI ca) → Ret o (fun σ' => Only [b + 19] σ σ' ∧ σ' (b + 19) 0 = nI (V 18 0) ∧ σ' (b + 19) 1 = nI (filtV V) ∧ σ' (b + 19) 2 = nI (windV V).1 ∧ σ' (b + 19) 3 = nI (windV V).2) := by
    intro o st ca hw h
    refine Ret_mono h ?_
    rintro σ' ⟨a1, a2, a3, a4⟩
    rw [hw]
    exact ⟨fun a ha => (a1 a ha).trans (go a ha), by rw [a2 0 (by decide) (by decide), g0], by rw [a2 1 (by decide) (by decide), g1], a3, a4⟩
  have tail : ∀ {o : Option Mem} {P : Mem → Prop}, Ret o P → Ret (bnd o fun σ' => some σ') P := fun h => Ret_bnd h (fun a ha => Ret_some ha)
  have L87 : ¬ V 17 2 ≤ measV V → ¬ (V 17 1 ≤ measV V ∧ V 18 2 = 0) → Ret (f_X7_blow_L87 σ1 (b + 19) (b + 1) (nI (V 17 1)) (nI (V 17 2))) (fun σ' => Only [b + 19] σ σ' ∧ σ' (b + 19) 0 = nI (V 18 0) ∧ σ' (b + 19) 1 = nI (filtV V) ∧ σ' (b + 19) 2 = nI (windV V).1 ∧ σ' (b + 19) 3 = nI (windV V).2) := by
    intro n1 n2
    unfold f_X7_blow_L87
    rw [g2]
    by_cases s0 : V 18 2 = 0
    · refine Ret_iteT (by rw [s0]; exact nI_le (Nat.le_refl 0) (by decide)) ?_
      exact fin (st := V 18 2) (ca := 0) (by unfold windV; rw [if_neg n1, if_neg n2, if_neg (by omega)]) (calm0_ok g2)
    · refine Ret_iteF (nI_nle (by omega) (by omega)) (Ret_bndE hm ?_)
      have L111 : ∀ th, th = (if V 18 2 = 2 then V 17 2 else V 17 1) → Ret (f_X7_blow_L111 σ1 (b + 19) (b + 1) (nI th) (nI (measV V))) (fun σ' => Only [b + 19] σ σ' ∧ σ' (b + 19) 0 = nI (V 18 0) ∧ σ' (b + 19) 1 = nI (filtV V) ∧ σ' (b + 19) 2 = nI (windV V).1 ∧ σ' (b + 19) 3 = nI (windV V).2) := by
        intro th hth
        have hthl : th ≤ 300 := by rw [hth]; split <;> omega
        have hs := pk_sub_toInt (a := th) (b := 10) (by omega) (by decide)
        unfold f_X7_blow_L111
        by_cases c : measV V + 10 < th
        · refine Ret_iteF (by rw [show (10 : Int32) = nI 10 from rfl, le_i, hs, nI_toInt (by omega)]; omega) ?_
          rw [show (0 : Int32) = nI 0 from rfl, show (4 : Int32) = nI 4 from rfl]
          refine Ret_bndE (val_show hb (j := 4) (by decide)) ?_
          rw [g17 4 (by decide)]
          refine fin (st := if V 17 4 ≤ V 18 3 + 1 then V 18 2 - 1 else V 18 2) (ca := if V 17 4 ≤ V 18 3 + 1 then 0 else V 18 3 + 1) ?_ (tail (calmDown_ok g2 g3 (by omega) (by omega) b4))
          unfold windV
          rw [if_neg n1, if_neg n2, if_pos (by rw [← hth]; omega)]
          split <;> rfl
        · refine Ret_iteT (by rw [show (10 : Int32) = nI 10 from rfl, le_i, hs, nI_toInt (by omega)]; omega) ?_
          exact fin (st := V 18 2) (ca := 0) (by unfold windV; rw [if_neg n1, if_neg n2, if_neg (by rw [← hth]; omega)]) (calm0_ok g2)
      by_cases s2 : V 18 2 = 2
      · exact Ret_iteT (by rw [s2]; rfl) (L111 _ (by rw [if_pos s2]))
      · exact Ret_iteF (fun e => s2 (nI_inj (by omega) (by decide) e)) (L111 _ (by rw [if_neg s2]))
  by_cases h2 : V 17 2 ≤ measV V
  · refine Ret_iteF (nI_nlt h2 (by omega)) ?_
    exact fin (st := 2) (ca := 0) (by unfold windV; rw [if_pos h2]) (tail (enter_ok rfl))
  · refine Ret_iteT (nI_lt (by omega) (by omega)) (Ret_bndE hm ?_)
    by_cases h1 : V 17 1 ≤ measV V
    · refine Ret_iteF (nI_nlt h1 (by omega)) ?_
      rw [g2]
      by_cases s0 : V 18 2 = 0
      · refine Ret_iteT (by rw [s0]) ?_
        exact fin (st := 1) (ca := 0) (by unfold windV; rw [if_neg h2, if_pos ⟨h1, s0⟩]) (tail (enter_ok rfl))
      · exact Ret_iteF (fun e => s0 (nI_inj (by omega) (by decide) e)) (L87 h2 (fun q => s0 q.2))
    · exact Ret_iteT (nI_lt (by omega) (by omega)) (L87 h2 (fun q => h1 q.1))

