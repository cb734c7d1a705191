/-! the class's tick -/
theorem carryV_le {V : Sh} {m : Nat} {i : Nat} (h6 : V 6 i ≤ m) : ∀ {k : Nat}, (∀ q, q < k → V 21 q ≤ m) → carryV V k i ≤ m
  | 0, _ => h6
  | k + 1, h => by
    have h1 := carryV_le (k := k) h6 (fun q hq => h q (by omega))
    have h2 := h k (by omega)
    show (if V 19 k = V 18 4 then obeyV (carryV V k) (V 20 k) (V 21 k) else carryV V k) i ≤ m
    split
    · unfold obeyV; split <;> omega
    · exact h1
theorem cmdV_le {V : Sh} (hV : Vok V) {i : Nat} (hi : i < V 18 5) : cmdV V i ≤ 1000 := by
  obtain ⟨hN, -, -, hC, -⟩ := hV
  exact carryV_le (hN i hi).2.2.2.2.2.2.1 (fun q hq => (hC.1 q hq).2.2)
theorem goal0_le {V : Sh} (hV : Vok V) {i : Nat} (hi : i < V 18 5) : goal0 V i ≤ 1000 := by
  unfold goal0 histV
  split
  · split
    · exact cmdV_le hV hi
    · exact hV.2.2.2.2 _ i (by omega) hi
  · omega
theorem openV_le {V : Sh} (hV : Vok V) {i : Nat} (hi : i < V 18 5) : openV V i ≤ 1000 := by
  have h := goal0_le hV hi
  obtain ⟨hN, -⟩ := hV
  refine tow_le (hN i hi).2.2.2.2.2.2.2.1 ?_
  unfold goalV
  split
  · omega
  · split <;> omega
theorem ownV_le {V : Sh} (hV : Vok V) {i : Nat} (hi : i < V 18 5) : ownV V i ≤ 100000 := own_le (openV_le hV hi) (hV.1 i hi).1.2
theorem demV_le {V : Sh} (hV : Vok V) (p : Nat) : demV V p ≤ 1200000 := by
  refine Nat.le_trans (sumV_le (m := 100000) (fun i hi => ?_)) (Nat.mul_le_mul (by have := hV.2.2.1; unfold VokS at this; omega : V 18 5 ≤ 12) (Nat.le_refl 100000))
  have := ownV_le hV hi
  split <;> omega
theorem runV_le {V : Sh} (hV : Vok V) {p : Nat} (hp : p < 3) : runV V p ≤ 2000000 := by
  have := hV.2.1 p hp
  unfold runV
  exact tow_le this.2.2.1 (by omega)
theorem flowV_own {V : Sh} (i : Nat) : flowV V i ≤ ownV V i := by
  unfold flowV
  split
  · exact Nat.le_refl _
  · rename_i h
    rw [Nat.div_le_iff_le_mul (by omega)]
    have : ownV V i * runV V (V 4 i) ≤ ownV V i * demV V (V 4 i) := Nat.mul_le_mul (Nat.le_refl _) (by omega)
    omega
theorem flowV_le {V : Sh} (hV : Vok V) {i : Nat} (hi : i < V 18 5) : flowV V i ≤ 1000 * V 0 i := Nat.le_trans (flowV_own i) (Nat.mul_le_mul (openV_le hV hi) (Nat.le_refl _))
theorem highV_le {V : Sh} (hV : Vok V) {i : Nat} (hi : i < V 18 5) : highV V i ≤ 5000 := by
  have h := hV.1 i hi
  have hf := flowV_le hV hi
  refine high_le h.2.1.2 ?_
  rw [Nat.div_le_iff_le_mul (by omega)]
  omega
theorem measV_le {V : Sh} (hV : Vok V) : measV V ≤ 300 := by
  have := (filt_eq hV.2.2.1).2
  unfold measV
  omega
theorem driftV_le {V : Sh} (hV : Vok V) {i : Nat} (hi : i < V 18 5) : driftV V i ≤ 2000 := by
  have h := drift_le (highV_le hV hi) (measV_le hV) (hV.1 i hi).2.2.2.2.2.1
  unfold driftV
  omega
theorem tick_hist (V : Sh) (t i : Nat) : tickV V (22 + t) i = if t = V 18 4 then cmdV V i else V (22 + t) i := by
  unfold tickV
  rw [if_pos (Nat.le_add_right 22 t)]
  by_cases e : t = V 18 4
  · rw [if_pos e, if_pos (by omega)]
  · rw [if_neg e, if_neg (by omega)]
theorem tickC {b : Nat} (hb : SB b) {V : Sh} {σ : Mem} {n : Nat} (hn : 60 < n) (hV : Vok V) (hR : Rc b V σ) : Ret (f_X5_makeTick n σ b) (fun σ' => Rc b (tickV V) σ' ∧ Fr b σ σ') := by
  have hVV := hV
  obtain ⟨hN, hP, hS, hC, hH⟩ := hV
  obtain ⟨rN, rP, rS, rC, rH⟩ := hR
  have hS' := hS
  have rS' := rS
  obtain ⟨b0, b1, b2, b3, b4, b5, w0, w1, w2, w3, w4, w5, w6, w7, w8⟩ := hS'
  obtain ⟨r17, s0, s1, s2, s3, s4, s5, s6, s7, s8⟩ := rS'
  unfold f_X5_makeTick
  rw [P0_4 hb, P0_1 hb, P0_3 hb, P0_0 hb, P0_2 hb, s4]
  refine Ret_bnd (carryOut_ok hb (by omega) hC w7 w5.2 w4 s7 s5 rC (fun i hi => (rN i hi).2.1)) ?_
  rintro σ3 ⟨o3, c3⟩
  have e35 : σ3 b 5 = nI (V 18 4) := by rw [o3 b (by simp)]; exact s4
  rw [e35]
  refine Ret_bnd (keep_ok hb w4) ?_
  rintro σ6 ⟨o6, k6, k6'⟩
  have hist : ∀ i t', i < V 18 5 → t' ≤ V 18 4 → V 18 4 ≤ t' + 50 → σ6 (b + 12) (12 * (t' % 51) + i) = nI (histV V t' i) := by
    intro i t' hi h1 h2
    unfold histV
    by_cases e : t' = V 18 4
    · rw [if_pos e, e, k6 i (by omega)]
      exact c3 i hi
    · rw [if_neg e, k6' _ i (by omega) (by omega), o3 _ (by simp)]
      exact rH i t' hi (by omega) h2
  have rS6 : RcS b V σ6 := by
    unfold RcS
    rw [o6 (b + 2) (by simp), o6 (b + 19) (by simp), o6 b (by simp), o6 (b + 3) (by simp), o6 (b + 20) (by simp), o3 (b + 2) (by simp), o3 (b + 19) (by simp), o3 b (by simp), o3 (b + 3) (by simp), o3 (b + 20) (by simp)]
    exact rS
  refine Ret_bnd (blow_ok hb hS rS6) ?_
  rintro σ9 ⟨o9, z0, z1, z2, z3⟩
  have rd9 : ∀ a, a ∉ [b + 6, b + 12, b + 19] → σ9 a = σ a := by
    intro a ha
    simp only [List.mem_cons, List.not_mem_nil, or_false, not_or] at ha
    rw [o9 a (by simp [ha]), o6 a (by simp [ha]), o3 a (by simp [ha])]
  rw [show (0 : Int32) = nI 0 from rfl, show (3 : Int32) = nI 3 from rfl]
  refine Ret_bndE (val_show hb (j := 3) (by decide)) ?_
  rw [rd9 (b + 2) (by simp), r17 3 (by decide), rd9 b (by simp), s4, z2]
  have hw2 := (windV_le hS).1
  refine Ret_bnd (open_ok hb (V := V) (cnt := V 18 5) (G := V 18 8) (g := histV V) (g0 := goal0 V) (by omega) w5.2 w4 hw2 b3 w8 (by rw [rd9 (b + 3) (by simp)]; exact s5) (by rw [rd9 (b + 3) (by simp)]; exact s8) (fun i hi j hj => by rw [rd9 (b + 5) (by simp)]; exact (rN i hi).1 j hj) (fun i hi => ⟨(hN i hi).2.2.1, (hN i hi).2.2.2.1.2, (hN i hi).2.2.2.2.2.2.2.1⟩) (fun i hi => by rw [rd9 (b + 7) (by simp)]; exact (rN i hi).2.2.1) (fun i t' hi h1 h2 => by rw [o9 (b + 12) (by simp)]; exact hist i t' hi h1 h2) (fun i _ => rfl) (fun i hi => goal0_le hVV hi)) ?_
  rintro σ14 ⟨o14, p3, p9, p7⟩
  have p7' : ∀ i, i < V 18 5 → σ14 (b + 7) i = nI (openV V i) := p7
  have rd14 : ∀ a, a ∉ [b + 6, b + 12, b + 19, b + 7, b + 3] → σ14 a = σ a := by
    intro a ha
    simp only [List.mem_cons, List.not_mem_nil, or_false, not_or] at ha
    rw [o14 a (by simp [ha]), rd9 a (by simp [ha])]
  have h38 : σ14 (b + 3) 8 = nI (V 18 5) := by rw [p3 8 (by decide), rd9 (b + 3) (by simp)]; exact s5
  have opn : Opn b V (openV V) (V 18 5) σ14 := ⟨h38, fun i hi => ⟨fun j hj => by rw [rd14 (b + 5) (by simp)]; exact (rN i hi).1 j hj, p7' i hi, openV_le hVV hi, (hN i hi).1, (hN i hi).2.2.2.2.1⟩⟩
  refine Ret_bnd (supply_ok hb (dem := demV V) (run := runV V) opn w5.2 (by omega) hP (fun p hp j hj => by rw [rd14 (b + 15) (by simp)]; exact (rP p hp).1 j hj) (fun p hp => by rw [rd14 (b + 16) (by simp)]; exact (rP p hp).2.1) (fun p => rfl) (fun p => rfl)) ?_
  rintro σ17 ⟨o17, d17, f17⟩
  have f17' : ∀ i, i < V 18 5 → σ17 (b + 8) i = nI (flowV V i) := f17
  have hm : f_X7_measured σ17 (b + 19) = some (nI (measV V)) := by
    unfold f_X7_measured
    have := (filt_eq hS).2
    rw [o17 (b + 19) (by simp), o14 (b + 19) (by simp), z1, show (1024 : Int32) = nI 1024 from rfl, nI_div (by omega) (by decide) (by decide)]
    rfl
  refine Ret_bndE hm ?_
  refine Ret_bnd (rise_ok hb (V := V) (fl := flowV V) (cnt := V 18 5) (hi := highV V) (dr := driftV V) w5.2 (by omega) (measV_le hVV) (by rw [o17 (b + 3) (by simp)]; exact h38) (fun i hi => ⟨fun j hj => by rw [o17 (b + 5) (by simp), rd14 (b + 5) (by simp)]; exact (rN i hi).1 j hj, f17' i hi, by rw [o17 (b + 11) (by simp), rd14 (b + 11) (by simp)]; exact (rN i hi).2.2.2.2.2.2, flowV_le hVV hi, (hN i hi).1, (hN i hi).2.1.2, (hN i hi).2.2.2.2.2.1, (hN i hi).2.2.2.2.2.2.2.2.2.2.2⟩) (fun i => rfl) (fun i => rfl)) ?_
  rintro σ22 ⟨o22, h22⟩
  refine Ret_bnd (short_ok hb (dem := demV V) (run := runV V) (sh := V 16) (by omega) (fun p hp => ⟨by rw [o22 (b + 17) (by simp)]; exact (d17 p hp).2, by rw [o22 (b + 16) (by simp)]; exact (d17 p hp).1, by rw [o22 (b + 18) (by simp), o17 (b + 18) (by simp), rd14 (b + 18) (by simp)]; exact (rP p hp).2.2.2, by have := demV_le hVV p; omega, by have := runV_le hVV hp; omega⟩)) ?_
  rintro σ25 ⟨o25, h25⟩
  have rd25 : ∀ a, a ∉ [b + 6, b + 12, b + 19, b + 7, b + 3, b + 8, b + 16, b + 17, b + 9, b + 10, b + 11, b + 18] → σ25 a = σ a := by
    intro a ha
    simp only [List.mem_cons, List.not_mem_nil, or_false, not_or] at ha
    rw [o25 a (by simp [ha]), o22 a (by simp [ha]), o17 a (by simp [ha]), rd14 a (by simp [ha])]
  rw [show (5 : Int32) = nI 5 from rfl]
  refine Ret_bndE (val_show hb (j := 5) (by decide)) ?_
  rw [rd25 (b + 2) (by simp), r17 5 (by decide)]
  have a38 : σ25 (b + 3) 8 = nI (V 18 5) := by rw [o25 (b + 3) (by simp), o22 (b + 3) (by simp), o17 (b + 3) (by simp)]; exact h38
  refine Ret_bndE (beyond_ok hb (dr := driftV V) w5.2 (by omega) a38 (by omega) (fun i hi => ⟨by rw [o25 (b + 10) (by simp)]; exact (h22 i hi).2.1, by have := driftV_le hVV hi; omega⟩)) ?_
  have x5 : σ25 b 5 = nI (V 18 4) := by rw [rd25 b (by simp)]; exact s4
  have x6 : σ25 b 6 = nI (V 18 6) := by rw [rd25 b (by simp)]; exact s6
  -- behind the two counts
  have fin : ∀ σ31 : Mem, (∀ a, a ≠ b → σ31 a = σ25 a) → σ31 b 5 = nI (V 18 4) → σ31 b 6 = nI (V 18 6 + (if wetV V = true then 1 else 0)) → Ret (f_X5_makeTick_L125 n σ31 b) (fun σ' => Rc b (tickV V) σ' ∧ Fr b σ σ') := by
    intro σ31 ho h5 h6
    unfold f_X5_makeTick_L125
    refine Ret_nm (Ret_some ?_)
    rw [h5, nI_1]
    have y5 : gst σ31 b 5 (nI (V 18 4 + 1)) b 5 = nI (V 18 4 + 1) := by rw [gst_at, if_pos ⟨rfl, rfl⟩]
    have y6 : gst σ31 b 5 (nI (V 18 4 + 1)) b 6 = nI (V 18 6 + (if wetV V = true then 1 else 0)) := by rw [gst_at, if_neg (fun q => absurd q.2 (by decide))]; exact h6
    have yo : ∀ a, a ≠ b → gst σ31 b 5 (nI (V 18 4 + 1)) a = σ25 a := fun a ha => by rw [gst_row ha]; exact ho a ha
    generalize gst σ31 b 5 (nI (V 18 4 + 1)) = σ' at y5 y6 yo
    have yr : ∀ a, a ∉ [b, b + 6, b + 12, b + 19, b + 7, b + 3, b + 8, b + 16, b + 17, b + 9, b + 10, b + 11, b + 18] → σ' a = σ a := by
      intro a ha
      simp only [List.mem_cons, List.not_mem_nil, or_false, not_or] at ha
      rw [yo a ha.1, rd25 a (by simp [ha])]
    refine ⟨⟨?_, ?_, ?_, ?_, ?_⟩, ?_⟩
    · intro i hi
      have hi : i < V 18 5 := hi
      refine ⟨?_, ?_, ?_, ?_, ?_, ?_, ?_⟩
      · intro j hj
        rw [yr (b + 5) (by simp)]
        have := (rN i hi).1 j hj
        rw [this]
        have : j = 0 ∨ j = 1 ∨ j = 2 ∨ j = 3 ∨ j = 4 ∨ j = 5 := by omega
        rcases this with h | h | h | h | h | h <;> subst h <;> rfl
      · rw [yo (b + 6) (by omega), o25 (b + 6) (by simp), o22 (b + 6) (by simp), o17 (b + 6) (by simp), o14 (b + 6) (by simp), o9 (b + 6) (by simp), o6 (b + 6) (by simp)]
        exact c3 i hi
      · rw [yo (b + 7) (by omega), o25 (b + 7) (by simp), o22 (b + 7) (by simp), o17 (b + 7) (by simp)]
        exact p7' i hi
      · rw [yo (b + 8) (by omega), o25 (b + 8) (by simp), o22 (b + 8) (by simp)]
        exact f17' i hi
      · rw [yo (b + 9) (by omega), o25 (b + 9) (by simp)]
        exact (h22 i hi).1
      · rw [yo (b + 10) (by omega), o25 (b + 10) (by simp)]
        exact (h22 i hi).2.1
      · rw [yo (b + 11) (by omega), o25 (b + 11) (by simp)]
        exact (h22 i hi).2.2
    · intro p hp
      refine ⟨?_, ?_, ?_, ?_⟩
      · intro j hj
        rw [yr (b + 15) (by simp), (rP p hp).1 j hj]
        have : j = 0 ∨ j = 1 := by omega
        rcases this with h | h <;> subst h <;> rfl
      · rw [yo (b + 16) (by omega), o25 (b + 16) (by simp), o22 (b + 16) (by simp)]
        exact (d17 p hp).1
      · rw [yo (b + 17) (by omega), o25 (b + 17) (by simp), o22 (b + 17) (by simp)]
        exact (d17 p hp).2
      · rw [yo (b + 18) (by omega)]
        exact h25 p hp
    · have e19 : σ' (b + 19) = σ9 (b + 19) := by rw [yo (b + 19) (by omega), o25 (b + 19) (by simp), o22 (b + 19) (by simp), o17 (b + 19) (by simp), o14 (b + 19) (by simp)]
      have e3 : σ' (b + 3) = σ14 (b + 3) := by rw [yo (b + 3) (by omega), o25 (b + 3) (by simp), o22 (b + 3) (by simp), o17 (b + 3) (by simp)]
      refine ⟨?_, ?_, ?_, ?_, ?_, y5, ?_, y6, ?_, ?_⟩
      · intro j hj
        rw [yr (b + 2) (by simp)]
        exact r17 j hj
      · rw [e19]; exact z0
      · rw [e19]; exact z1
      · rw [e19]; exact z2
      · rw [e19]; exact z3
      · rw [e3]; exact h38
      · rw [yr (b + 20) (by simp)]; exact s7
      · rw [e3]; exact p9
    · intro k hk
      rw [yr (b + 21) (by simp), yr (b + 22) (by simp), yr (b + 23) (by simp)]
      exact rC k hk
    · intro i t hi h1 h2
      have hi : i < V 18 5 := hi
      have h1 : t < V 18 4 + 1 := h1
      have h2 : V 18 4 + 1 ≤ t + 50 := h2
      rw [yo (b + 12) (by omega), o25 (b + 12) (by simp), o22 (b + 12) (by simp), o17 (b + 12) (by simp), o14 (b + 12) (by simp), o9 (b + 12) (by simp), hist i t hi (by omega) (by omega)]
      rw [tick_hist]
      unfold histV
      split <;> rfl
    · refine ⟨fun a ha => yr a ?_, yr _ (by simp), yr _ (by simp), yr _ (by simp)⟩
      simp only [List.mem_cons, List.not_mem_nil, or_false, not_or]
      omega
  by_cases hw : wetV V = true
  · have : anyV (fun i => decide (V 17 5 < driftV V i)) (V 18 5) = true := hw
    rw [if_pos this]
    refine Ret_iteF (by decide) (Ret_nm ?_)
    rw [x6, nI_1]
    refine fin _ (fun a ha => gst_row ha) ?_ ?_
    · rw [gst_at, if_neg (fun q => absurd q.2 (by decide))]; exact x5
    · rw [gst_at, if_pos ⟨rfl, rfl⟩, if_pos hw]
  · have : ¬ anyV (fun i => decide (V 17 5 < driftV V i)) (V 18 5) = true := hw
    rw [if_neg this]
    refine Ret_iteT rfl ?_
    exact fin _ (fun a ha => rfl) x5 (by rw [if_neg hw]; exact x6)
theorem tickV_ok {V : Sh} (hV : Vok V) (ht : V 18 4 < 2000000) : Vok (tickV V) := by
  have hVV := hV
  obtain ⟨hN, hP, hS, hC, hH⟩ := hV
  have hw := windV_le hS
  have hf := (filt_eq hS).2
  refine ⟨?_, ?_, ?_, ⟨hC.1, hC.2⟩, ?_⟩
  · intro i hi
    have hi : i < V 18 5 := hi
    obtain ⟨a0, a1, a2, a3, a4, a5, a6, a7, a8, a9, a10, a11⟩ := hN i hi
    have h8 : flowV V i ≤ 100000 := Nat.le_trans (flowV_own i) (ownV_le hVV hi)
    have h9 := highV_le hVV hi
    exact ⟨a0, a1, a2, a3, a4, a5, cmdV_le hVV hi, openV_le hVV hi, h8, h9, driftV_le hVV hi, by show max (V 11 i) (highV V i) ≤ 5000; omega⟩
  · intro p hp
    obtain ⟨a0, a1, a2, a3, a4⟩ := hP p hp
    exact ⟨a0, a1, runV_le hVV hp, demV_le hVV p, by show V 16 p + (if runV V p < demV V p then 1 else 0) ≤ V 18 4 + 1; split <;> omega⟩
  · obtain ⟨b0, b1, b2, b3, b4, b5, w0, w1, w2, w3, w4, w5, w6, w7, w8⟩ := hS
    refine ⟨b0, b1, b2, b3, b4, b5, w0, hf, hw.1, hw.2, by show V 18 4 + 1 ≤ 2000000; omega, w5, by show V 18 6 + (if wetV V = true then 1 else 0) ≤ V 18 4 + 1; split <;> omega, w7, ?_⟩
    show ggV V ≤ 1000
    unfold ggV
    split
    · exact maxV_le w8 (fun i hi => goal0_le hVV hi)
    · exact w8
  · intro t i h1 hi
    have h1 : t < V 18 4 + 1 := h1
    have hi : i < V 18 5 := hi
    rw [tick_hist]
    split
    · exact cmdV_le hVV hi
    · exact hH t i (by omega) hi

