/-! command, tick, state -/
theorem rc_row6 {b : Nat} {V : Sh} {σ σ' : Mem} {g : Nat → Nat} (h : Rc b V σ) (ho : Only [b + 6] σ σ') (hg : ∀ i, i < V 18 5 → σ' (b + 6) i = nI (g i)) : Rc b (vrow V 6 g) σ' := by
  obtain ⟨h1, h2, h3, h4, h5⟩ := h
  have e : ∀ a, a ≠ b + 6 → σ' a = σ a := fun a q => ho a (by simp [q])
  refine ⟨?_, ?_, ?_, ?_, ?_⟩
  · unfold RcN
    rw [vrow_n (r' := 18) (by omega), vrow_s, vrow_n (r' := 7) (by omega), vrow_n (r' := 8) (by omega), vrow_n (r' := 9) (by omega), vrow_n (r' := 10) (by omega), vrow_n (r' := 11) (by omega), e (b + 5) (by omega), e (b + 7) (by omega), e (b + 8) (by omega), e (b + 9) (by omega), e (b + 10) (by omega), e (b + 11) (by omega)]
    intro i hi
    obtain ⟨a0, -, a7⟩ := h1 i hi
    refine ⟨?_, hg i hi, a7⟩
    intro j hj
    rw [vrow_n (by omega)]
    exact a0 j hj
  · unfold RcP
    rw [vrow_n (r' := 14) (by omega), vrow_n (r' := 15) (by omega), vrow_n (r' := 16) (by omega), e (b + 15) (by omega), e (b + 16) (by omega), e (b + 17) (by omega), e (b + 18) (by omega)]
    intro p hp
    refine ⟨?_, (h2 p hp).2⟩
    intro j hj
    rw [vrow_n (by omega)]
    exact (h2 p hp).1 j hj
  · unfold RcS
    rw [vrow_n (r' := 17) (by omega), vrow_n (r' := 18) (by omega), e (b + 2) (by omega), e (b + 19) (by omega), e b (by omega), e (b + 3) (by omega), e (b + 20) (by omega)]
    exact h3
  · unfold RcC
    rw [vrow_n (r' := 18) (by omega), vrow_n (r' := 19) (by omega), vrow_n (r' := 20) (by omega), vrow_n (r' := 21) (by omega), e (b + 21) (by omega), e (b + 22) (by omega), e (b + 23) (by omega)]
    exact h4
  · unfold RcH
    rw [vrow_n (r' := 18) (by omega), e (b + 12) (by omega)]
    intro i t hi q1 q2
    rw [vrow_n (by omega)]
    exact h5 i t hi q1 q2
theorem vok_row6 {V : Sh} {g : Nat → Nat} (hV : Vok V) (hg : ∀ i, i < V 18 5 → g i ≤ 1000) : Vok (vrow V 6 g) := by
  obtain ⟨hN, hP, hS, hC, hH⟩ := hV
  refine ⟨?_, ?_, ?_, ?_, ?_⟩
  · unfold VokN
    rw [vrow_n (r' := 18) (by omega), vrow_s, vrow_n (r' := 0) (by omega), vrow_n (r' := 1) (by omega), vrow_n (r' := 2) (by omega), vrow_n (r' := 3) (by omega), vrow_n (r' := 4) (by omega), vrow_n (r' := 5) (by omega), vrow_n (r' := 7) (by omega), vrow_n (r' := 8) (by omega), vrow_n (r' := 9) (by omega), vrow_n (r' := 10) (by omega), vrow_n (r' := 11) (by omega)]
    intro i hi
    obtain ⟨a0, a1, a2, a3, a4, a5, a6, a7⟩ := hN i hi
    exact ⟨a0, a1, a2, a3, a4, a5, hg i hi, a7⟩
  · unfold VokP
    rw [vrow_n (r' := 18) (by omega), vrow_n (r' := 12) (by omega), vrow_n (r' := 13) (by omega), vrow_n (r' := 14) (by omega), vrow_n (r' := 15) (by omega), vrow_n (r' := 16) (by omega)]
    exact hP
  · unfold VokS
    rw [vrow_n (r' := 17) (by omega), vrow_n (r' := 18) (by omega)]
    exact hS
  · unfold VokC
    rw [vrow_n (r' := 18) (by omega), vrow_n (r' := 19) (by omega), vrow_n (r' := 20) (by omega), vrow_n (r' := 21) (by omega)]
    exact hC
  · unfold VokH
    rw [vrow_n (r' := 18) (by omega)]
    intro t i ht hi
    rw [vrow_n (by omega)]
    exact hH t i ht hi
theorem Fr_only {b k : Nat} {σ σ' : Mem} (h : Only [k] σ σ') (h1 : b ≤ k ∧ k < b + 24) (h2 : k ≠ b + 1 ∧ k ≠ b + 4 ∧ k ≠ b + 14) : Fr b σ σ' := ⟨fun a ha => h a (by simp; omega), h _ (by simp; omega), h _ (by simp; omega), h _ (by simp; omega)⟩
theorem isCmd {x y : Int32} : f_X9_isCommand x y = some (if (1 ≤ x ∧ x ≤ 4095) ∧ (0 ≤ y ∧ y ≤ 1000) then 1 else 0) := by
  unfold f_X9_isCommand
  rw [in_X9, bnd_s, in_X9]
  by_cases a : 1 ≤ x ∧ x ≤ 4095
  · rw [if_pos a, if10, bnd_s]
    by_cases c : 0 ≤ y ∧ y ≤ 1000
    · rw [if_pos c, if10, if_pos ⟨a, c⟩]
    · rw [if_neg c, if00, if_neg (fun q => c q.2)]
  · rw [if_neg a, if00, if_neg (fun q => a q.1)]
theorem op_command {n : Nat} (hn : 60 < n) {σ : Mem} (h : Inv σ) (x y : Int32) : Sim (f_X8_command n σ 0 x y) (fun σ => f_X9_command n σ 105 x y) := by
  have hh := h
  obtain ⟨⟨V, hV, hT, hc, hr⟩, ht, hs, -⟩ := h
  have hS := hV.2.2.1
  unfold VokS at hS
  unfold f_X8_command
  rw [p00, P0_1 SB1, in_X8, bnd_s, in_X8]
  by_cases c1 : (1 : Int32) ≤ x ∧ x ≤ 4095
  · rw [if_pos c1, if10, bnd_s]
    by_cases c2 : (0 : Int32) ≤ y ∧ y ≤ 1000
    · have c12 := And.intro c1 c2
      obtain ⟨s, s1, s2, rfl⟩ := of_rng (a := 1) (b := 4095) (by decide) c1 (by decide)
      obtain ⟨v, hv, rfl⟩ := of_in (m := 1000) (by decide) c2
      rw [if_pos c2, if10]
      obtain ⟨σ1, e1, o1, q1⟩ := obey_ok SB1 (n := n) (s := s) (v := v) (by omega) hS.2.2.2.2.2.2.2.2.2.2.2.1.2 hc.2.2.1.2.2.2.2.2.2.1 s2 (fun i hi => (hc.1 i hi).2.1)
      rw [e1, bnd_s]
      have R1 := rc_row6 hc o1 q1
      refine ⟨_, rfl, ?_⟩
      dsimp only
      have F1 : Fr 1 σ σ1 := Fr_only o1 (by omega) (by omega)
      have g6 : σ1 106 = σ 106 := F1.1 106 (by omega)
      unfold f_X9_command
      rw [isCmd, bnd_s, if_pos c12, if10]
      obtain ⟨σ2, e2, r2, o2⟩ := carryOut9_ok (σ := σ1) (n := n) (s := s) (v := v) (by rw [g6]; exact hr) hS.2.2.2.2.2.2.2.2.2.2.2.1.2 rfl (by omega) s2
      rw [e2, bnd_s]
      have t1 : σ1 1 5 = nI (V 18 4) := by rw [show σ1 1 = σ 1 from o1 1 (by decide)]; exact hc.2.2.1.2.2.2.2.2.1
      have t2 : σ2 106 937 = nI (V 18 4) := by
        have := (rr_sets r2).2.2.2.2.2.2.2.2.2.2.1
        rw [vrow_n (by decide)] at this
        exact this
      rw [PM0, AM0, show ckI 937 1121 = true from rfl, chk_t, show ix 937 = 937 from rfl]
      refine ⟨_, rfl, ?_, ?_⟩
      · dsimp only
        rw [t1, t2]
      · dsimp only
        refine Inv_next hh F1 o2 (vok_row6 hV (fun i hi => ?_)) (by rw [vrow_n (by decide)]; exact hT) R1 (RrA_of r2 (by rw [vrow_n (by decide)]) (by rw [vrow_n (by decide)]) (by rw [vrow_n (by decide)]))
        unfold obeyV
        have := (hV.1 i hi).2.2.2.2.2.2.1
        split <;> omega
    · rw [if_neg c2, if00]
      refine Sim_err hh rfl ?_
      unfold f_X9_command
      rw [isCmd, bnd_s, if_neg (c := (1 ≤ x ∧ x ≤ 4095) ∧ (0 ≤ y ∧ y ≤ 1000)) (fun q => c2 q.2), if00]
  · rw [if_neg c1, if00]
    refine Sim_err hh rfl ?_
    unfold f_X9_command
    rw [isCmd, bnd_s, if_neg (c := (1 ≤ x ∧ x ≤ 4095) ∧ (0 ≤ y ∧ y ≤ 1000)) (fun q => c1 q.1), if00]
/-- many ticks -/
def tkV (V : Sh) : Nat → Sh
  | 0 => V
  | k + 1 => tickV (tkV V k)
theorem tk_time (V : Sh) : ∀ k, tkV V k 18 4 = V 18 4 + k
  | 0 => rfl
  | k + 1 => by
    show tkV V k 18 4 + 1 = _
    rw [tk_time V k]
    omega
theorem tk_ok {V : Sh} (hV : Vok V) : ∀ k, V 18 4 + k ≤ 2000000 → Vok (tkV V k)
  | 0, _ => hV
  | k + 1, h => tickV_ok (tk_ok hV k (by omega)) (by rw [tk_time]; omega)
theorem tickN_c {n : Nat} (hn : 60 < n) {σ : Mem} {V : Sh} {e : Nat} (hV : Vok V) (hc : Rc 1 V σ) (he : e < n) (he2 : V 18 4 + e ≤ 2000000) (hh : e < 2 ^ 31) : Ret (f_X8_tick_L33 n σ 0 (nI e) 0) (fun q => q.1 = nI (V 18 4 + e) ∧ Rc 1 (tkV V e) q.2 ∧ Fr 1 σ q.2) := by
  unfold f_X8_tick_L33
  refine Ret_for e (fun i s => Rc 1 (tkV V i) s ∧ Fr 1 σ s) ?_ ?_ (i := 0) (Nat.zero_le _) he ⟨hc, Fr.rf _ _⟩
  · intro i s hi hI
    unfold f_X8_tick_B33
    dsimp only
    rw [if_neg (c := nI e ≤ nI i) (by rw [le_i, nI_toInt (by omega), nI_toInt (by omega)]; omega), p00]
    refine Ret_bnd (tickC SB1 hn (tk_ok hV i (by omega)) hI.1) ?_
    rintro s' ⟨a1, a2⟩
    refine Ret_nm (Ret_some ⟨s', ?_, a1, hI.2.tr a2⟩)
    rw [show (1 : Int32) = nI 1 from rfl, nI_add]
  · intro s hI
    unfold f_X8_tick_B33
    dsimp only
    rw [if_pos (c := nI e ≤ nI e) (Int32.le_refl _), p00]
    refine Ret_some ⟨?_, hI.1, hI.2⟩
    have := hI.1.2.2.1.2.2.2.2.2.1
    rw [tk_time] at this
    exact this
theorem tickN_r {n : Nat} (hn : 60 < n) {σ : Mem} {V : Sh} {e : Nat} (hV : Vok V) (hc : RrA V (σ 106)) (he : e < n) (he2 : V 18 4 + e ≤ 2000000) (hh : e < 2 ^ 31) : Ret (f_X9_tick_L34 n σ 105 (nI e) 0) (fun q => q.1 = nI (V 18 4 + e) ∧ RrA (tkV V e) (q.2 106) ∧ Only [106] σ q.2) := by
  unfold f_X9_tick_L34
  refine Ret_for e (fun i s => RrA (tkV V i) (s 106) ∧ Only [106] σ s) ?_ ?_ (i := 0) (Nat.zero_le _) he ⟨hc, fun _ _ => rfl⟩
  · intro i s hi hI
    unfold f_X9_tick_B34
    dsimp only
    rw [if_neg (c := nI e ≤ nI i) (by rw [le_i, nI_toInt (by omega), nI_toInt (by omega)]; omega)]
    refine Ret_bnd (tickR hn (tk_ok hV i (by omega)) hI.1) ?_
    rintro s' ⟨a1, a2⟩
    refine Ret_nm (Ret_some ⟨s', ?_, a1, hI.2.one a2⟩)
    rw [show (1 : Int32) = nI 1 from rfl, nI_add]
  · intro s hI
    unfold f_X9_tick_B34
    dsimp only
    rw [if_pos (c := nI e ≤ nI e) (Int32.le_refl _), PM0, AM0, show ckI 937 1121 = true from rfl, chk_t, show ix 937 = 937 from rfl]
    refine Ret_some ⟨?_, hI.1, hI.2⟩
    have := (rr_sets hI.1).2.2.2.2.2.2.2.2.2.2.1
    rw [tk_time] at this
    exact this
theorem op_tick {n : Nat} (hn : 2000 < n) {σ : Mem} (h : Inv σ) (x : Int32) : Sim (f_X8_tick n σ 0 x) (fun σ => f_X9_tick n σ 105 x) := by
  have hh := h
  obtain ⟨⟨V, hV, hT, hc, hr⟩, ht, hs, -⟩ := h
  unfold f_X8_tick
  rw [p00, in_X8, bnd_s]
  by_cases c1 : (1 : Int32) ≤ x ∧ x ≤ 2000
  · obtain ⟨e, s1, s2, rfl⟩ := of_rng (a := 1) (b := 2000) (by decide) c1 (by decide)
    have t1 : σ 1 5 = nI (V 18 4) := hc.2.2.1.2.2.2.2.2.1
    have t2 : σ 106 937 = nI (V 18 4) := (rr_sets hr).2.2.2.2.2.2.2.2.2.2.1
    rw [if_pos c1, if10, t1, nI_add]
    by_cases c2 : V 18 4 + e ≤ 200000
    · have c2' : nI (V 18 4 + e) ≤ 200000 := nI_le (b := 200000) c2 (by decide)
      rw [if_pos c2']
      obtain ⟨q1, e1, a1, a2, a3⟩ := tickN_c (n := n) (by omega) hV hc (e := e) (by omega) (by omega) (by omega)
      refine ⟨q1, e1, ?_⟩
      have g6 : q1.2 106 = σ 106 := a3.1 106 (by omega)
      unfold f_X9_tick
      dsimp only
      rw [in_X9, bnd_s, if_pos c1, if10, PM0, AM0, show ckI 937 1121 = true from rfl, chk_t, show ix 937 = 937 from rfl, g6, t2, nI_add, if_pos c2']
      obtain ⟨q2, e2, b1, b2, b3⟩ := tickN_r (n := n) (σ := q1.2) (by omega) hV (by rw [g6]; exact hr) (e := e) (by omega) (by omega) (by omega)
      refine ⟨q2, e2, by rw [a1, b1], Inv_next hh a3 b3 (tk_ok hV e (by omega)) (by rw [tk_time]; exact c2) a2 b2⟩
    · have c2' : ¬ nI (V 18 4 + e) ≤ 200000 := by
        rw [le_i, nI_toInt (by omega), show (200000 : Int32).toInt = 200000 from rfl]
        omega
      rw [if_neg c2']
      refine Sim_err hh rfl ?_
      unfold f_X9_tick
      rw [in_X9, bnd_s, if_pos c1, if10, PM0, AM0, show ckI 937 1121 = true from rfl, chk_t, show ix 937 = 937 from rfl, t2, nI_add, if_neg c2']
  · rw [if_neg c1, if00]
    refine Sim_err hh rfl ?_
    unfold f_X9_tick
    rw [in_X9, bnd_s, if_neg c1, if00]
