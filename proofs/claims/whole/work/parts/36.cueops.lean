/-! a show with another list of cues -/
def setC (V : Sh) (N : Nat) (W : Sh) : Sh := fun r c => if r = 18 ∧ c = 7 then N else if 19 ≤ r ∧ r ≤ 21 then W (r - 19) c else V r c
def cuesV (V : Sh) : Sh := fun r => V (19 + r)
theorem setC_7 (V : Sh) (N : Nat) (W : Sh) : setC V N W 18 7 = N := by unfold setC; rw [if_pos ⟨rfl, rfl⟩]
theorem setC_w {V : Sh} {N : Nat} {W : Sh} {r : Nat} (h : r < 3) : setC V N W (19 + r) = W r := by
  funext c
  unfold setC
  rw [if_neg (by omega), if_pos (by omega), show 19 + r - 19 = r by omega]
theorem setC_r {V : Sh} {N : Nat} {W : Sh} {r : Nat} (h : r < 18 ∨ 21 < r) : setC V N W r = V r := by
  funext c
  unfold setC
  rw [if_neg (by omega), if_neg (by omega)]
theorem setC_18 {V : Sh} {N : Nat} {W : Sh} {c : Nat} (h : c ≠ 7) : setC V N W 18 c = V 18 c := by
  unfold setC
  rw [if_neg (by omega), if_neg (by omega)]
theorem rc_cq {b : Nat} {V : Sh} {σ : Mem} (h : Rc b V σ) : Cq (b + 20) (V 18 7) (cuesV V) σ := ⟨h.2.2.1.2.2.2.2.2.2.2.2.1, fun j hj => h.2.2.2.1 j hj⟩
theorem rr_cr {V : Sh} {f : Nat → Int32} (h : RrA V f) : Cr (V 18 7) (cuesV V) f := fun j hj c hc => h.2.2.2.2.1 j hj c hc
theorem rc_setC' {b N : Nat} {V W : Sh} {σ σ' : Mem} (h : Rc b V σ) (e : ∀ a, b ≤ a → a < b + 20 → σ' a = σ a) (hq : Cq (b + 20) N W σ') : Rc b (setC V N W) σ' := by
  obtain ⟨h1, h2, h3, h4, h5⟩ := h
  have s5 : setC V N W 18 5 = V 18 5 := setC_18 (by decide)
  have s4 : setC V N W 18 4 = V 18 4 := setC_18 (by decide)
  refine ⟨?_, ?_, ?_, ?_, ?_⟩
  · unfold RcN
    rw [s5, setC_r (r := 6) (by omega), setC_r (r := 7) (by omega), setC_r (r := 8) (by omega), setC_r (r := 9) (by omega), setC_r (r := 10) (by omega), setC_r (r := 11) (by omega), e (b + 5) (by omega) (by omega), e (b + 6) (by omega) (by omega), e (b + 7) (by omega) (by omega), e (b + 8) (by omega) (by omega), e (b + 9) (by omega) (by omega), e (b + 10) (by omega) (by omega), e (b + 11) (by omega) (by omega)]
    intro i hi
    refine ⟨?_, (h1 i hi).2⟩
    intro j hj
    rw [setC_r (by omega)]
    exact (h1 i hi).1 j hj
  · unfold RcP
    rw [setC_r (r := 14) (by omega), setC_r (r := 15) (by omega), setC_r (r := 16) (by omega), e (b + 15) (by omega) (by omega), e (b + 16) (by omega) (by omega), e (b + 17) (by omega) (by omega), e (b + 18) (by omega) (by omega)]
    intro p hp
    refine ⟨?_, (h2 p hp).2⟩
    intro j hj
    rw [setC_r (by omega)]
    exact (h2 p hp).1 j hj
  · unfold RcS
    rw [setC_r (r := 17) (by omega), setC_7, s5, s4, setC_18 (c := 0) (by decide), setC_18 (c := 1) (by decide), setC_18 (c := 2) (by decide), setC_18 (c := 3) (by decide), setC_18 (c := 6) (by decide), setC_18 (c := 8) (by decide), e (b + 2) (by omega) (by omega), e (b + 19) (by omega) (by omega), e b (by omega) (by omega), e (b + 3) (by omega) (by omega)]
    obtain ⟨a0, a1, a2, a3, a4, a5, a6, a7, a8, a9⟩ := h3
    exact ⟨a0, a1, a2, a3, a4, a5, a6, a7, hq.1, a9⟩
  · unfold RcC
    rw [setC_7, show setC V N W 19 = W 0 from setC_w (r := 0) (by decide), show setC V N W 20 = W 1 from setC_w (r := 1) (by decide), show setC V N W 21 = W 2 from setC_w (r := 2) (by decide)]
    exact hq.2
  · unfold RcH
    rw [s5, s4, e (b + 12) (by omega) (by omega)]
    intro i t hi q1 q2
    rw [setC_r (by omega)]
    exact h5 i t hi q1 q2
theorem rc_setC {b N : Nat} {V W : Sh} {σ σ' : Mem} (h : Rc b V σ) (ho : Only [b + 20, b + 21, b + 22, b + 23] σ σ') (hq : Cq (b + 20) N W σ') : Rc b (setC V N W) σ' := rc_setC' h (fun a q1 q2 => ho a (by simp; omega)) hq
theorem rr_setC {V W : Sh} {N : Nat} {f f' : Nat → Int32} (h : RrA V f) (hM : V 18 5 ≤ 12) (hl : ∀ a, a < 940 → f' a = f a) (h0 : f' 940 = nI N) (hr : Cr N W f') : RrA (setC V N W) f' := by
  unfold RrA
  have s5 : setC V N W 18 5 = V 18 5 := setC_18 (by decide)
  have s4 : setC V N W 18 4 = V 18 4 := setC_18 (by decide)
  rw [s5, s4, setC_7]
  obtain ⟨h1, h2, h3, h4, h5, h6⟩ := h
  refine ⟨?_, ?_, ?_, ?_, ?_, ?_⟩
  · intro i hi j hj
    rw [hl _ (by omega), setC_r (by omega)]
    exact h1 i hi j hj
  · intro p hp j hj
    rw [hl _ (by omega), setC_r (by omega)]
    exact h2 p hp j hj
  · intro j hj
    rw [hl _ (by omega), setC_r (by omega)]
    exact h3 j hj
  · intro j hj
    by_cases e : j = 7
    · subst e
      rw [setC_7]
      exact h0
    · rw [hl _ (by omega), setC_18 e]
      exact h4 j hj
  · intro k hk c hc
    rw [setC_w hc]
    exact hr k hk c hc
  · intro i t hi q1 q2
    rw [hl _ (by omega), setC_r (by omega)]
    exact h6 i t hi q1 q2
theorem vok_setC {V W : Sh} {N : Nat} (hV : Vok V) (hN : N ≤ 60) (hW : ∀ k, k < N → W 0 k ≤ 100000 ∧ W 1 k ≤ 4095 ∧ W 2 k ≤ 1000) (hs : ∀ k, k + 1 < N → W 0 k ≤ W 0 (k + 1)) : Vok (setC V N W) := by
  obtain ⟨h1, h2, h3, h4, h5⟩ := hV
  have s5 : setC V N W 18 5 = V 18 5 := setC_18 (by decide)
  have s4 : setC V N W 18 4 = V 18 4 := setC_18 (by decide)
  refine ⟨?_, ?_, ?_, ?_, ?_⟩
  · unfold VokN
    rw [s5, setC_r (r := 0) (by omega), setC_r (r := 1) (by omega), setC_r (r := 2) (by omega), setC_r (r := 3) (by omega), setC_r (r := 4) (by omega), setC_r (r := 5) (by omega), setC_r (r := 6) (by omega), setC_r (r := 7) (by omega), setC_r (r := 8) (by omega), setC_r (r := 9) (by omega), setC_r (r := 10) (by omega), setC_r (r := 11) (by omega)]
    exact h1
  · unfold VokP
    rw [s4, setC_r (r := 12) (by omega), setC_r (r := 13) (by omega), setC_r (r := 14) (by omega), setC_r (r := 15) (by omega), setC_r (r := 16) (by omega)]
    exact h2
  · unfold VokS at h3 ⊢
    rw [setC_r (r := 17) (by omega), setC_7, s5, s4, setC_18 (c := 0) (by decide), setC_18 (c := 1) (by decide), setC_18 (c := 2) (by decide), setC_18 (c := 3) (by decide), setC_18 (c := 6) (by decide), setC_18 (c := 8) (by decide)]
    omega
  · unfold VokC
    rw [setC_7, show setC V N W 19 = W 0 from setC_w (r := 0) (by decide), show setC V N W 20 = W 1 from setC_w (r := 1) (by decide), show setC V N W 21 = W 2 from setC_w (r := 2) (by decide)]
    exact ⟨hW, hs⟩
  · unfold VokH
    rw [s5, s4]
    intro t i ht hi
    rw [setC_r (by omega)]
    exact h5 t i ht hi
/-- a list is in order and in range -/
def Wok (N : Nat) (W : Sh) : Prop := (∀ k, k < N → W 0 k ≤ 100000 ∧ W 1 k ≤ 4095 ∧ W 2 k ≤ 1000) ∧ ∀ k, k + 1 < N → W 0 k ≤ W 0 (k + 1)
theorem wok_V {V : Sh} (hV : Vok V) : Wok (V 18 7) (cuesV V) := hV.2.2.2.1
theorem Wok.le {N : Nat} {W : Sh} (h : Wok N W) : ∀ j, j < N → W 0 j < 2 ^ 30 := fun j hj => by have := (h.1 j hj).1; omega
theorem wok_ins {N j t s v : Nat} {W : Sh} (h : Wok N W) (hj : NextIs N (W 0) (t + 1) j) (ht : t ≤ 100000) (hs : s ≤ 4095) (hv : v ≤ 1000) : Wok (N + 1) (insW W j t s v) := by
  obtain ⟨j1, j2, j3⟩ := hj
  refine ⟨?_, ?_⟩
  · intro k hk
    unfold insW
    by_cases q : k < j
    · rw [if_pos q, if_pos q, if_pos q]; exact h.1 k (by omega)
    · by_cases q2 : k = j
      · rw [if_neg q, if_pos q2, if_neg q, if_pos q2, if_neg q, if_pos q2]; exact ⟨ht, hs, hv⟩
      · rw [if_neg q, if_neg q2, if_neg q, if_neg q2, if_neg q, if_neg q2]; exact h.1 (k - 1) (by omega)
  · intro k hk
    unfold insW
    by_cases q : k < j
    · rw [if_pos q]
      have a := j2 k q
      by_cases q2 : k + 1 < j
      · rw [if_pos q2]; exact h.2 k (by omega)
      · rw [if_neg q2, if_pos (by omega), if_pos rfl]; omega
    · rw [if_neg q, if_neg (c := k + 1 < j) (by omega), if_neg (c := k + 1 = j) (by omega), show k + 1 - 1 = k by omega]
      by_cases q2 : k = j
      · rw [if_pos q2, if_pos rfl]
        subst q2
        have := j3 (by omega)
        omega
      · rw [if_neg q2]
        have := h.2 (k - 1) (by omega)
        rw [show k - 1 + 1 = k by omega] at this
        exact this
theorem wok_out {N a : Nat} {W : Sh} (h : Wok N W) (ha : a < N) : Wok (N - 1) (outW W a) := by
  refine ⟨?_, ?_⟩
  · intro k hk
    unfold outW
    by_cases q : k < a
    · rw [if_pos q, if_pos q, if_pos q]; exact h.1 k (by omega)
    · rw [if_neg q, if_neg q, if_neg q]; exact h.1 (k + 1) (by omega)
  · intro k hk
    unfold outW
    by_cases q : k < a
    · rw [if_pos q]
      have a1 := h.2 k (by omega)
      by_cases q2 : k + 1 < a
      · rw [if_pos q2]; exact a1
      · rw [if_neg q2]; exact Nat.le_trans a1 (h.2 (k + 1) (by omega))
    · rw [if_neg q, if_neg (by omega)]
      exact h.2 (k + 1) (by omega)
theorem Fr_cues {b : Nat} {σ σ' : Mem} (h : Only [b + 20, b + 21, b + 22, b + 23] σ σ') : Fr b σ σ' := ⟨fun a ha => h a (by simp; omega), h _ (by simp), h _ (by simp), h _ (by simp)⟩
theorem op_cue {n : Nat} (hn : 60 < n) {σ : Mem} (h : Inv σ) (x y z : Int32) : Sim (f_X8_cue n σ 0 x y z) (fun σ => f_X9_cue n σ 105 x y z) := by
  have hh := h
  obtain ⟨⟨V, hV, hT, hc, hr⟩, ht, hs, -⟩ := h
  have hS := hV.2.2.1
  unfold VokS at hS
  have r7 : σ 106 940 = nI (V 18 7) := (rr_sets hr).2.2.2.2.2.2.2.2.2.2.2.2.2
  have hq := rc_cq hc
  unfold f_X8_cue
  rw [p00, P0_4 SB1, in_X8, bnd_s, in_X8, bnd_s, in_X8, bnd_s]
  by_cases c1 : (0 : Int32) ≤ x ∧ x ≤ 100000
  · rw [if_pos c1, if10]
    by_cases c2 : (1 : Int32) ≤ y ∧ y ≤ 4095
    · rw [if_pos c2, if10]
      by_cases c3 : (0 : Int32) ≤ z ∧ z ≤ 1000
      · rw [if_pos c3, if10]
        have c23 := And.intro c2 c3
        obtain ⟨t, t1, rfl⟩ := of_in (m := 100000) (by decide) c1
        obtain ⟨s, s1, s2, rfl⟩ := of_rng (a := 1) (b := 4095) (by decide) c2 (by decide)
        obtain ⟨v, v1, rfl⟩ := of_in (m := 1000) (by decide) c3
        by_cases c4 : V 18 7 < 60
        · obtain ⟨q1, j, e1, j1, a1, a2, a3⟩ := insert_ok (n := n) (t := t) (s := s) (v := v) (CB_b SB1) hq c4 hn (by omega) (wok_V hV).le
          rw [e1, bnd2_s]
          refine ⟨_, rfl, ?_⟩
          dsimp only
          have F1 := Fr_cues a3
          have g6 : q1.2 106 = σ 106 := F1.1 106 (by omega)
          have R1 := rc_setC hc a3 a2
          unfold f_X9_cue
          rw [in_X9, bnd_s, if_pos c1, if10, isCmd, bnd_s, if_pos c23, if10, PM0, AM0, show ckI 940 1121 = true from rfl, chk_t, show ix 940 = 940 from rfl, g6, r7, if_neg (c := nI (V 18 7) = 60) (ne_nI (m := 60) c4 (by decide))]
          obtain ⟨q2, j', e2, j2, b1, b2, b3, b4, b5⟩ := insert9_ok (σ := q1.2) (n := n) (t := t) (s := s) (v := v) (by rw [g6]; exact r7) (by rw [g6]; exact rr_cr hr) c4 hn (by omega) (wok_V hV).le (wok_V hV).2
          have := next_u j1 j2
          subst this
          rw [e2, bnd2_s]
          refine ⟨_, rfl, by rw [a1, b1], ?_⟩
          have wo := wok_ins (wok_V hV) j1 t1 s2 v1
          exact Inv_next hh F1 b4 (vok_setC hV (by omega) wo.1 wo.2) (by rw [setC_18 (by decide)]; exact hT) R1 (rr_setC hr hS.2.2.2.2.2.2.2.2.2.2.2.1.2 (fun a ha => by rw [b5 a ha, g6]) b2 b3)
        · have : V 18 7 = 60 := by omega
          have e1 : f_X0_insert n σ (1 + 20) (nI t) (nI s) (nI v) = some ((-4), σ) := by
            unfold f_X0_insert
            rw [hq.1, this, if_neg (by decide)]
          rw [e1, bnd2_s]
          refine Sim_err hh rfl ?_
          unfold f_X9_cue
          rw [in_X9, bnd_s, if_pos c1, if10, isCmd, bnd_s, if_pos c23, if10, PM0, AM0, show ckI 940 1121 = true from rfl, chk_t, show ix 940 = 940 from rfl, r7, this, if_pos (c := nI 60 = 60) rfl]
      · rw [if_neg c3, if00]
        refine Sim_err hh rfl ?_
        unfold f_X9_cue
        rw [in_X9, bnd_s, if_pos c1, if10, isCmd, bnd_s, if_neg (c := (1 ≤ y ∧ y ≤ 4095) ∧ (0 ≤ z ∧ z ≤ 1000)) (fun q => c3 q.2), if00]
    · rw [if_neg c2, if00]
      refine Sim_err hh rfl ?_
      unfold f_X9_cue
      rw [in_X9, bnd_s, if_pos c1, if10, isCmd, bnd_s, if_neg (c := (1 ≤ y ∧ y ≤ 4095) ∧ (0 ≤ z ∧ z ≤ 1000)) (fun q => c2 q.1), if00]
  · rw [if_neg c1, if00]
    refine Sim_err hh rfl ?_
    unfold f_X9_cue
    rw [in_X9, bnd_s, if_neg c1, if00]
theorem op_remove {n : Nat} (hn : 60 < n) {σ : Mem} (h : Inv σ) (x : Int32) : Sim (f_X8_remove σ 0 x) (fun σ => f_X9_remove n σ 105 x) := by
  have hh := h
  obtain ⟨⟨V, hV, hT, hc, hr⟩, ht, hs, -⟩ := h
  have hS := hV.2.2.1
  unfold VokS at hS
  have r7 : σ 106 940 = nI (V 18 7) := (rr_sets hr).2.2.2.2.2.2.2.2.2.2.2.2.2
  have hq := rc_cq hc
  unfold f_X8_remove
  rw [p00, P0_4 SB1, hasC_c hq.1, bnd_s]
  by_cases c : 0 ≤ x ∧ x ≤ nI (V 18 7) - 1
  · obtain ⟨a, ha, rfl⟩ := of_m (by omega) c
    rw [if_pos c, if10]
    obtain ⟨σ1, e1, a1, a2⟩ := takeOut_ok (CB_b SB1) hq (by omega) ha
    rw [e1, bnd_s]
    refine ⟨_, rfl, ?_⟩
    dsimp only
    have F1 := Fr_cues a2
    have g6 : σ1 106 = σ 106 := F1.1 106 (by omega)
    have R1 := rc_setC hc a2 a1
    unfold f_X9_remove
    rw [hasC_r (by rw [g6]; exact r7), bnd_s, if_pos c, if10]
    obtain ⟨σ2, e2, b1, b2, b3, b4⟩ := takeOut9_ok (σ := σ1) (n := n) (by rw [g6]; exact r7) (by rw [g6]; exact rr_cr hr) (by omega) hn ha
    rw [e2, bnd_s, PM0, AM0, show ckI 940 1121 = true from rfl, chk_t, show ix 940 = 940 from rfl, b1]
    refine ⟨_, rfl, ?_, ?_⟩
    · dsimp only
      rw [a1.1]
    · have wo := wok_out (wok_V hV) ha
      exact Inv_next hh F1 b3 (vok_setC hV (by omega) wo.1 wo.2) (by rw [setC_18 (by decide)]; exact hT) R1 (rr_setC hr hS.2.2.2.2.2.2.2.2.2.2.2.1.2 (fun a ha => (b4 a ha).trans (by rw [g6])) b1 b2)
  · rw [if_neg c, if00]
    refine Sim_err hh rfl ?_
    unfold f_X9_remove
    rw [hasC_r r7, bnd_s, if_neg c, if00]
/-- a cue later by some, at most to 100000; in a show at b, and in the reference's row -/
def movW (W : Sh) (a t j : Nat) : Sh := insW (outW W a) j t (W 1 a) (W 2 a)
theorem postpone_ok {k N a t n : Nat} {W : Sh} {σ : Mem} {y : Int32} (hk : CB k) (h : Cq k N W σ) (hN : N ≤ 60) (hn : 60 < n) (ha : a < N) (ht : nI (W 0 a) + y = nI t) (ht2 : t ≤ 100000) (hW : Wok N W) : ∃ q j, f_X0_postpone n σ k (nI a) y = some q ∧ NextIs (N - 1) (outW W a 0) (t + 1) j ∧ q.1 = nI j ∧ Cq k N (movW W a t j) q.2 ∧ Only [k, k + 1, k + 2, k + 3] σ q.2 := by
  obtain ⟨σ1, e1, a1, a2⟩ := takeOut_ok hk h hN ha
  obtain ⟨q, j, e2, j1, b1, b2, b3⟩ := insert_ok (n := n) (t := t) (s := W 1 a) (v := W 2 a) hk a1 (by omega) hn (by omega) (wok_out hW ha).le
  obtain ⟨d1, d2, d3⟩ := h.2 a ha
  refine ⟨q, j, ?_, j1, b1, ?_, ?_⟩
  · unfold f_X0_postpone
    obtain ⟨p0, p1, p2, l0, l1, l2⟩ := hk
    rw [p0, p1, p2, l0, l1, l2, ckI_nI (by omega) (by decide), ix_nI (by omega), d1, d2, d3, ht]
    simp only [chk_t, nm]
    rw [e1, bnd_s, e2, bnd2_s]
  · rw [show N - 1 + 1 = N by omega] at b2
    exact b2
  · intro x hx
    rw [b3 x hx, a2 x hx]
theorem shift9_ok {N a t n : Nat} {W : Sh} {σ : Mem} {y : Int32} (h0 : σ 106 940 = nI N) (h : Cr N W (σ 106)) (hN : N ≤ 60) (hn : 60 < n) (ha : a < N) (ht : nI (W 0 a) + y = nI t) (ht2 : t ≤ 100000) (hW : Wok N W) : ∃ q j, f_X9_shift n σ 105 (nI a) y = some q ∧ NextIs (N - 1) (outW W a 0) (t + 1) j ∧ q.1 = nI j ∧ q.2 106 940 = nI N ∧ Cr N (movW W a t j) (q.2 106) ∧ Only [106] σ q.2 ∧ ∀ a, a < 940 → q.2 106 a = σ 106 a := by
  obtain ⟨σ1, e1, a1, a2, a3, a4⟩ := takeOut9_ok (n := n) h0 h hN hn ha
  obtain ⟨q, j, e2, j1, b1, b2, b3, b4, b5⟩ := insert9_ok (n := n) (t := t) (s := W 1 a) (v := W 2 a) a1 a2 (by omega) hn (by omega) (wok_out hW ha).le (wok_out hW ha).2
  refine ⟨q, j, ?_, j1, b1, ?_, ?_, a3.one b4, fun x hx => (b5 x hx).trans (a4 x hx)⟩
  · unfold f_X9_shift
    rw [cue9_0 (by omega), cue9_1 (by omega), cue9_2 (by omega), bnd_s]
    unfold nm
    dsimp only
    rw [bnd_s, bnd_s, h a ha 0 (by decide), h a ha 1 (by decide), h a ha 2 (by decide), ht]
    rw [e1, bnd_s, e2, bnd2_s]
  · rw [show N - 1 + 1 = N by omega] at b2
    exact b2
  · rw [show N - 1 + 1 = N by omega] at b3
    exact b3
theorem wok_mov {N a t j : Nat} {W : Sh} (hW : Wok N W) (ha : a < N) (ht : t ≤ 100000) (hj : NextIs (N - 1) (outW W a 0) (t + 1) j) : Wok N (movW W a t j) := by
  have := wok_ins (wok_out hW ha) hj ht (hW.1 a ha).2.1 (hW.1 a ha).2.2
  rw [show N - 1 + 1 = N by omega] at this
  exact this
theorem op_move {n : Nat} (hn : 60 < n) {σ : Mem} (h : Inv σ) (x y : Int32) : Sim (f_X8_move n σ 0 x y) (fun σ => f_X9_move n σ 105 x y) := by
  have hh := h
  obtain ⟨⟨V, hV, hT, hc, hr⟩, ht, hs, -⟩ := h
  have hS := hV.2.2.1
  unfold VokS at hS
  have r7 : σ 106 940 = nI (V 18 7) := (rr_sets hr).2.2.2.2.2.2.2.2.2.2.2.2.2
  have hq := rc_cq hc
  have hk := CB_b SB1
  have hc9 := rr_cr hr
  unfold f_X8_move
  rw [p00, P0_4 SB1, hasC_c hq.1, bnd_s]
  by_cases c : 0 ≤ x ∧ x ≤ nI (V 18 7) - 1
  · obtain ⟨a, ha, rfl⟩ := of_m (by omega) c
    have d1 := (hq.2 a ha).1
    rw [if_pos c, if10, in_X8, bnd_s]
    by_cases c1 : (-100000 : Int32) ≤ y ∧ y ≤ 100000
    · rw [if_pos c1, if10, hk.1, hk.2.2.2.1, ckI_nI (by omega) (by decide), chk_t, ix_nI (by omega), d1, in_X8, bnd_s]
      by_cases c2 : 0 ≤ nI (cuesV V 0 a) + y ∧ nI (cuesV V 0 a) + y ≤ 100000
      · rw [if_pos c2, if10]
        obtain ⟨t, t1, t2⟩ := of_in (m := 100000) (by decide) c2
        obtain ⟨q1, j, e1, j1, a1, a2, a3⟩ := postpone_ok (n := n) hk hq (by omega) hn ha t2 t1 (wok_V hV)
        rw [e1, bnd2_s]
        refine ⟨_, rfl, ?_⟩
        dsimp only
        have F1 := Fr_cues a3
        have g6 : q1.2 106 = σ 106 := F1.1 106 (by omega)
        have R1 := rc_setC hc a3 a2
        unfold f_X9_move
        rw [hasC_r (by rw [g6]; exact r7), bnd_s, if_pos c, if10, in_X9, bnd_s, if_pos c1, if10, cue9_0 (by omega), bnd_s, g6, hc9 a ha 0 (by decide), in_X9, bnd_s, if_pos c2, if10]
        obtain ⟨q2, j', e2, j2, b1, b2, b3, b4, b5⟩ := shift9_ok (σ := q1.2) (n := n) (by rw [g6]; exact r7) (by rw [g6]; exact hc9) (by omega) hn ha t2 t1 (wok_V hV)
        have := next_u j1 j2
        subst this
        rw [e2, bnd2_s]
        refine ⟨_, rfl, by rw [a1, b1], ?_⟩
        have wo := wok_mov (wok_V hV) ha t1 j1
        exact Inv_next hh F1 b4 (vok_setC hV (by omega) wo.1 wo.2) (by rw [setC_18 (by decide)]; exact hT) R1 (rr_setC hr hS.2.2.2.2.2.2.2.2.2.2.2.1.2 (fun a ha => by rw [b5 a ha, g6]) b2 b3)
      · rw [if_neg c2, if00]
        refine Sim_err hh rfl ?_
        unfold f_X9_move
        rw [hasC_r r7, bnd_s, if_pos c, if10, in_X9, bnd_s, if_pos c1, if10, cue9_0 (by omega), bnd_s, hc9 a ha 0 (by decide), in_X9, bnd_s, if_neg c2, if00]
    · rw [if_neg c1, if00]
      refine Sim_err hh rfl ?_
      unfold f_X9_move
      rw [hasC_r r7, bnd_s, if_pos c, if10, in_X9, bnd_s, if_neg c1, if00]
  · rw [if_neg c, if00]
    refine Sim_err hh rfl ?_
    unfold f_X9_move
    rw [hasC_r r7, bnd_s, if_neg c, if00]
theorem op_state {n : Nat} (hn : 60 < n) {σ : Mem} (h : Inv σ) (x : Int32) : ∃ r, f_X8_state n σ 0 x = some r ∧ f_X9_state n σ 105 x = some r := by
  obtain ⟨⟨V, hV, hT, hc, hr⟩, ht, hs, ⟨L, cc, hL, l1, l2, -⟩, -⟩ := h
  have hS := hV.2.2.1
  unfold VokS at hS
  obtain ⟨s0, s1, s2, s3, s4, s5, s6, s7, s8, s9⟩ := hc.2.2.1
  obtain ⟨y0, y1, y2, y3, y4, y5, z0, z1, z2, z3, z4, z5, z6, z7⟩ := rr_sets hr
  unfold f_X8_state f_X9_state f_X7_measured
  rw [p00, p04, P0_1 SB1, P0_3 SB1, P0_4 SB1, P0_0 SB1, in_X9, bnd_s, in_X8, bnd_s, bnd_s, PM0, AM0, show ckI 937 1121 = true from rfl, show ckI 938 1121 = true from rfl, show ckI 940 1121 = true from rfl, show ckI 933 1121 = true from rfl, show ckI 934 1121 = true from rfl, show ckI 935 1121 = true from rfl, show ckI 936 1121 = true from rfl, show ckI 939 1121 = true from rfl, show ix 937 = 937 from rfl, show ix 938 = 938 from rfl, show ix 940 = 940 from rfl, show ix 933 = 933 from rfl, show ix 934 = 934 from rfl, show ix 935 = 935 from rfl, show ix 936 = 936 from rfl, show ix 939 = 939 from rfl, s1, s2, s3, s4, s5, s6, s7, s8, z0, z1, z2, z3, z4, z5, z6, z7, l1, l2]
  simp only [chk_t]
  by_cases q : (10 : Int32) ≤ x ∧ x ≤ 15
  · obtain ⟨w, w1, w2, rfl⟩ := of_rng (a := 10) (b := 15) (by decide) q (by decide)
    have ng : ∀ m, m < 10 → ¬ nI w = nI m := fun m hm e => by have := nI_inj (by omega) (by omega) e; omega
    rw [if_pos q, if10, if10, if_neg (c := nI w = 0) (ng 0 (by decide)), if_neg (c := nI w = 1) (ng 1 (by decide)), if_neg (c := nI w = 2) (ng 2 (by decide)), if_neg (c := nI w = 3) (ng 3 (by decide)), if_neg (c := nI w = 4) (ng 4 (by decide)), if_neg (c := nI w = 5) (ng 5 (by decide)), if_neg (c := nI w = 6) (ng 6 (by decide)), if_neg (c := nI w = 7) (ng 7 (by decide)), if_neg (c := nI w = 8) (ng 8 (by decide)), if_neg (c := nI w = 9) (ng 9 (by decide)), show (10 : Int32) = nI 10 from rfl, show (927 : Int32) = nI 927 from rfl, nI_add, nI_sub (by omega), nI_sub (by omega), val_show SB1 (j := w - 10) (by omega), bnd_s, ckI_nI (by omega) (by decide), chk_t, ix_nI (by omega), s0 (w - 10) (by omega), show 927 + w - 10 = 927 + (w - 10) by omega, hr.2.2.1 (w - 10) (by omega)]
    exact ⟨_, rfl, rfl⟩
  · rw [if_neg q, if00, if00]
    by_cases e0 : x = 0
    · rw [if_pos e0, if_pos e0]; exact ⟨_, rfl, rfl⟩
    rw [if_neg e0, if_neg e0]
    by_cases e0 : x = 1
    · rw [if_pos e0, if_pos e0]; exact ⟨_, rfl, rfl⟩
    rw [if_neg e0, if_neg e0]
    by_cases e0 : x = 2
    · rw [if_pos e0, if_pos e0]; exact ⟨_, rfl, rfl⟩
    rw [if_neg e0, if_neg e0]
    by_cases e0 : x = 3
    · rw [if_pos e0, if_pos e0]; exact ⟨_, rfl, rfl⟩
    rw [if_neg e0, if_neg e0]
    by_cases e0 : x = 4
    · rw [if_pos e0, if_pos e0]; exact ⟨_, rfl, rfl⟩
    rw [if_neg e0, if_neg e0]
    by_cases e0 : x = 5
    · rw [if_pos e0, if_pos e0]; exact ⟨_, rfl, rfl⟩
    rw [if_neg e0, if_neg e0]
    by_cases e0 : x = 6
    · rw [if_pos e0, if_pos e0]; exact ⟨_, rfl, rfl⟩
    rw [if_neg e0, if_neg e0]
    by_cases e0 : x = 7
    · rw [if_pos e0, if_pos e0]; exact ⟨_, rfl, rfl⟩
    rw [if_neg e0, if_neg e0]
    by_cases e0 : x = 8
    · rw [if_pos e0, if_pos e0]
      obtain ⟨j, j1, e1⟩ := next_ok (n := n) (t := V 18 4) (CB_b SB1) (rc_cq hc) (by omega) hn (by omega) (wok_V hV).le
      obtain ⟨j', j2, e2⟩ := next9_ok (n := n) z7 z4 (rr_cr hr) (by omega) hn (by omega) (wok_V hV).le
      have := next_u j1 j2
      subst this
      rw [e1, e2, bnd_s]
      exact ⟨_, rfl, rfl⟩
    rw [if_neg e0, if_neg e0]
    by_cases e0 : x = 9
    · rw [if_pos e0]; exact ⟨_, rfl, rfl⟩
    rw [if_neg e0]; exact ⟨_, rfl, rfl⟩
