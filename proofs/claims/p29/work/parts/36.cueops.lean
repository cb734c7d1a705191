/-! a show with another list of cues -/
def setC (V : Sh) (N : Nat) (W : Sh) : Sh := fun r c => if r = 18 ∧ c = 7 then N else if 19 ≤ r ∧ r ≤ 21 then W (r - 19) c else V r c
def cuesV (V : Sh) : Sh := fun r => V (19 + r)
theorem setC_7 (V : Sh) (N : Nat) (W : Sh) : setC V N W 18 7 = N := by unfold setC; rw [if_pos ⟨rfl, rfl⟩]
theorem setC_w {V : Sh} {N : Nat} {W : Sh} {r : Nat} (h : r < 3) : setC V N W (19 + r) = W r := by
  funext c
  unfold setC
  rw [if_neg (by omega), if_pos (by omega), show 19 + r - 19 = r by omega]
theorem setC_r {V : Sh} {N : Nat} {W : Sh} {r : Nat} (h : r < 18 ∨ 21 < r) : setC V N W r = V r := by
  funext c
  unfold setC
  rw [if_neg (by omega), if_neg (by omega)]
theorem setC_18 {V : Sh} {N : Nat} {W : Sh} {c : Nat} (h : c ≠ 7) : setC V N W 18 c = V 18 c := by
  unfold setC
  rw [if_neg (by omega), if_neg (by omega)]
theorem rc_cq {b : Nat} {V : Sh} {σ : Mem} (h : Rc b V σ) : Cq (b + 20) (V 18 7) (cuesV V) σ := ⟨h.2.2.1.2.2.2.2.2.2.2.2.1, fun j hj => h.2.2.2.1 j hj⟩
theorem rc_setC' {b N : Nat} {V W : Sh} {σ σ' : Mem} (h : Rc b V σ) (e : ∀ a, b ≤ a → a < b + 20 → σ' a = σ a) (hq : Cq (b + 20) N W σ') : Rc b (setC V N W) σ' := by
  obtain ⟨h1, h2, h3, h4, h5⟩ := h
  have s5 : setC V N W 18 5 = V 18 5 := setC_18 (by decide)
  have s4 : setC V N W 18 4 = V 18 4 := setC_18 (by decide)
  refine ⟨?_, ?_, ?_, ?_, ?_⟩
  · unfold RcN
    rw [s5, setC_r (r := 6) (by omega), setC_r (r := 7) (by omega), setC_r (r := 8) (by omega), setC_r (r := 9) (by omega), setC_r (r := 10) (by omega), setC_r (r := 11) (by omega), e (b + 5) (by omega) (by omega), e (b + 6) (by omega) (by omega), e (b + 7) (by omega) (by omega), e (b + 8) (by omega) (by omega), e (b + 9) (by omega) (by omega), e (b + 10) (by omega) (by omega), e (b + 11) (by omega) (by omega)]
    intro i hi
    refine ⟨?_, (h1 i hi).2⟩
    intro j hj
    rw [setC_r (by omega)]
    exact (h1 i hi).1 j hj
  · unfold RcP
    rw [setC_r (r := 14) (by omega), setC_r (r := 15) (by omega), setC_r (r := 16) (by omega), e (b + 15) (by omega) (by omega), e (b + 16) (by omega) (by omega), e (b + 17) (by omega) (by omega), e (b + 18) (by omega) (by omega)]
    intro p hp
    refine ⟨?_, (h2 p hp).2⟩
    intro j hj
    rw [setC_r (by omega)]
    exact (h2 p hp).1 j hj
  · unfold RcS
    rw [setC_r (r := 17) (by omega), setC_7, s5, s4, setC_18 (c := 0) (by decide), setC_18 (c := 1) (by decide), setC_18 (c := 2) (by decide), setC_18 (c := 3) (by decide), setC_18 (c := 6) (by decide), setC_18 (c := 8) (by decide), e (b + 2) (by omega) (by omega), e (b + 19) (by omega) (by omega), e b (by omega) (by omega), e (b + 3) (by omega) (by omega)]
    obtain ⟨a0, a1, a2, a3, a4, a5, a6, a7, a8, a9⟩ := h3
    exact ⟨a0, a1, a2, a3, a4, a5, a6, a7, hq.1, a9⟩
  · unfold RcC
    rw [setC_7, show setC V N W 19 = W 0 from setC_w (r := 0) (by decide), show setC V N W 20 = W 1 from setC_w (r := 1) (by decide), show setC V N W 21 = W 2 from setC_w (r := 2) (by decide)]
    exact hq.2
  · unfold RcH
    rw [s5, s4, e (b + 12) (by omega) (by omega)]
    intro i t hi q1 q2
    rw [setC_r (by omega)]
    exact h5 i t hi q1 q2
theorem rc_setC {b N : Nat} {V W : Sh} {σ σ' : Mem} (h : Rc b V σ) (ho : Only [b + 20, b + 21, b + 22, b + 23] σ σ') (hq : Cq (b + 20) N W σ') : Rc b (setC V N W) σ' := rc_setC' h (fun a q1 q2 => ho a (by simp; omega)) hq
theorem vok_setC {V W : Sh} {N : Nat} (hV : Vok V) (hN : N ≤ 60) (hW : ∀ k, k < N → W 0 k ≤ 100000 ∧ W 1 k ≤ 4095 ∧ W 2 k ≤ 1000) (hs : ∀ k, k + 1 < N → W 0 k ≤ W 0 (k + 1)) : Vok (setC V N W) := by
  obtain ⟨h1, h2, h3, h4, h5⟩ := hV
  have s5 : setC V N W 18 5 = V 18 5 := setC_18 (by decide)
  have s4 : setC V N W 18 4 = V 18 4 := setC_18 (by decide)
  refine ⟨?_, ?_, ?_, ?_, ?_⟩
  · unfold VokN
    rw [s5, setC_r (r := 0) (by omega), setC_r (r := 1) (by omega), setC_r (r := 2) (by omega), setC_r (r := 3) (by omega), setC_r (r := 4) (by omega), setC_r (r := 5) (by omega), setC_r (r := 6) (by omega), setC_r (r := 7) (by omega), setC_r (r := 8) (by omega), setC_r (r := 9) (by omega), setC_r (r := 10) (by omega), setC_r (r := 11) (by omega)]
    exact h1
  · unfold VokP
    rw [s4, setC_r (r := 12) (by omega), setC_r (r := 13) (by omega), setC_r (r := 14) (by omega), setC_r (r := 15) (by omega), setC_r (r := 16) (by omega)]
    exact h2
  · unfold VokS at h3 ⊢
    rw [setC_r (r := 17) (by omega), setC_7, s5, s4, setC_18 (c := 0) (by decide), setC_18 (c := 1) (by decide), setC_18 (c := 2) (by decide), setC_18 (c := 3) (by decide), setC_18 (c := 6) (by decide), setC_18 (c := 8) (by decide)]
    omega
  · unfold VokC
    rw [setC_7, show setC V N W 19 = W 0 from setC_w (r := 0) (by decide), show setC V N W 20 = W 1 from setC_w (r := 1) (by decide), show setC V N W 21 = W 2 from setC_w (r := 2) (by decide)]
    exact ⟨hW, hs⟩
  · unfold VokH
    rw [s5, s4]
    intro t i ht hi
    rw [setC_r (by omega)]
    exact h5 t i ht hi
/-- a list is in order and in range -/
def Wok (N : Nat) (W : Sh) : Prop := (∀ k, k < N → W 0 k ≤ 100000 ∧ W 1 k ≤ 4095 ∧ W 2 k ≤ 1000) ∧ ∀ k, k + 1 < N → W 0 k ≤ W 0 (k + 1)
theorem wok_V {V : Sh} (hV : Vok V) : Wok (V 18 7) (cuesV V) := hV.2.2.2.1
theorem Wok.le {N : Nat} {W : Sh} (h : Wok N W) : ∀ j, j < N → W 0 j < 2 ^ 30 := fun j hj => by have := (h.1 j hj).1; omega
theorem wok_ins {N j t s v : Nat} {W : Sh} (h : Wok N W) (hj : NextIs N (W 0) (t + 1) j) (ht : t ≤ 100000) (hs : s ≤ 4095) (hv : v ≤ 1000) : Wok (N + 1) (insW W j t s v) := by
  obtain ⟨j1, j2, j3⟩ := hj
  refine ⟨?_, ?_⟩
  · intro k hk
    unfold insW
    by_cases q : k < j
    · rw [if_pos q, if_pos q, if_pos q]; exact h.1 k (by omega)
    · by_cases q2 : k = j
      · rw [if_neg q, if_pos q2, if_neg q, if_pos q2, if_neg q, if_pos q2]; exact ⟨ht, hs, hv⟩
      · rw [if_neg q, if_neg q2, if_neg q, if_neg q2, if_neg q, if_neg q2]; exact h.1 (k - 1) (by omega)
  · intro k hk
    unfold insW
    by_cases q : k < j
    · rw [if_pos q]
      have a := j2 k q
      by_cases q2 : k + 1 < j
      · rw [if_pos q2]; exact h.2 k (by omega)
      · rw [if_neg q2, if_pos (by omega), if_pos rfl]; omega
    · rw [if_neg q, if_neg (c := k + 1 < j) (by omega), if_neg (c := k + 1 = j) (by omega), show k + 1 - 1 = k by omega]
      by_cases q2 : k = j
      · rw [if_pos q2, if_pos rfl]
        subst q2
        have := j3 (by omega)
        omega
      · rw [if_neg q2]
        have := h.2 (k - 1) (by omega)
        rw [show k - 1 + 1 = k by omega] at this
        exact this
theorem wok_out {N a : Nat} {W : Sh} (h : Wok N W) (ha : a < N) : Wok (N - 1) (outW W a) := by
  refine ⟨?_, ?_⟩
  · intro k hk
    unfold outW
    by_cases q : k < a
    · rw [if_pos q, if_pos q, if_pos q]; exact h.1 k (by omega)
    · rw [if_neg q, if_neg q, if_neg q]; exact h.1 (k + 1) (by omega)
  · intro k hk
    unfold outW
    by_cases q : k < a
    · rw [if_pos q]
      have a1 := h.2 k (by omega)
      by_cases q2 : k + 1 < a
      · rw [if_pos q2]; exact a1
      · rw [if_neg q2]; exact Nat.le_trans a1 (h.2 (k + 1) (by omega))
    · rw [if_neg q, if_neg (by omega)]
      exact h.2 (k + 1) (by omega)
theorem Fr_cues {b : Nat} {σ σ' : Mem} (h : Only [b + 20, b + 21, b + 22, b + 23] σ σ') : Fr b σ σ' := ⟨fun a ha => h a (by simp; omega), h _ (by simp), h _ (by simp), h _ (by simp)⟩
/-- a cue later by some, at most to 100000; in a show at b, and in the reference's row -/
def movW (W : Sh) (a t j : Nat) : Sh := insW (outW W a) j t (W 1 a) (W 2 a)
theorem postpone_ok {k N a t n : Nat} {W : Sh} {σ : Mem} {y : Int32} (hk : CB k) (h : Cq k N W σ) (hN : N ≤ 60) (hn : 60 < n) (ha : a < N) (ht : nI (W 0 a) + y = nI t) (ht2 : t ≤ 100000) (hW : Wok N W) : ∃ q j, f_X0_postpone n σ k (nI a) y = some q ∧ NextIs (N - 1) (outW W a 0) (t + 1) j ∧ q.1 = nI j ∧ Cq k N (movW W a t j) q.2 ∧ Only [k, k + 1, k + 2, k + 3] σ q.2 := by
  obtain ⟨σ1, e1, a1, a2⟩ := takeOut_ok hk h hN ha
  obtain ⟨q, j, e2, j1, b1, b2, b3⟩ := insert_ok (n := n) (t := t) (s := W 1 a) (v := W 2 a) hk a1 (by omega) hn (by omega) (wok_out hW ha).le
  obtain ⟨d1, d2, d3⟩ := h.2 a ha
  refine ⟨q, j, ?_, j1, b1, ?_, ?_⟩
  · unfold f_X0_postpone
    obtain ⟨p0, p1, p2, l0, l1, l2⟩ := hk
    rw [p0, p1, p2, l0, l1, l2, ckI_nI (by omega) (by decide), ix_nI (by omega), d1, d2, d3, ht]
    simp only [chk_t, nm]
    rw [e1, bnd_s, e2, bnd2_s]
  · rw [show N - 1 + 1 = N by omega] at b2
    exact b2
  · intro x hx
    rw [b3 x hx, a2 x hx]
theorem wok_mov {N a t j : Nat} {W : Sh} (hW : Wok N W) (ha : a < N) (ht : t ≤ 100000) (hj : NextIs (N - 1) (outW W a 0) (t + 1) j) : Wok N (movW W a t j) := by
  have := wok_ins (wok_out hW ha) hj ht (hW.1 a ha).2.1 (hW.1 a ha).2.2
  rw [show N - 1 + 1 = N by omega] at this
  exact this
