/-! calls that change one setting -/
theorem vset_r {V : Sh} {r c v r' : Nat} (h : r' ≠ r) : vset V r c v r' = V r' := by funext c'; exact vset_n (by omega)
theorem gst_s2 {σ : Mem} {k j : Nat} {v : Int32} : gst σ k j v k j = v := by rw [gst_at, if_pos ⟨rfl, rfl⟩]
theorem gst_n2 {σ : Mem} {k j j' : Nat} {v : Int32} (h : j' ≠ j) : gst σ k j v k j' = σ k j' := by rw [gst_at, if_neg (fun q => h q.2)]
theorem Fr_gst {b k j : Nat} {σ : Mem} {v : Int32} (h1 : b ≤ k ∧ k < b + 24) (h2 : k ≠ b + 1 ∧ k ≠ b + 4 ∧ k ≠ b + 14) : Fr b σ (gst σ k j v) := ⟨fun a ha => gst_row (by omega), gst_row (by omega), gst_row (by omega), gst_row (by omega)⟩
theorem rc_noz {b : Nat} {V : Sh} {σ : Mem} {i j w : Nat} (h : Rc b V σ) (hj : j < 6) : Rc b (vset V j i w) (gst σ (b + 5) (6 * i + j) (nI w)) := by
  obtain ⟨h1, h2, h3, h4, h5⟩ := h
  refine ⟨?_, ?_, ?_, ?_, ?_⟩
  · unfold RcN
    rw [vset_r (r' := 18) (by omega), vset_r (r' := 6) (by omega), vset_r (r' := 7) (by omega), vset_r (r' := 8) (by omega), vset_r (r' := 9) (by omega), vset_r (r' := 10) (by omega), vset_r (r' := 11) (by omega), gst_row (a := b + 6) (by omega), gst_row (a := b + 7) (by omega), gst_row (a := b + 8) (by omega), gst_row (a := b + 9) (by omega), gst_row (a := b + 10) (by omega), gst_row (a := b + 11) (by omega)]
    intro i' hi'
    refine ⟨?_, (h1 i' hi').2⟩
    intro j' hj'
    by_cases e : j' = j ∧ i' = i
    · obtain ⟨rfl, rfl⟩ := e
      rw [gst_s2, vset_s]
    · rw [gst_n2 (by omega), vset_n e]
      exact (h1 i' hi').1 j' hj'
  · unfold RcP
    rw [gst_row (a := b + 15) (by omega), gst_row (a := b + 16) (by omega), gst_row (a := b + 17) (by omega), gst_row (a := b + 18) (by omega), vset_r (r' := 14) (by omega), vset_r (r' := 15) (by omega), vset_r (r' := 16) (by omega)]
    intro p hp
    refine ⟨?_, (h2 p hp).2⟩
    intro j' hj'
    rw [vset_r (by omega)]
    exact (h2 p hp).1 j' hj'
  · unfold RcS
    rw [vset_r (r' := 17) (by omega), vset_r (r' := 18) (by omega), gst_row (a := b + 2) (by omega), gst_row (a := b + 19) (by omega), gst_row (a := b) (by omega), gst_row (a := b + 3) (by omega), gst_row (a := b + 20) (by omega)]
    exact h3
  · unfold RcC
    rw [vset_r (r' := 18) (by omega), vset_r (r' := 19) (by omega), vset_r (r' := 20) (by omega), vset_r (r' := 21) (by omega), gst_row (a := b + 21) (by omega), gst_row (a := b + 22) (by omega), gst_row (a := b + 23) (by omega)]
    exact h4
  · unfold RcH
    rw [vset_r (r' := 18) (by omega), gst_row (a := b + 12) (by omega)]
    intro i' t hi' q1 q2
    rw [vset_r (by omega)]
    exact h5 i' t hi' q1 q2
theorem rc_pmp {b : Nat} {V : Sh} {σ : Mem} {i j w : Nat} (h : Rc b V σ) (hj : j < 2) : Rc b (vset V (12 + j) i w) (gst σ (b + 15) (2 * i + j) (nI w)) := by
  obtain ⟨h1, h2, h3, h4, h5⟩ := h
  refine ⟨?_, ?_, ?_, ?_, ?_⟩
  · unfold RcN
    rw [vset_r (r' := 18) (by omega), vset_r (r' := 6) (by omega), vset_r (r' := 7) (by omega), vset_r (r' := 8) (by omega), vset_r (r' := 9) (by omega), vset_r (r' := 10) (by omega), vset_r (r' := 11) (by omega), gst_row (a := b + 5) (by omega), gst_row (a := b + 6) (by omega), gst_row (a := b + 7) (by omega), gst_row (a := b + 8) (by omega), gst_row (a := b + 9) (by omega), gst_row (a := b + 10) (by omega), gst_row (a := b + 11) (by omega)]
    intro i' hi'
    refine ⟨?_, (h1 i' hi').2⟩
    intro j' hj'
    rw [vset_r (by omega)]
    exact (h1 i' hi').1 j' hj'
  · unfold RcP
    rw [gst_row (a := b + 16) (by omega), gst_row (a := b + 17) (by omega), gst_row (a := b + 18) (by omega), vset_r (r' := 14) (by omega), vset_r (r' := 15) (by omega), vset_r (r' := 16) (by omega)]
    intro p hp
    refine ⟨?_, (h2 p hp).2⟩
    intro j' hj'
    by_cases e : j' = j ∧ p = i
    · obtain ⟨rfl, rfl⟩ := e
      rw [gst_s2, vset_s]
    · rw [gst_n2 (by omega), vset_n (by omega)]
      exact (h2 p hp).1 j' hj'
  · unfold RcS
    rw [vset_r (r' := 17) (by omega), vset_r (r' := 18) (by omega), gst_row (a := b + 2) (by omega), gst_row (a := b + 19) (by omega), gst_row (a := b) (by omega), gst_row (a := b + 3) (by omega), gst_row (a := b + 20) (by omega)]
    exact h3
  · unfold RcC
    rw [vset_r (r' := 18) (by omega), vset_r (r' := 19) (by omega), vset_r (r' := 20) (by omega), vset_r (r' := 21) (by omega), gst_row (a := b + 21) (by omega), gst_row (a := b + 22) (by omega), gst_row (a := b + 23) (by omega)]
    exact h4
  · unfold RcH
    rw [vset_r (r' := 18) (by omega), gst_row (a := b + 12) (by omega)]
    intro i' t hi' q1 q2
    rw [vset_r (by omega)]
    exact h5 i' t hi' q1 q2
theorem rc_set {b : Nat} {V : Sh} {σ : Mem} {j w : Nat} (h : Rc b V σ) : Rc b (vset V 17 j w) (gst σ (b + 2) j (nI w)) := by
  obtain ⟨h1, h2, h3, h4, h5⟩ := h
  refine ⟨?_, ?_, ?_, ?_, ?_⟩
  · unfold RcN
    rw [vset_r (r' := 18) (by omega), vset_r (r' := 6) (by omega), vset_r (r' := 7) (by omega), vset_r (r' := 8) (by omega), vset_r (r' := 9) (by omega), vset_r (r' := 10) (by omega), vset_r (r' := 11) (by omega), gst_row (a := b + 5) (by omega), gst_row (a := b + 6) (by omega), gst_row (a := b + 7) (by omega), gst_row (a := b + 8) (by omega), gst_row (a := b + 9) (by omega), gst_row (a := b + 10) (by omega), gst_row (a := b + 11) (by omega)]
    intro i' hi'
    refine ⟨?_, (h1 i' hi').2⟩
    intro j' hj'
    rw [vset_r (by omega)]
    exact (h1 i' hi').1 j' hj'
  · unfold RcP
    rw [gst_row (a := b + 15) (by omega), gst_row (a := b + 16) (by omega), gst_row (a := b + 17) (by omega), gst_row (a := b + 18) (by omega), vset_r (r' := 14) (by omega), vset_r (r' := 15) (by omega), vset_r (r' := 16) (by omega)]
    intro p hp
    refine ⟨?_, (h2 p hp).2⟩
    intro j' hj'
    rw [vset_r (by omega)]
    exact (h2 p hp).1 j' hj'
  · unfold RcS
    rw [vset_r (r' := 18) (by omega), gst_row (a := b + 19) (by omega), gst_row (a := b) (by omega), gst_row (a := b + 3) (by omega), gst_row (a := b + 20) (by omega)]
    refine ⟨?_, h3.2⟩
    intro j' hj'
    by_cases e : j' = j
    · subst e
      rw [gst_s2, vset_s]
    · rw [gst_n2 e, vset_n (by omega)]
      exact h3.1 j' hj'
  · unfold RcC
    rw [vset_r (r' := 18) (by omega), vset_r (r' := 19) (by omega), vset_r (r' := 20) (by omega), vset_r (r' := 21) (by omega), gst_row (a := b + 21) (by omega), gst_row (a := b + 22) (by omega), gst_row (a := b + 23) (by omega)]
    exact h4
  · unfold RcH
    rw [vset_r (r' := 18) (by omega), gst_row (a := b + 12) (by omega)]
    intro i' t hi' q1 q2
    rw [vset_r (by omega)]
    exact h5 i' t hi' q1 q2
theorem rc_wind {b : Nat} {V : Sh} {σ : Mem} {w : Nat} (h : Rc b V σ) : Rc b (vset V 18 0 w) (gst σ (b + 19) 0 (nI w)) := by
  obtain ⟨h1, h2, h3, h4, h5⟩ := h
  have e : ∀ c, c ≠ 0 → vset V 18 0 w 18 c = V 18 c := fun c hc => vset_n (by omega)
  refine ⟨?_, ?_, ?_, ?_, ?_⟩
  · unfold RcN
    rw [e 5 (by decide), vset_r (r' := 6) (by omega), vset_r (r' := 7) (by omega), vset_r (r' := 8) (by omega), vset_r (r' := 9) (by omega), vset_r (r' := 10) (by omega), vset_r (r' := 11) (by omega), gst_row (a := b + 5) (by omega), gst_row (a := b + 6) (by omega), gst_row (a := b + 7) (by omega), gst_row (a := b + 8) (by omega), gst_row (a := b + 9) (by omega), gst_row (a := b + 10) (by omega), gst_row (a := b + 11) (by omega)]
    intro i' hi'
    refine ⟨?_, (h1 i' hi').2⟩
    intro j' hj'
    rw [vset_r (by omega)]
    exact (h1 i' hi').1 j' hj'
  · unfold RcP
    rw [gst_row (a := b + 15) (by omega), gst_row (a := b + 16) (by omega), gst_row (a := b + 17) (by omega), gst_row (a := b + 18) (by omega), vset_r (r' := 14) (by omega), vset_r (r' := 15) (by omega), vset_r (r' := 16) (by omega)]
    intro p hp
    refine ⟨?_, (h2 p hp).2⟩
    intro j' hj'
    rw [vset_r (by omega)]
    exact (h2 p hp).1 j' hj'
  · obtain ⟨q17, q0, q1, q2, q3, q4⟩ := h3
    unfold RcS
    rw [vset_s, vset_r (r' := 17) (by omega), e 1 (by decide), e 2 (by decide), e 3 (by decide), e 4 (by decide), e 5 (by decide), e 6 (by decide), e 7 (by decide), e 8 (by decide), gst_row (a := b + 2) (by omega), gst_row (a := b) (by omega), gst_row (a := b + 3) (by omega), gst_row (a := b + 20) (by omega), gst_s2, gst_n2 (by decide), gst_n2 (by decide), gst_n2 (by decide)]
    exact ⟨q17, rfl, q1, q2, q3, q4⟩
  · unfold RcC
    rw [e 7 (by decide), vset_r (r' := 19) (by omega), vset_r (r' := 20) (by omega), vset_r (r' := 21) (by omega), gst_row (a := b + 21) (by omega), gst_row (a := b + 22) (by omega), gst_row (a := b + 23) (by omega)]
    exact h4
  · unfold RcH
    rw [e 5 (by decide), e 4 (by decide), gst_row (a := b + 12) (by omega)]
    intro i' t hi' q1 q2
    rw [vset_r (by omega)]
    exact h5 i' t hi' q1 q2
/-- no such setting, or no such value -/
theorem no_okS {m : Nat} {lo hi : Nat → Nat} {s v : Int32} (h : ¬ okS m lo hi s v) {j : Nat} (hj : j < m) (hs : s = nI j) {a c : Int32} (ha : a = nI (lo j)) (hc : c = nI (hi j)) (h1 : lo j < 2 ^ 31) (h2 : hi j < 2 ^ 31) : (if a ≤ v ∧ v ≤ c then (1 : Int32) else 0) = 0 := by
  rw [if_neg]
  intro q
  subst ha hc
  obtain ⟨w, w1, w2, rfl⟩ := of_rng h2 q h1
  exact h ⟨j, w, hj, hs, rfl, w1, w2⟩
/-- change, of the three kinds, in a show at b -/
theorem chN_T {b : Nat} (hb : SB b) {σ : Mem} (ht : Th σ) (hs : St σ) {i j w : Nat} (hi : i < 12) (hj : j < 6) (h1 : loN j ≤ w) (h2 : w ≤ hiN j) : f_X4_change σ (b + 4) (nI i) (nI j) (nI w) = some (σ (b + 5) (6 * i + j), gst σ (b + 5) (6 * i + j) (nI w)) :=
  change_T (L := 6) (N := 72) (ht b hb).2.1 (by rw [P4_2 hb]; rfl) (by rw [P4_0 hb]; rfl) (by rw [P4_1 hb]; rfl) (P4_4 hb) (A5 hb) rfl (by decide) (by decide) (fun j hj => by rw [P4_0 hb, P4_1 hb]; exact ⟨(hs.1 j hj).1, (hs.1 j hj).2.1⟩) (fun j _ => ⟨tab_b (by decide) (by decide) j, tab_b (by decide) (by decide) j⟩) hi hj h1 h2
theorem chN_F {b : Nat} (hb : SB b) {σ : Mem} (ht : Th σ) (hs : St σ) {x s v : Int32} (h : ¬ okS 6 loN hiN s v) : f_X4_change σ (b + 4) x s v = some ((-2), σ) :=
  change_F (L := 6) (ht b hb).2.1 (by rw [P4_2 hb]; rfl) (by rw [P4_0 hb]; rfl) (by rw [P4_1 hb]; rfl) (by decide) (fun j hj => by rw [P4_0 hb, P4_1 hb]; exact ⟨(hs.1 j hj).1, (hs.1 j hj).2.1⟩) (fun j _ => ⟨tab_b (by decide) (by decide) j, tab_b (by decide) (by decide) j⟩) h
theorem chP_T {b : Nat} (hb : SB b) {σ : Mem} (ht : Th σ) (hs : St σ) {i j w : Nat} (hi : i < 3) (hj : j < 2) (h1 : loP j ≤ w) (h2 : w ≤ hiP j) : f_X4_change σ (b + 14) (nI i) (nI j) (nI w) = some (σ (b + 15) (2 * i + j), gst σ (b + 15) (2 * i + j) (nI w)) :=
  change_T (L := 2) (N := 6) (ht b hb).2.2 (by rw [P14_2 hb]; rfl) (by rw [P14_0 hb]; rfl) (by rw [P14_1 hb]; rfl) (P14_4 hb) (A15 hb) rfl (by decide) (by decide) (fun j hj => by rw [P14_0 hb, P14_1 hb]; exact ⟨(hs.2.1 j hj).1, (hs.2.1 j hj).2.1⟩) (fun j _ => ⟨tab_b (by decide) (by decide) j, tab_b (by decide) (by decide) j⟩) hi hj h1 h2
theorem chP_F {b : Nat} (hb : SB b) {σ : Mem} (ht : Th σ) (hs : St σ) {x s v : Int32} (h : ¬ okS 2 loP hiP s v) : f_X4_change σ (b + 14) x s v = some ((-2), σ) :=
  change_F (L := 2) (ht b hb).2.2 (by rw [P14_2 hb]; rfl) (by rw [P14_0 hb]; rfl) (by rw [P14_1 hb]; rfl) (by decide) (fun j hj => by rw [P14_0 hb, P14_1 hb]; exact ⟨(hs.2.1 j hj).1, (hs.2.1 j hj).2.1⟩) (fun j _ => ⟨tab_b (by decide) (by decide) j, tab_b (by decide) (by decide) j⟩) h
theorem chS_T {b : Nat} (hb : SB b) {σ : Mem} (ht : Th σ) (hs : St σ) {j w : Nat} (hj : j < 6) (h1 : loS j ≤ w) (h2 : w ≤ hiS j) : f_X4_change σ (b + 1) 0 (nI j) (nI w) = some (σ (b + 2) j, gst σ (b + 2) j (nI w)) := by
  have := change_T (σ := σ) (k := b + 1) (L := 6) (N := 6) (th := 1) (i := 0) (j := j) (w := w) (ht b hb).1 (by rw [P1_2 hb]; rfl) (by rw [P1_0 hb]; rfl) (by rw [P1_1 hb]; rfl) (P1_4 hb) (A2 hb) rfl (by decide) (by decide) (fun j hj => by rw [P1_0 hb, P1_1 hb]; exact ⟨(hs.2.2 j hj).1, (hs.2.2 j hj).2.1⟩) (fun j _ => ⟨tab_b (by decide) (by decide) j, tab_b (by decide) (by decide) j⟩) (by decide) hj h1 h2
  rw [Nat.mul_zero, Nat.zero_add] at this
  exact this
theorem chS_F {b : Nat} (hb : SB b) {σ : Mem} (ht : Th σ) (hs : St σ) {x s v : Int32} (h : ¬ okS 6 loS hiS s v) : f_X4_change σ (b + 1) x s v = some ((-2), σ) :=
  change_F (L := 6) (th := 1) (ht b hb).1 (by rw [P1_2 hb]; rfl) (by rw [P1_0 hb]; rfl) (by rw [P1_1 hb]; rfl) (by decide) (fun j hj => by rw [P1_0 hb, P1_1 hb]; exact ⟨(hs.2.2 j hj).1, (hs.2.2 j hj).2.1⟩) (fun j _ => ⟨tab_b (by decide) (by decide) j, tab_b (by decide) (by decide) j⟩) h

