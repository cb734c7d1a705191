/-! fault -/
def Stk (L : Nat) (c : Nat → Nat) (p : Nat) : Prop := ∃ x, run c p = some x ∧ ((p < L ∧ stp x (c p) = none) ∨ (p = L ∧ fin x = none))
theorem stk_of {L : Nat} {c : Nat → Nat} {p : Nat} {x : Tx} (hp : p ≤ L) (hr : run c p = some x) (h1 : stp x (cc L c p) = none) (h2 : fin x = none) : Stk L c p := by
  refine ⟨x, hr, ?_⟩
  by_cases q : p < L
  · refine Or.inl ⟨q, ?_⟩
    unfold cc at h1
    rw [if_pos q] at h1
    exact h1
  · exact Or.inr ⟨by omega, h2⟩
def Fk (k : Nat) (σ σ' : Mem) : Prop := Only [105, 111] σ σ' ∧ σ' 105 9 = nI (k + 1) ∧ ∀ j, j < 3 * k → σ' 111 j = σ 111 j
def tc5 (σ : Mem) (x1 r : Int32) : Option Mem :=
  chk (ckI (x1 + 2) (alen (ptr 105 8))) (nm (gst σ (ptr 105 8) (ix (x1 + 2)) r) fun σ_19 =>
  nm (gst σ_19 105 9 ((σ_19 105 9) + 1)) fun σ_20 =>
  some σ_20)
def tc4 (n : Nat) (σ : Mem) (x1 : Int32) : Option Mem := bnd2 (f_X9_takeNumber n σ 105 1000) fun r_17 σ_18 => tc5 σ_18 x1 r_17
def tc3 (n : Nat) (σ : Mem) (x1 : Int32) : Option Mem := bnd (f_X9_need σ 105 61) fun σ_15 => tc4 n σ_15 x1
def tc2 (n : Nat) (σ : Mem) (x1 : Int32) : Option Mem := bnd2 (f_X9_takeSet n σ 105) fun r_10 σ_11 =>
  chk (ckI (x1 + 1) (alen (ptr 105 8))) (nm (gst σ_11 (ptr 105 8) (ix (x1 + 1)) r_10) fun σ_12 => tc3 n σ_12 x1)
def tc1 (n : Nat) (σ : Mem) (x1 : Int32) : Option Mem := bnd (f_X9_need σ 105 58) fun σ_8 => tc2 n σ_8 x1
theorem tc_eq (n : Nat) (σ : Mem) : f_X9_takeCue n σ 105 = bnd2 (f_X9_takeNumber n σ 105 9999) fun r_3 σ_4 => chk (ckI (3 * (σ 105 9)) (alen (ptr 105 8))) (nm (gst σ_4 (ptr 105 8) (ix (3 * (σ 105 9))) r_3) fun σ_5 => tc1 n σ_5 (3 * (σ 105 9))) := rfl
theorem r9_o {σ σ' : Mem} (h : R9 σ σ') : Only [105, 111] σ σ' := fun a ha => h.1 a (by simp at ha ⊢; omega)
theorem g111_o (σ : Mem) (j : Nat) (v : Int32) : Only [105, 111] σ (gst σ 111 j v) := fun a ha => gst_row (by simp at ha; omega)
theorem Only.t2 {σ σ1 σ2 : Mem} (h1 : Only [105, 111] σ σ1) (h2 : Only [105, 111] σ1 σ2) : Only [105, 111] σ σ2 := fun a h => (h2 a h).trans (h1 a h)
theorem r9_9 {σ σ' : Mem} (h : R9 σ σ') : σ' 105 9 = σ 105 9 := h.2 9 (by decide) (by decide)
theorem r9_111 {σ σ' : Mem} (h : R9 σ σ') : σ' 111 = σ 111 := h.1 111 (by decide)
theorem tc5_ok {L : Nat} {c : Nat → Nat} {σ : Mem} {p b k : Nat} {r : Int32} (h : S9 L c σ p b) (h9 : σ 105 9 = nI k) (hk : k < 20) : ∃ σ', tc5 σ (nI (3 * k)) r = some σ' ∧ S9 L c σ' p b ∧ Fk k σ σ' ∧ σ' 111 (3 * k) = σ 111 (3 * k) ∧ σ' 111 (3 * k + 1) = σ 111 (3 * k + 1) ∧ σ' 111 (3 * k + 2) = r := by
  unfold tc5
  rw [PM8, AM5, show (2 : Int32) = nI 2 from rfl, nI_add, ckI_nI (by omega) (by decide), chk_t, ix_nI (by omega)]
  simp only [nm]
  rw [gst_row (a := 105) (k := 111) (by decide), h9, show (1 : Int32) = nI 1 from rfl, nI_add]
  have S1 : S9 L c (gst σ 111 (3 * k + 2) r) p b := h.cue
  refine ⟨_, rfl, ?_, ⟨?_, gst_s2, ?_⟩, ?_, ?_, ?_⟩
  · obtain ⟨h1, h2, h3, h4, h5, h6⟩ := S1
    refine ⟨h1, h2, ?_, ?_, ?_, ?_⟩
    · rw [gst_n2 (by decide)]; exact h3
    · rw [gst_n2 (by decide)]; exact h4
    · rw [gst_n2 (by decide)]; exact h5
    · rw [gst_row (by decide)]; exact h6
  · intro a ha
    simp at ha
    rw [gst_row (by omega), gst_row (by omega)]
  · intro j hj
    rw [gst_row (by decide), gst_n2 (by omega)]
  · rw [gst_row (by decide), gst_n2 (by omega)]
  · rw [gst_row (by decide), gst_n2 (by omega)]
  · rw [gst_row (by decide), gst_s2]
theorem tc4_bad {L : Nat} {c : Nat → Nat} {σ : Mem} {p k n : Nat} (hn : 1200 < n) (h : S9 L c σ p 1) (h9 : σ 105 9 = nI k) (hk : k < 20) : ∃ σ', tc4 n σ (nI (3 * k)) = some σ' ∧ S9 L c σ' p 1 ∧ Fk k σ σ' := by
  obtain ⟨⟨r, σ1⟩, e1, a1, a2, -⟩ := take_bad (lim := 1000) hn h
  dsimp only at a1 a2
  obtain ⟨σ2, e2, b1, ⟨b2, b3, b4⟩, -⟩ := tc5_ok (r := r) a2 (by rw [r9_9 a1]; exact h9) hk
  unfold tc4
  rw [show (1000 : Int32) = nI 1000 from rfl, e1, bnd2_s]
  exact ⟨σ2, e2, b1, (r9_o a1).t2 b2, b3, fun j hj => by rw [b4 j hj, r9_111 a1]⟩
theorem tc3_bad {L : Nat} {c : Nat → Nat} {σ : Mem} {p k n : Nat} (hn : 1200 < n) (h : S9 L c σ p 1) (h9 : σ 105 9 = nI k) (hk : k < 20) : ∃ σ', tc3 n σ (nI (3 * k)) = some σ' ∧ S9 L c σ' p 1 ∧ Fk k σ σ' := by
  obtain ⟨σ1, e1, a1, a2⟩ := need_bad (y := 61) h
  obtain ⟨σ2, e2, b1, ⟨b2, b3, b4⟩⟩ := tc4_bad hn a2 (by rw [r9_9 a1]; exact h9) hk
  unfold tc3
  rw [e1, bnd_s]
  exact ⟨σ2, e2, b1, (r9_o a1).t2 b2, b3, fun j hj => by rw [b4 j hj, r9_111 a1]⟩
theorem tc2_bad {L : Nat} {c : Nat → Nat} {σ : Mem} {p k n : Nat} (hn : 1200 < n) (h : S9 L c σ p 1) (h9 : σ 105 9 = nI k) (hk : k < 20) : ∃ σ', tc2 n σ (nI (3 * k)) = some σ' ∧ S9 L c σ' p 1 ∧ Fk k σ σ' := by
  obtain ⟨⟨r, σ1⟩, e1, a1, a2, -⟩ := set_bad hn h
  dsimp only at a1 a2
  obtain ⟨σ2, e2, b1, ⟨b2, b3, b4⟩⟩ := tc3_bad (k := k) hn (a2.cue (j := 3 * k + 1) (v := r)) (by rw [gst_row (by decide), r9_9 a1]; exact h9) hk
  unfold tc2
  rw [e1, bnd2_s, PM8, AM5, show (1 : Int32) = nI 1 from rfl, nI_add, ckI_nI (by omega) (by decide), chk_t, ix_nI (by omega)]
  simp only [nm]
  exact ⟨σ2, e2, b1, ((r9_o a1).t2 (g111_o _ _ _)).t2 b2, b3, fun j hj => by rw [b4 j hj, gst_n2 (by omega), r9_111 a1]⟩
theorem tc1_bad {L : Nat} {c : Nat → Nat} {σ : Mem} {p k n : Nat} (hn : 1200 < n) (h : S9 L c σ p 1) (h9 : σ 105 9 = nI k) (hk : k < 20) : ∃ σ', tc1 n σ (nI (3 * k)) = some σ' ∧ S9 L c σ' p 1 ∧ Fk k σ σ' := by
  obtain ⟨σ1, e1, a1, a2⟩ := need_bad (y := 58) h
  obtain ⟨σ2, e2, b1, ⟨b2, b3, b4⟩⟩ := tc2_bad hn a2 (by rw [r9_9 a1]; exact h9) hk
  unfold tc1
  rw [e1, bnd_s]
  exact ⟨σ2, e2, b1, (r9_o a1).t2 b2, b3, fun j hj => by rw [b4 j hj, r9_111 a1]⟩
/-- behind a cue: stuck, or the cue is there -/
def Aft (L : Nat) (c : Nat → Nat) (l : List Cu) (k p : Nat) (σ : Mem) : Prop := ∃ p', p ≤ p' ∧ ((S9 L c σ p' 1 ∧ Stk L c p') ∨ (S9 L c σ p' 0 ∧ ∃ u t s, run c p' = some (2, u, t, s, l) ∧ 1 ≤ u ∧ u ≤ 1001 ∧ dig 1000 u (cc L c p') = none ∧ σ 111 (3 * k) = nI t ∧ σ 111 (3 * k + 1) = nI s ∧ σ 111 (3 * k + 2) = nI (u - 1)))
theorem fin_ph {x : Tx} (h : x.1 ≠ 2) : fin x = none := by
  unfold fin
  rw [if_neg (fun q => h q.1)]
theorem tc4_ok {L : Nat} {c : Nat → Nat} {σ : Mem} {p k n t s : Nat} {l : List Cu} (hn : 1200 < n) (h : S9 L c σ p 0) (h9 : σ 105 9 = nI k) (hk : k < 20) (hr : run c p = some (2, 0, t, s, l)) (ht : σ 111 (3 * k) = nI t) (hs : σ 111 (3 * k + 1) = nI s) : ∃ σ', tc4 n σ (nI (3 * k)) = some σ' ∧ Aft L c l k p σ' ∧ Fk k σ σ' := by
  have hX : ∀ p u v, p < L → run c p = some (2, u, t, s, l) → dig 1000 u (c p) = some v → run c (p + 1) = some (2, v, t, s, l) := by
    intro p u v _ h1 h2
    rw [run_s h1]
    unfold stp
    dsimp only
    have : ¬ c p = 44 := by
      intro e
      rw [dig_no (by omega)] at h2
      cases h2
    rw [if_neg (by decide), if_neg (by decide), if_neg this, h2]
  obtain ⟨⟨r, σ1⟩, e1, a1, a2⟩ := take_ok (X := fun u => (2, u, t, s, l)) (lim := 1000) hn (by omega) (by omega) h hX hr
  dsimp only at a1 a2
  unfold tc4
  rw [show (1000 : Int32) = nI 1000 from rfl, e1, bnd2_s]
  dsimp only
  have h91 : σ1 105 9 = nI k := by rw [r9_9 a1]; exact h9
  rcases a2 with ⟨a2, -, a3⟩ | ⟨p', u, q1, q2, q3, q4, q5, q6, q7⟩
  · obtain ⟨σ2, e2, b1, ⟨b2, b3, b4⟩, -⟩ := tc5_ok (r := r) a2 h91 hk
    refine ⟨σ2, e2, ⟨p, Nat.le_refl _, Or.inl ⟨b1, stk_of h.2.1 hr ?_ ?_⟩⟩, (r9_o a1).t2 b2, b3, fun j hj => by rw [b4 j hj, r9_111 a1]⟩
    · unfold stp
      dsimp only
      rw [if_neg (by decide), if_neg (by decide), a3]
      by_cases z : cc L c p = 44
      · rw [if_pos z, if_pos rfl]
      · rw [if_neg z]
    · unfold fin
      rw [if_neg (fun z => z.2 rfl)]
  · obtain ⟨σ2, e2, b1, ⟨b2, b3, b4⟩, d1, d2, d3⟩ := tc5_ok (r := r) q2 h91 hk
    refine ⟨σ2, e2, ⟨p', by omega, Or.inr ⟨b1, u, t, s, q6, q3, q4, q7, ?_, ?_, ?_⟩⟩, (r9_o a1).t2 b2, b3, fun j hj => by rw [b4 j hj, r9_111 a1]⟩
    · rw [d1, r9_111 a1]; exact ht
    · rw [d2, r9_111 a1]; exact hs
    · rw [d3]; exact q5
theorem tc3_ok {L : Nat} {c : Nat → Nat} {σ : Mem} {p k n u t s : Nat} {l : List Cu} (hn : 1200 < n) (h : S9 L c σ p 0) (h9 : σ 105 9 = nI k) (hk : k < 20) (hr : run c p = some (1, u, t, s, l)) (hs1 : 1 ≤ s) (hno : ¬ (97 ≤ cc L c p ∧ cc L c p ≤ 108 ∧ s < 2 ^ (cc L c p - 97))) (ht : σ 111 (3 * k) = nI t) (hs : σ 111 (3 * k + 1) = nI s) : ∃ σ', tc3 n σ (nI (3 * k)) = some σ' ∧ Aft L c l k p σ' ∧ Fk k σ σ' := by
  obtain ⟨σ1, e1, a1, a2⟩ := need_ok (ch := 61) h (by decide) (by decide)
  have h91 : σ1 105 9 = nI k := by rw [r9_9 a1]; exact h9
  unfold tc3
  rw [show (61 : Int32) = nI 61 from rfl, e1, bnd_s]
  rcases a2 with ⟨q1, q2, q3⟩ | ⟨q1, q2⟩
  · have hr1 : run c (p + 1) = some (2, 0, t, s, l) := by
      rw [run_s hr]
      unfold cc at q1
      rw [if_pos q2] at q1
      unfold stp
      dsimp only
      rw [if_neg (by decide), if_pos rfl, if_pos q1, if_neg (by omega)]
    obtain ⟨σ2, e2, ⟨p', b0, b1⟩, ⟨b2, b3, b4⟩⟩ := tc4_ok hn q3 h91 hk hr1 (by rw [r9_111 a1]; exact ht) (by rw [r9_111 a1]; exact hs)
    exact ⟨σ2, e2, ⟨p', by omega, b1⟩, (r9_o a1).t2 b2, b3, fun j hj => by rw [b4 j hj, r9_111 a1]⟩
  · obtain ⟨σ2, e2, b1, ⟨b2, b3, b4⟩⟩ := tc4_bad hn q2 h91 hk
    refine ⟨σ2, e2, ⟨p, Nat.le_refl _, Or.inl ⟨b1, stk_of h.2.1 hr ?_ (fin_ph (by dsimp only; decide))⟩⟩, (r9_o a1).t2 b2, b3, fun j hj => by rw [b4 j hj, r9_111 a1]⟩
    unfold stp
    dsimp only
    rw [if_neg (by decide), if_pos rfl, if_neg q1, if_neg hno]
theorem tc2_ok {L : Nat} {c : Nat → Nat} {σ : Mem} {p k n u t : Nat} {l : List Cu} (hn : 1200 < n) (h : S9 L c σ p 0) (h9 : σ 105 9 = nI k) (hk : k < 20) (hr : run c p = some (1, u, t, 0, l)) (ht : σ 111 (3 * k) = nI t) : ∃ σ', tc2 n σ (nI (3 * k)) = some σ' ∧ Aft L c l k p σ' ∧ Fk k σ σ' := by
  obtain ⟨⟨r, σ1⟩, e1, a1, a2⟩ := set_ok hn h hr
  dsimp only at a1 a2
  have h91 : ∀ v, gst σ1 111 (3 * k + 1) v 105 9 = nI k := fun v => by rw [gst_row (by decide), r9_9 a1]; exact h9
  unfold tc2
  rw [e1, bnd2_s, PM8, AM5, show (1 : Int32) = nI 1 from rfl, nI_add, ckI_nI (by omega) (by decide), chk_t, ix_nI (by omega)]
  simp only [nm]
  rcases a2 with ⟨a2, -, a3⟩ | ⟨p', s, q1, q2, q3, q4, q5, q6, q7⟩
  · obtain ⟨σ2, e2, b1, ⟨b2, b3, b4⟩⟩ := tc3_bad (k := k) hn (a2.cue (j := 3 * k + 1) (v := r)) (h91 r) hk
    refine ⟨σ2, e2, ⟨p, Nat.le_refl _, Or.inl ⟨b1, stk_of h.2.1 hr ?_ (fin_ph (by dsimp only; decide))⟩⟩, ((r9_o a1).t2 (g111_o _ _ _)).t2 b2, b3, fun j hj => by rw [b4 j hj, gst_n2 (by omega), r9_111 a1]⟩
    unfold stp
    dsimp only
    rw [if_neg (by decide), if_pos rfl]
    by_cases z : cc L c p = 61
    · rw [if_pos z, if_pos rfl]
    · rw [if_neg z, if_neg (fun w => a3 ⟨w.1, w.2.1⟩)]
  · obtain ⟨σ2, e2, ⟨p2, b0, b1⟩, ⟨b2, b3, b4⟩⟩ := tc3_ok (k := k) hn (q2.cue (j := 3 * k + 1) (v := r)) (h91 r) hk q6 q3 q7 (by rw [gst_n2 (by omega), r9_111 a1]; exact ht) (by rw [gst_s2]; exact q5)
    exact ⟨σ2, e2, ⟨p2, by omega, b1⟩, ((r9_o a1).t2 (g111_o _ _ _)).t2 b2, b3, fun j hj => by rw [b4 j hj, gst_n2 (by omega), r9_111 a1]⟩
theorem tc1_ok {L : Nat} {c : Nat → Nat} {σ : Mem} {p k n u t s : Nat} {l : List Cu} (hn : 1200 < n) (h : S9 L c σ p 0) (h9 : σ 105 9 = nI k) (hk : k < 20) (hr : run c p = some (0, u, t, s, l)) (hu1 : 1 ≤ u) (hno : dig 9999 u (cc L c p) = none) (ht : σ 111 (3 * k) = nI (u - 1)) : ∃ σ', tc1 n σ (nI (3 * k)) = some σ' ∧ Aft L c l k p σ' ∧ Fk k σ σ' := by
  obtain ⟨σ1, e1, a1, a2⟩ := need_ok (ch := 58) h (by decide) (by decide)
  have h91 : σ1 105 9 = nI k := by rw [r9_9 a1]; exact h9
  unfold tc1
  rw [show (58 : Int32) = nI 58 from rfl, e1, bnd_s]
  rcases a2 with ⟨q1, q2, q3⟩ | ⟨q1, q2⟩
  · have hr1 : run c (p + 1) = some (1, u, u - 1, 0, l) := by
      rw [run_s hr]
      unfold cc at q1
      rw [if_pos q2] at q1
      unfold stp
      dsimp only
      rw [if_pos rfl, if_pos q1, if_neg (by omega)]
    obtain ⟨σ2, e2, ⟨p', b0, b1⟩, ⟨b2, b3, b4⟩⟩ := tc2_ok hn q3 h91 hk hr1 (by rw [r9_111 a1]; exact ht)
    exact ⟨σ2, e2, ⟨p', by omega, b1⟩, (r9_o a1).t2 b2, b3, fun j hj => by rw [b4 j hj, r9_111 a1]⟩
  · obtain ⟨σ2, e2, b1, ⟨b2, b3, b4⟩⟩ := tc2_bad hn q2 h91 hk
    refine ⟨σ2, e2, ⟨p, Nat.le_refl _, Or.inl ⟨b1, stk_of h.2.1 hr ?_ (fin_ph (by dsimp only; decide))⟩⟩, (r9_o a1).t2 b2, b3, fun j hj => by rw [b4 j hj, r9_111 a1]⟩
    unfold stp
    dsimp only
    rw [if_pos rfl, if_neg q1, hno]
theorem cue_ok {L : Nat} {c : Nat → Nat} {σ : Mem} {p k n t s : Nat} {l : List Cu} (hn : 1200 < n) (h : S9 L c σ p 0) (h9 : σ 105 9 = nI k) (hk : k < 20) (hr : run c p = some (0, 0, t, s, l)) : ∃ σ', f_X9_takeCue n σ 105 = some σ' ∧ Aft L c l k p σ' ∧ Fk k σ σ' := by
  have hX : ∀ p u v, p < L → run c p = some (0, u, t, s, l) → dig 9999 u (c p) = some v → run c (p + 1) = some (0, v, t, s, l) := by
    intro p u v _ h1 h2
    rw [run_s h1]
    unfold stp
    dsimp only
    have : ¬ c p = 58 := by
      intro e
      rw [dig_no (by omega)] at h2
      cases h2
    rw [if_pos rfl, if_neg this, h2]
  obtain ⟨⟨r, σ1⟩, e1, a1, a2⟩ := take_ok (X := fun u => (0, u, t, s, l)) (lim := 9999) hn (by omega) (by omega) h hX hr
  dsimp only at a1 a2
  rw [tc_eq, show (9999 : Int32) = nI 9999 from rfl, e1, bnd2_s, PM8, AM5, h9, show (3 : Int32) = nI 3 from rfl, nI_mul, ckI_nI (by omega) (by decide), chk_t, ix_nI (by omega)]
  simp only [nm]
  have h91 : ∀ v, gst σ1 111 (3 * k) v 105 9 = nI k := fun v => by rw [gst_row (by decide), r9_9 a1]; exact h9
  rcases a2 with ⟨a2, -, a3⟩ | ⟨p', u, q1, q2, q3, q4, q5, q6, q7⟩
  · obtain ⟨σ2, e2, b1, ⟨b2, b3, b4⟩⟩ := tc1_bad (k := k) hn (a2.cue (j := 3 * k) (v := r)) (h91 r) hk
    refine ⟨σ2, e2, ⟨p, Nat.le_refl _, Or.inl ⟨b1, stk_of h.2.1 hr ?_ (fin_ph (by dsimp only; decide))⟩⟩, ((r9_o a1).t2 (g111_o _ _ _)).t2 b2, b3, fun j hj => by rw [b4 j hj, gst_n2 (by omega), r9_111 a1]⟩
    unfold stp
    dsimp only
    rw [if_pos rfl, a3]
    by_cases z : cc L c p = 58
    · rw [if_pos z, if_pos rfl]
    · rw [if_neg z]
  · obtain ⟨σ2, e2, ⟨p2, b0, b1⟩, ⟨b2, b3, b4⟩⟩ := tc1_ok (k := k) hn (q2.cue (j := 3 * k) (v := r)) (h91 r) hk q6 q3 q7 (by rw [gst_s2]; exact q5)
    exact ⟨σ2, e2, ⟨p2, by omega, b1⟩, ((r9_o a1).t2 (g111_o _ _ _)).t2 b2, b3, fun j hj => by rw [b4 j hj, gst_n2 (by omega), r9_111 a1]⟩
def Fc (σ : Mem) (l : List Cu) : Prop := ∀ k, k < l.length → ∀ r, r < 3 → σ 111 (3 * k + r) = nI (lw l r k)
theorem lw_app (r : Nat) (y : Cu) : ∀ (l : List Cu) (k : Nat), lw (l ++ [y]) r k = if k < l.length then lw l r k else if k = l.length then cmp r y else 0
  | [], 0 => rfl
  | [], k + 1 => rfl
  | z :: zs, 0 => by
    rw [if_pos (by show 0 < zs.length + 1; omega)]
    rfl
  | z :: zs, k + 1 => by
    show lw (zs ++ [y]) r k = _
    rw [lw_app r y zs k]
    by_cases q : k < zs.length
    · rw [if_pos q, if_pos (by show k + 1 < zs.length + 1; omega)]
      rfl
    · rw [if_neg q, if_neg (c := k + 1 < (z :: zs).length) (by show ¬ k + 1 < zs.length + 1; omega)]
      by_cases q2 : k = zs.length
      · rw [if_pos q2, if_pos (by show k + 1 = zs.length + 1; omega)]
      · rw [if_neg q2, if_neg (by show ¬ k + 1 = zs.length + 1; omega)]
/-- what is known behind each cue in the loop -/
def Lpf (L : Nat) (c : Nat → Nat) (p : Nat) (σ : Mem) : Prop := (S9 L c σ p 1 ∧ Stk L c p) ∨ (S9 L c σ p 0 ∧ ∃ u t s l, run c p = some (2, u, t, s, l) ∧ 1 ≤ u ∧ dig 1000 u (cc L c p) = none ∧ σ 105 9 = nI (l.length + 1) ∧ Fc σ (l ++ [(t, s, u - 1)]))
theorem aft_lpf {L : Nat} {c : Nat → Nat} {σ σ' : Mem} {p : Nat} {l : List Cu} (ha : Aft L c l l.length p σ') (hk : Fk l.length σ σ') (hf : Fc σ l) : ∃ p', p ≤ p' ∧ Lpf L c p' σ' := by
  obtain ⟨p', h1, h2⟩ := ha
  refine ⟨p', h1, ?_⟩
  rcases h2 with h2 | ⟨h2, u, t, s, a1, a2, -, a3, a4, a5, a6⟩
  · exact Or.inl h2
  · refine Or.inr ⟨h2, u, t, s, l, a1, a2, a3, hk.2.1, ?_⟩
    intro k hkl r hr
    rw [lw_app]
    rw [List.length_append] at hkl
    simp at hkl
    by_cases q : k < l.length
    · rw [if_pos q, hk.2.2 (3 * k + r) (by omega)]
      exact hf k q r hr
    · have : k = l.length := by omega
      subst this
      rw [if_neg q, if_pos rfl]
      have : r = 0 ∨ r = 1 ∨ r = 2 := by omega
      rcases this with w | w | w <;> subst w
      · exact a4
      · exact a5
      · exact a6
theorem fault_r {σ : Mem} {n L : Nat} {c : Nat → Nat} (hn : 1200 < n) (hL : L ≤ 80) (h5 : σ 105 5 = nI L) (hc : ∀ j, j < L → σ 110 j = nI (c j) ∧ 33 ≤ c j ∧ c j ≤ 126) : Ret (f_X9_fault n σ 105) (fun q => (∃ r l, Out c L r l ∧ q.1 = fsI r ∧ (r = none → q.2 105 9 = nI l.length ∧ Fc q.2 l)) ∧ Only [105, 111] σ q.2 ∧ q.2 105 5 = nI L) := by
  unfold f_X9_fault
  simp only [nm]
  have S0 : S9 L c (gst (gst (gst σ 105 6 0) 105 7 0) 105 9 0) 0 0 := by
    refine ⟨hL, Nat.zero_le _, ?_, ?_, ?_, ?_⟩
    · rw [gst_n2 (by decide), gst_n2 (by decide), gst_n2 (by decide)]; exact h5
    · rw [gst_n2 (by decide), gst_n2 (by decide), gst_s2]; rfl
    · rw [gst_n2 (by decide), gst_s2]; rfl
    · rw [gst_row (by decide), gst_row (by decide), gst_row (by decide)]; exact hc
  have O0 : Only [105, 111] σ (gst (gst (gst σ 105 6 0) 105 7 0) 105 9 0) := by
    intro a ha
    simp at ha
    rw [gst_row (by omega), gst_row (by omega), gst_row (by omega)]
  have k0 : gst (gst (gst σ 105 6 0) 105 7 0) 105 9 0 105 9 = nI 0 := gst_s2
  generalize gst (gst (gst σ 105 6 0) 105 7 0) 105 9 0 = σ0 at S0 O0 k0
  obtain ⟨σ1, e1, a1, a2⟩ := cue_ok (n := n) (l := []) hn S0 k0 (by decide) rfl
  obtain ⟨p1, -, l1⟩ := aft_lpf (l := []) a1 a2 (fun k hk => by have hk : k < 0 := hk; omega)
  have O1 := O0.t2 a2.1
  rw [e1, bnd_s]
  unfold f_X9_fault_L19
  have b1 : p1 ≤ L := by rcases l1 with ⟨z, -⟩ | ⟨z, -⟩ <;> exact z.2.1
  refine Ret_iter (fun m s => ∃ p, m = L - p ∧ Lpf L c p s ∧ Only [105, 111] σ s) ?_ n (L - p1) _ ⟨p1, rfl, l1, O1⟩ (by omega)
  rintro m s ⟨p, rfl, hl, o⟩
  unfold f_X9_fault_B19 f_X9_fault_L52 f_X9_fault_L70
  rcases hl with ⟨hS, hst⟩ | ⟨hS, u, t, st, l, hr, hu, hd, h9, hf⟩
  · rw [hS.2.2.2.2.1, if_neg (c := nI 1 = 0) (by decide), if_neg (c := nI 1 = 0) (by decide), hS.2.2.2.1]
    obtain ⟨x, x1, x2⟩ := hst
    exact Ret_exi (Ret_some ⟨⟨some p, [], Or.inl ⟨p, x, rfl, x1, x2⟩, rfl, fun z => by cases z⟩, o, hS.2.2.1⟩)
  · have hx := xok_run hr
    have hll : l.length < 14 := by
      unfold Xok at hx
      dsimp only at hx
      have := hx.2.2.2.2.2.2.1
      have := hS.1
      have := hS.2.1
      omega
    have hcc := cc_le hS
    rw [hS.2.2.2.2.1, if_pos (c := nI 0 = 0) rfl, if_pos (c := nI 0 = 0) rfl, next_9 hS, bnd_s, hS.2.2.2.1, hS.2.2.1]
    by_cases q : cc L c p = 44
    · rw [if_pos (c := nI (cc L c p) = 44) (by rw [q]; rfl)]
      have hpl : p < L := by
        by_cases z : p < L
        · exact z
        · exfalso
          unfold cc at q
          rw [if_neg z] at q
          omega
      have hcp : c p = 44 := by
        unfold cc at q
        rw [if_pos hpl] at q
        exact q
      rw [show (1 : Int32) = nI 1 from rfl, nI_add]
      simp only [nm]
      have S1 := hS.pos (p' := p + 1) (by omega)
      have R1 := r9_6 s (nI (p + 1))
      generalize gst s 105 6 (nI (p + 1)) = s1 at S1 R1
      have hr1 : run c (p + 1) = some (0, 0, t, st, l ++ [(t, st, u - 1)]) := by
        rw [run_s hr]
        unfold stp
        dsimp only
        rw [if_neg (by decide), if_neg (by decide), if_pos hcp, if_neg (by omega)]
      have hlen : (l ++ [(t, st, u - 1)]).length = l.length + 1 := by rw [List.length_append]; rfl
      obtain ⟨s2, e2, b1, b2⟩ := cue_ok (n := n) (k := (l ++ [(t, st, u - 1)]).length) hn S1 (by rw [r9_9 R1, hlen]; exact h9) (by omega) hr1
      obtain ⟨p2, c1, c2⟩ := aft_lpf b1 b2 (fun k hk r hr => by rw [r9_111 R1]; exact hf k hk r hr)
      have b3 : p2 ≤ L := by rcases c2 with ⟨z, -⟩ | ⟨z, -⟩ <;> exact z.2.1
      rw [e2, bnd_s]
      exact Ret_some ⟨L - p2, by omega, p2, rfl, c2, (o.t2 (r9_o R1)).t2 b2.1⟩
    · rw [if_neg (c := nI (cc L c p) = 44) (fun z => q (nI_inj (b := 44) (by omega) (by decide) z))]
      have hS1 := hS.1
      have hS2 := hS.2.1
      by_cases z : L ≤ p
      · rw [if_pos (c := nI L ≤ nI p) (il z (by omega))]
        have : p = L := by omega
        subst this
        refine Ret_exi (Ret_some ⟨⟨none, l ++ [(t, st, u - 1)], Or.inr ⟨rfl, _, hr, ?_⟩, rfl, fun _ => ⟨?_, hf⟩⟩, o, hS.2.2.1⟩)
        · unfold fin
          rw [if_pos ⟨rfl, by dsimp only; omega⟩]
        · dsimp only
          rw [h9, List.length_append]
          rfl
      · rw [if_neg (c := nI L ≤ nI p) (nil (by omega) (by omega))]
        refine Ret_exi (Ret_some ⟨⟨some p, [], Or.inl ⟨p, _, rfl, hr, Or.inl ⟨by omega, ?_⟩⟩, rfl, fun z => by cases z⟩, o, hS.2.2.1⟩)
        have hcp : cc L c p = c p := by unfold cc; rw [if_pos (by omega)]
        rw [hcp] at q hd
        unfold stp
        dsimp only
        rw [if_neg (by decide), if_neg (by decide), if_neg q, hd]
