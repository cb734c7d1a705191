/-! fault and read, both -/
theorem Inv_text {σ σ2 : Mem} {V : Sh} (h : Inv σ) (he : ∀ a, ¬ (1 ≤ a ∧ a < 25) → ¬ (99 ≤ a ∧ a ≤ 103) → a ≠ 105 → a ≠ 106 → a ≠ 111 → σ2 a = σ a) (ht : σ2 2 = σ 2 ∧ σ2 5 = σ 5 ∧ σ2 15 = σ 15) (hV : Vok V) (hT : V 18 4 ≤ 200000) (hc : Rc 1 V σ2) (hr : RrA V (σ2 106)) (hp : Pd σ2) : Inv σ2 := by
  obtain ⟨-, t, s, p, s1, s2, g⟩ := h
  refine ⟨⟨V, hV, hT, hc, hr⟩, ?_, St_same s (fun a _ _ => he a (by omega) (by omega) (by omega) (by omega) (by omega)), hp, Sl_same s1 (he _ (by omega) (by omega) (by omega) (by omega) (by omega)) (he _ (by omega) (by omega) (by omega) (by omega) (by omega)) (he _ (by omega) (by omega) (by omega) (by omega) (by omega)) (fun a _ _ => he a (by omega) (by omega) (by omega) (by omega) (by omega)), Sl_same s2 (he _ (by omega) (by omega) (by omega) (by omega) (by omega)) (he _ (by omega) (by omega) (by omega) (by omega) (by omega)) (he _ (by omega) (by omega) (by omega) (by omega) (by omega)) (fun a _ _ => he a (by omega) (by omega) (by omega) (by omega) (by omega)), Gg_same g (fun b hb hn => he (b + 3) (by rcases hb with q | q | q | q <;> omega) (by rcases hb with q | q | q | q <;> omega) (by rcases hb with q | q | q | q <;> omega) (by rcases hb with q | q | q | q <;> omega) (by rcases hb with q | q | q | q <;> omega))⟩
  intro b hb
  have tt := t b hb
  by_cases e : b = 1
  · subst e
    rw [show (1 : Nat) + 1 = 2 from rfl, show (1 : Nat) + 4 = 5 from rfl, show (1 : Nat) + 14 = 15 from rfl] at *
    rw [ht.1, ht.2.1, ht.2.2]
    exact tt
  · rw [he (b + 1) (by rcases hb with q | q | q | q <;> omega) (by rcases hb with q | q | q | q <;> omega) (by rcases hb with q | q | q | q <;> omega) (by rcases hb with q | q | q | q <;> omega) (by rcases hb with q | q | q | q <;> omega), he (b + 4) (by rcases hb with q | q | q | q <;> omega) (by rcases hb with q | q | q | q <;> omega) (by rcases hb with q | q | q | q <;> omega) (by rcases hb with q | q | q | q <;> omega) (by rcases hb with q | q | q | q <;> omega), he (b + 14) (by rcases hb with q | q | q | q <;> omega) (by rcases hb with q | q | q | q <;> omega) (by rcases hb with q | q | q | q <;> omega) (by rcases hb with q | q | q | q <;> omega) (by rcases hb with q | q | q | q <;> omega)]
    exact tt
theorem pw_n {σ σ' : Mem} (h : Only PW σ σ') {a : Nat} (ha : ¬ (99 ≤ a ∧ a ≤ 103)) : σ' a = σ a := h a (by unfold PW; simp; omega)
theorem rf_n {σ σ' : Mem} (h : Only [105, 111] σ σ') {a : Nat} (h1 : a ≠ 105) (h2 : a ≠ 111) : σ' a = σ a := h a (by simp [h1, h2])
/-- the class's words with the reference's: both searched -/
theorem two_fault {n : Nat} (hn : 1200 < n) {σ : Mem} (h : Inv σ) : ∃ r l σ1 L c, (L ≤ 80 ∧ σ 99 2 = nI L ∧ σ 105 5 = nI L ∧ ∀ j, j < L → σ 104 j = nI (c j) ∧ σ 110 j = nI (c j) ∧ 33 ≤ c j ∧ c j ≤ 126) ∧ Out c L r l ∧ f_X2_findFault n σ 99 = some (fsI r, σ1) ∧ Only PW σ σ1 ∧ σ1 99 2 = σ 99 2 ∧ (r = none → Cq 100 (insAll [] l).length (lw (insAll [] l)) σ1) ∧ (r = none → ∀ y ∈ l, y.1 ≤ 9999 ∧ y.2.1 ≤ 4095 ∧ y.2.2 ≤ 1000) ∧ ∃ σ2, f_X9_fault n σ1 105 = some (fsI r, σ2) ∧ Only [105, 111] σ1 σ2 ∧ σ2 105 5 = σ 105 5 ∧ (r = none → σ2 105 9 = nI l.length ∧ Fc σ2 l ∧ l.length < 20) := by
  obtain ⟨⟨V, hV, hT, hc, hr⟩, ht, hs, ⟨L, c, hL, p1, p2, p3⟩, -⟩ := h
  obtain ⟨⟨a, σ1⟩, e1, ⟨r, l, o1, b1, b2⟩, b3, b4⟩ := fault_c (n := n) (c := c) hn hL p1 (fun j hj => ⟨(p3 j hj).1, (p3 j hj).2.2.2⟩)
  dsimp only at b1 b2 b3 b4
  subst b1
  obtain ⟨⟨a, σ2⟩, e2, ⟨r', l', o2, d1, d2⟩, d3, d4⟩ := fault_r (n := n) (σ := σ1) (c := c) hn hL (by rw [pw_n b3 (by omega)]; exact p2) (fun j hj => by rw [pw_n b3 (by omega)]; exact (p3 j hj).2)
  dsimp only at d1 d2 d3 d4
  subst d1
  obtain ⟨u1, u2⟩ := out_u o1 o2
  subst u1
  have lenl : r = none → l.length < 20 ∧ ∀ y ∈ l, y.1 ≤ 9999 ∧ y.2.1 ≤ 4095 ∧ y.2.2 ≤ 1000 := by
    intro hr
    subst hr
    rcases o1 with ⟨p, x, q, -⟩ | ⟨-, x, q1, q2⟩
    · cases q
    · have hx := xok_run q1
      obtain ⟨ph, u, t, s, l0⟩ := x
      unfold Xok at hx
      dsimp only at hx
      obtain ⟨a1, a2, a3, a4, a5, a6, a7, a8⟩ := hx
      unfold fin at q2
      dsimp only at q2
      split at q2
      · rename_i z
        cases q2
        have a4 := a4 z.1
        refine ⟨by rw [List.length_append]; simp; omega, ?_⟩
        intro y hy
        rw [List.mem_append] at hy
        rcases hy with hy | hy
        · exact a8 y hy
        · simp at hy
          subst hy
          exact ⟨a5, a6, by dsimp only; omega⟩
      · cases q2
  refine ⟨r, l, σ1, L, c, ⟨hL, p1, p2, p3⟩, o1, e1, b3, b4, b2, fun z => (lenl z).2, σ2, e2, d3, by rw [d4, p2], fun z => ?_⟩
  have := u2 z
  subst this
  exact ⟨(d2 z).1, (d2 z).2, (lenl z).1⟩
theorem Inv_scratch {σ σ1 σ2 : Mem} (h : Inv σ) (o1 : Only PW σ σ1) (h1 : σ1 99 2 = σ 99 2) (o2 : Only [105, 111] σ1 σ2) (h2 : σ2 105 5 = σ 105 5) : Inv σ2 := by
  have hh := h
  obtain ⟨⟨V, hV, hT, hc, hr⟩, ht, hs, ⟨L, c, hL, p1, p2, p3⟩, -⟩ := h
  have e : ∀ a, ¬ (99 ≤ a ∧ a ≤ 103) → a ≠ 105 → a ≠ 111 → σ2 a = σ a := fun a q1 q2 q3 => (rf_n o2 q2 q3).trans (pw_n o1 q1)
  refine Inv_text hh (fun a _ q1 q2 _ q3 => e a q1 q2 q3) ⟨e _ (by omega) (by omega) (by omega), e _ (by omega) (by omega) (by omega), e _ (by omega) (by omega) (by omega)⟩ hV hT (Rc_same hc (fun a _ _ => e a (by omega) (by omega) (by omega))) (by rw [e 106 (by omega) (by omega) (by omega)]; exact hr) ⟨L, c, hL, ?_, ?_, ?_⟩
  · rw [rf_n o2 (by omega) (by omega), h1]; exact p1
  · rw [h2]; exact p2
  · rw [e 104 (by omega) (by omega) (by omega), e 110 (by omega) (by omega) (by omega)]
    exact p3
theorem op_fault {n : Nat} (hn : 1200 < n) {σ : Mem} (h : Inv σ) : Sim (f_X8_fault n σ 0) (fun σ => f_X9_fault n σ 105) := by
  obtain ⟨r, l, σ1, -, -, -, -, e1, o1, a1, a2, a3, σ2, e2, o2, b1, b2⟩ := two_fault hn h
  unfold f_X8_fault
  rw [p04, e1, bnd2_s]
  exact ⟨_, rfl, _, e2, rfl, Inv_scratch h o1 a1 o2 b1⟩
/-- rows as a list -/
def tkl (W : Sh) : Nat → Nat → List Cu
  | _, 0 => []
  | a, n + 1 => (W 0 a, W 1 a, W 2 a) :: tkl W (a + 1) n
theorem tkl_len (W : Sh) : ∀ n a, (tkl W a n).length = n
  | 0, _ => rfl
  | n + 1, a => by
    show (tkl W (a + 1) n).length + 1 = n + 1
    rw [tkl_len W n]
theorem tkl_lw (W : Sh) {r : Nat} (hr : r < 3) : ∀ n a k, k < n → lw (tkl W a n) r k = W r (a + k)
  | 0, a, k, h => by omega
  | n + 1, a, 0, _ => by
    have : r = 0 ∨ r = 1 ∨ r = 2 := by omega
    rcases this with q | q | q <;> subst q <;> rfl
  | n + 1, a, k + 1, h => by
    show lw (tkl W (a + 1) n) r k = _
    rw [tkl_lw W hr n (a + 1) k (by omega), show a + 1 + k = a + (k + 1) by omega]
theorem tkl_mem {W : Sh} {y : Cu} : ∀ n a, y ∈ tkl W a n → ∃ k, a ≤ k ∧ k < a + n ∧ y = (W 0 k, W 1 k, W 2 k)
  | 0, a, h => by
    have h : y ∈ ([] : List Cu) := h
    simp at h
  | n + 1, a, h => by
    have h : y ∈ (W 0 a, W 1 a, W 2 a) :: tkl W (a + 1) n := h
    rw [List.mem_cons] at h
    rcases h with h | h
    · exact ⟨a, by omega, by omega, h⟩
    · obtain ⟨k, k1, k2, k3⟩ := tkl_mem n (a + 1) h
      exact ⟨k, by omega, by omega, k3⟩
theorem tkl_srt {W : Sh} {N : Nat} (h : ∀ i d, i + d < N → W 0 i ≤ W 0 (i + d)) : ∀ n a, a + n ≤ N → Srt (tkl W a n)
  | 0, _, _ => trivial
  | n + 1, a, hn => by
    refine ⟨?_, tkl_srt h n (a + 1) (by omega)⟩
    intro y hy
    obtain ⟨k, k1, k2, rfl⟩ := tkl_mem n (a + 1) hy
    have := h a (k - a) (by omega)
    rw [show a + (k - a) = k by omega] at this
    exact this
theorem srt_lw : ∀ {M : List Cu} {k : Nat}, Srt M → k + 1 < M.length → lw M 0 k ≤ lw M 0 (k + 1)
  | [], k, _, h => by
    have h : k + 1 < 0 := h
    omega
  | x :: xs, 0, hs, h => by
    have h : 0 + 1 < xs.length + 1 := h
    obtain ⟨y, y1, y2⟩ := lw_mem (r := 0) (M := xs) (i := 0) (by omega)
    show x.1 ≤ lw xs 0 0
    rw [y2]
    exact hs.1 y y1
  | x :: xs, k + 1, hs, h => by
    have h : k + 1 + 1 < xs.length + 1 := h
    show lw xs 0 k ≤ lw xs 0 (k + 1)
    exact srt_lw hs.2 (by omega)
theorem lw_mid (r : Nat) (y : Cu) : ∀ (S1 S2 : List Cu), lw (S1 ++ y :: S2) r S1.length = cmp r y
  | [], _ => rfl
  | _ :: zs, S2 => lw_mid r y zs S2
def Bnd (m : Nat) (M : List Cu) : Prop := ∀ y ∈ M, y.1 ≤ m ∧ y.2.1 ≤ 4095 ∧ y.2.2 ≤ 1000
theorem bnd_all {B l : List Cu} {d : Nat} (hB : Bnd 100000 B) (hl : Bnd 9999 l) (hd : d ≤ 90000) : Bnd 100000 (insAll B (l.map (ltr d))) := by
  intro y hy
  rcases insAll_mem hy with h | h
  · exact hB y h
  · rw [List.mem_map] at h
    obtain ⟨z, z1, rfl⟩ := h
    have := hl z z1
    exact ⟨by show z.1 + d ≤ 100000; omega, this.2⟩
theorem bnd_ins {l : List Cu} {m : Nat} (hl : Bnd m l) : Bnd m (insAll [] l) := by
  intro y hy
  rcases insAll_mem hy with h | h
  · simp at h
  · exact hl y h
/-- class: the found cues go in, in their order -/
theorem readloop_c {σ : Mem} {n d : Nat} {B S : List Cu} (hn : 1200 < n) (hd : d ≤ 90000) (hq : Cq 21 B.length (lw B) σ) (hf : Cq 100 S.length (lw S) σ) (hlen : B.length + S.length ≤ 60) (hB : Bnd 100000 B) (hS : Bnd 9999 S) : Ret (f_X8_read_L61 n σ 0 (nI d) (nI S.length) 0) (fun q => q.1 = nI S.length ∧ Cq 21 (B.length + S.length) (lw (insAll B (S.map (ltr d)))) q.2 ∧ q.2 99 2 = 0 ∧ ∀ a, ¬ (21 ≤ a ∧ a ≤ 24) → a ≠ 99 → q.2 a = σ a) := by
  unfold f_X8_read_L61
  refine Ret_for S.length (fun i s => ∃ S1 S2, S = S1 ++ S2 ∧ S1.length = i ∧ Cq 21 (B.length + i) (lw (insAll B (S1.map (ltr d)))) s ∧ ∀ a, ¬ (21 ≤ a ∧ a ≤ 24) → s a = σ a) ?_ ?_ (i := 0) (Nat.zero_le _) (by omega) ⟨[], S, rfl, rfl, hq, fun _ _ => rfl⟩
  · rintro i s hi ⟨S1, S2, hsp, rfl, hq1, he⟩
    cases S2 with
    | nil =>
      rw [hsp, List.append_nil] at hi
      omega
    | cons y S2 =>
      have hy := hS y (by rw [hsp]; simp)
      have hlw : ∀ r, lw S r S1.length = cmp r y := fun r => by rw [hsp]; exact lw_mid r y S1 S2
      obtain ⟨f1, f2, f3⟩ := hf.2 S1.length hi
      rw [hlw] at f1 f2 f3
      have k1 : s 101 = σ 101 := he 101 (by omega)
      have k2 : s 102 = σ 102 := he 102 (by omega)
      have k3 : s 103 = σ 103 := he 103 (by omega)
      unfold f_X8_read_B61
      dsimp only
      rw [if_neg (c := nI S.length ≤ nI S1.length) (nil hi (by omega)), p04, p00, P0_4 SB1, show ptr (ptr 99 0) 0 = 101 from rfl, show ptr (ptr 99 0) 1 = 102 from rfl, show ptr (ptr 99 0) 2 = 103 from rfl, show alen 101 = 60 from rfl, show alen 102 = 60 from rfl, show alen 103 = 60 from rfl, ckI_nI (by omega) (by decide), chk_t, chk_t, chk_t, ix_nI (by omega), k1, k2, k3, f1, f2, f3]
      have t1 : nI (cmp 0 y) + nI d = nI (y.1 + d) := nI_add _ _
      rw [t1]
      have mlen : (insAll B (S1.map (ltr d))).length = B.length + S1.length := by rw [insAll_len, List.length_map]
      have hS1 : Bnd 9999 S1 := fun z hz => hS z (by rw [hsp]; simp [hz])
      obtain ⟨⟨r, s1⟩, e1, a1, a2⟩ := insert_l (k := 1 + 20) (n := n) (t := y.1 + d) (s := y.2.1) (v := y.2.2) (M := insAll B (S1.map (ltr d))) (σ := s) (CB_b SB1) (by rw [mlen]; exact hq1) (by omega) (by omega) (by omega) (fun z hz => by have := (bnd_all hB hS1 hd z hz).1; omega)
      dsimp only at a1 a2
      rw [show nI (cmp 1 y) = nI y.2.1 from rfl, show nI (cmp 2 y) = nI y.2.2 from rfl, e1, bnd2_s]
      refine Ret_nm (Ret_some ⟨s1, by rw [show (1 : Int32) = nI 1 from rfl, nI_add], S1 ++ [y], S2, ?_, ?_, ?_, ?_⟩)
      · rw [hsp, List.append_assoc]
        rfl
      · rw [List.length_append]
        rfl
      · have e2 : insAll B ((S1 ++ [y]).map (ltr d)) = ins (y.1 + d, y.2.1, y.2.2) (insAll B (S1.map (ltr d))) := by
          rw [List.map_append, insAll_app]
          rfl
        rw [e2]
        rw [ins_len, mlen] at a1
        exact a1
      · intro a ha
        rw [a2 a (by simp; omega)]
        exact he a ha
  · rintro s ⟨S1, S2, hsp, hl, hq1, he⟩
    have : S2 = [] := by
      have : S.length = S1.length + S2.length := by rw [hsp, List.length_append]
      cases S2 with
      | nil => rfl
      | cons y ys => rw [List.length_cons] at this; omega
    subst this
    rw [List.append_nil] at hsp
    subst hsp
    unfold f_X8_read_B61
    dsimp only
    rw [if_pos (c := nI S.length ≤ nI S.length) (Int32.le_refl _), p04]
    refine Ret_nm (Ret_some ⟨rfl, ?_, by dsimp only; exact gst_s2, ?_⟩)
    · refine ⟨by dsimp only; rw [gst_row (by decide)]; exact hq1.1, fun j hj => ?_⟩
      dsimp only
      rw [gst_row (by decide), gst_row (by decide), gst_row (by decide)]
      exact hq1.2 j hj
    · intro a h1 h2
      dsimp only
      rw [gst_row h2]
      exact he a h1
/-- the reference: in the text's order -/
theorem readloop_r {σ : Mem} {n d : Nat} {B S : List Cu} (hn : 1200 < n) (hd : d ≤ 90000) (h0 : σ 106 940 = nI B.length) (hq : Cr B.length (lw B) (σ 106)) (hsB : Srt B) (h9 : σ 105 9 = nI S.length) (hf : Fc σ S) (hlen : B.length + S.length ≤ 60) (hS20 : S.length < 20) (hB : Bnd 100000 B) (hS : Bnd 9999 S) : Ret (f_X9_read_L48 n σ 105 (nI d) 0) (fun q => q.1 = nI S.length ∧ q.2 106 940 = nI (B.length + S.length) ∧ Cr (B.length + S.length) (lw (insAll B (S.map (ltr d)))) (q.2 106) ∧ q.2 105 5 = 0 ∧ (∀ a, a < 940 → q.2 106 a = σ 106 a) ∧ ∀ a, a ≠ 105 → a ≠ 106 → q.2 a = σ a) := by
  unfold f_X9_read_L48
  refine Ret_for S.length (fun i s => ∃ S1 S2, S = S1 ++ S2 ∧ S1.length = i ∧ s 106 940 = nI (B.length + i) ∧ Cr (B.length + i) (lw (insAll B (S1.map (ltr d)))) (s 106) ∧ (∀ a, a < 940 → s 106 a = σ 106 a) ∧ Only [106] σ s) ?_ ?_ (i := 0) (Nat.zero_le _) (by omega) ⟨[], S, rfl, rfl, h0, hq, fun _ _ => rfl, fun _ _ => rfl⟩
  · rintro i s hi ⟨S1, S2, hsp, rfl, h01, hq1, hl9, he⟩
    cases S2 with
    | nil =>
      rw [hsp, List.append_nil] at hi
      omega
    | cons y S2 =>
      have hy := hS y (by rw [hsp]; simp)
      have hlw : ∀ r, lw S r S1.length = cmp r y := fun r => by rw [hsp]; exact lw_mid r y S1 S2
      have f1 := hf S1.length hi 0 (by decide)
      have f2 := hf S1.length hi 1 (by decide)
      have f3 := hf S1.length hi 2 (by decide)
      rw [hlw] at f1 f2 f3
      have k1 : s 111 = σ 111 := he 111 (by decide)
      have k5 : s 105 9 = nI S.length := by rw [he 105 (by decide)]; exact h9
      unfold f_X9_read_B48
      dsimp only
      rw [if_neg (c := s 105 9 ≤ nI S1.length) (by rw [k5]; exact nil hi (by omega)), PM8, AM5, show (3 : Int32) = nI 3 from rfl, show (1 : Int32) = nI 1 from rfl, show (2 : Int32) = nI 2 from rfl, nI_mul, nI_add, nI_add, ckI_nI (by omega) (by decide), ckI_nI (by omega) (by decide), ckI_nI (by omega) (by decide), chk_t, chk_t, chk_t, ix_nI (by omega), ix_nI (by omega), ix_nI (by omega), k1, show 3 * S1.length = 3 * S1.length + 0 from rfl, f1, show 3 * S1.length + 0 + 1 = 3 * S1.length + 1 from rfl, show 3 * S1.length + 0 + 2 = 3 * S1.length + 2 from rfl, f2, f3]
      have t1 : nI (cmp 0 y) + nI d = nI (y.1 + d) := nI_add _ _
      rw [t1]
      have mlen : (insAll B (S1.map (ltr d))).length = B.length + S1.length := by rw [insAll_len, List.length_map]
      have hS1 : Bnd 9999 S1 := fun z hz => hS z (by rw [hsp]; simp [hz])
      have hso : Srt (insAll B (S1.map (ltr d))) := insAll_srt hsB
      obtain ⟨⟨r, s1⟩, j, e1, j1, a0, a1, a2, a3, a4⟩ := insert9_ok (n := n) (σ := s) (N := B.length + S1.length) (W := lw (insAll B (S1.map (ltr d)))) (t := y.1 + d) (s := y.2.1) (v := y.2.2) h01 hq1 (by omega) (by omega) (by omega) (fun i hi => by
        obtain ⟨z, z1, z2⟩ := lw_mem (r := 0) (M := insAll B (S1.map (ltr d))) (i := i) (by rw [mlen]; exact hi)
        have := (bnd_all hB hS1 hd z z1).1
        have e : cmp 0 z = z.1 := rfl
        rw [z2, e]
        omega) (fun i hi => srt_lw hso (by rw [mlen]; exact hi))
      dsimp only at a0 a1 a2 a3 a4
      rw [show nI (cmp 1 y) = nI y.2.1 from rfl, show nI (cmp 2 y) = nI y.2.2 from rfl, e1, bnd2_s]
      refine Ret_nm (Ret_some ⟨s1, by rw [nI_add], S1 ++ [y], S2, ?_, ?_, ?_, ?_, ?_, he.one a3⟩)
      · rw [hsp, List.append_assoc]
        rfl
      · rw [List.length_append]
        rfl
      · exact a1
      · have e2 : insAll B ((S1 ++ [y]).map (ltr d)) = ins (y.1 + d, y.2.1, y.2.2) (insAll B (S1.map (ltr d))) := by
          rw [List.map_append, insAll_app]
          rfl
        rw [e2]
        rw [← mlen] at j1
        exact cr_eq a2 (fun r i hr hi => ins_lw j1 r i hr (by rw [mlen]; exact hi))
      · intro a ha
        rw [a4 a ha]
        exact hl9 a ha
  · rintro s ⟨S1, S2, hsp, hl, h01, hq1, hl9, he⟩
    have : S2 = [] := by
      have : S.length = S1.length + S2.length := by rw [hsp, List.length_append]
      cases S2 with
      | nil => rfl
      | cons y ys => rw [List.length_cons] at this; omega
    subst this
    rw [List.append_nil] at hsp
    subst hsp
    have k5 : s 105 9 = nI S.length := by rw [he 105 (by decide)]; exact h9
    unfold f_X9_read_B48
    dsimp only
    rw [if_pos (c := s 105 9 ≤ nI S.length) (by rw [k5]; exact Int32.le_refl _)]
    refine Ret_nm (Ret_some ⟨?_, ?_, ?_, by dsimp only; exact gst_s2, ?_, ?_⟩)
    · dsimp only
      rw [gst_n2 (by decide)]; exact k5
    · dsimp only
      rw [gst_row (a := 106) (k := 105) (by decide)]; exact h01
    · dsimp only
      rw [gst_row (a := 106) (k := 105) (by decide)]; exact hq1
    · dsimp only
      rw [gst_row (a := 106) (k := 105) (by decide)]; exact hl9
    · intro a h1 h2
      dsimp only
      rw [gst_row h1]
      exact he a (by simp [h2])
theorem op_read {n : Nat} (hn : 1200 < n) {σ : Mem} (h : Inv σ) (x : Int32) : Sim (f_X8_read n σ 0 x) (fun σ => f_X9_read n σ 105 x) := by
  have hh := h
  obtain ⟨r, l, σ1, L, c, ⟨hL, p1, p2, p3⟩, ou, e1, o1, a1, a2, a3, σ2, e2, o2, b1, b2⟩ := two_fault hn h
  obtain ⟨⟨V, hV, hT, hc, hr⟩, ht, hs, -, -⟩ := h
  have hS := hV.2.2.1
  unfold VokS at hS
  have is := Inv_scratch hh o1 a1 o2 b1
  unfold f_X8_read
  rw [p04, e1, bnd2_s]
  cases r with
  | some p =>
    have hp : p ≤ 80 := by
      rcases ou with ⟨p', x, z, -, z2⟩ | ⟨z, -⟩
      · cases z
        rcases z2 with ⟨z2, -⟩ | ⟨z2, -⟩ <;> omega
      · cases z
    have hne : ¬ fsI (some p) = -6 := by
      intro z
      have : (nI p).toInt = (-6 : Int32).toInt := by
        have z : nI p = -6 := z
        rw [z]
      rw [nI_toInt (by omega), show (-6 : Int32).toInt = -6 from rfl] at this
      omega
    rw [if_neg (c := (fsI (some p), σ1).1 = -6) hne]
    refine ⟨_, rfl, ?_⟩
    dsimp only
    unfold f_X9_read
    rw [e2, bnd2_s, if_neg (c := (fsI (some p), σ2).1 = -6) hne]
    exact ⟨_, rfl, rfl, is⟩
  | none =>
    obtain ⟨b3, b4, b5⟩ := b2 rfl
    have fq := a2 rfl
    have fb : Bnd 9999 l := a3 rfl
    have f6 : fsI none = -6 := rfl
    rw [if_pos (c := (fsI none, σ1).1 = -6) f6, in_X8, bnd_s]
    by_cases c1 : (0 : Int32) ≤ x ∧ x ≤ 90000
    · obtain ⟨d, d1, rfl⟩ := of_in (m := 90000) (by decide) c1
      have g1 : ∀ a, ¬ (99 ≤ a ∧ a ≤ 103) → σ1 a = σ a := fun a ha => pw_n o1 ha
      have slen : (insAll [] l).length = l.length := by rw [insAll_len]; simp
      have c7 : σ1 21 3 = nI (V 18 7) := by rw [g1 21 (by omega)]; exact (rc_cq hc).1
      have f7 : σ1 100 3 = nI l.length := by rw [fq.1, slen]
      rw [if_pos c1, if10, show ptr 99 0 = 100 from rfl, p00, P0_4 SB1, show (1 : Nat) + 20 = 21 from rfl]
      unfold nm
      dsimp only
      by_cases c2 : V 18 7 + l.length ≤ 60
      · rw [if_pos (c := σ1 21 3 + σ1 100 3 ≤ 60) (by rw [c7, f7, nI_add]; exact il (c := 60) c2 (by decide)), f7]
        have hW := wok_V hV
        have hmono : ∀ i q, i + q < V 18 7 → cuesV V 0 i ≤ cuesV V 0 (i + q) := by
          intro i q
          induction q with
          | zero => intro _; exact Nat.le_refl _
          | succ q ih => intro hi; exact Nat.le_trans (ih (by omega)) (hW.2 (i + q) (by omega))
        have blen := tkl_len (cuesV V) (V 18 7) 0
        have bsrt : Srt (tkl (cuesV V) 0 (V 18 7)) := tkl_srt hmono (V 18 7) 0 (by omega)
        have blw : ∀ r k, r < 3 → k < V 18 7 → lw (tkl (cuesV V) 0 (V 18 7)) r k = cuesV V r k := fun r k hr hk => by rw [tkl_lw _ hr _ _ _ hk, Nat.zero_add]
        have bb : Bnd 100000 (tkl (cuesV V) 0 (V 18 7)) := by
          intro y hy
          obtain ⟨k, -, k2, rfl⟩ := tkl_mem _ _ hy
          exact hW.1 k (by omega)
        generalize tkl (cuesV V) 0 (V 18 7) = B at blen bsrt blw bb
        have cq1 : Cq 21 B.length (lw B) σ1 := by
          rw [blen]
          refine cq_eq (W := cuesV V) ?_ (fun r i hr hi => (blw r i hr hi).symm)
          have := rc_cq hc
          refine ⟨c7, fun j hj => ?_⟩
          rw [g1 (21 + 1) (by omega), g1 (21 + 2) (by omega), g1 (21 + 3) (by omega)]
          exact this.2 j hj
        have lc := readloop_c (n := n) (σ := σ1) (S := insAll [] l) hn d1 cq1 fq (by rw [slen]; omega) bb (bnd_ins fb)
        rw [slen, read_same] at lc
        obtain ⟨⟨q1, σ3⟩, f1, k1, k2, k3, k4⟩ := lc
        dsimp only at k1 k2 k3 k4
        refine ⟨_, f1, ?_⟩
        dsimp only
        have pad : ∀ a, ¬ (99 ≤ a ∧ a ≤ 103) → ¬ (21 ≤ a ∧ a ≤ 24) → σ3 a = σ a := by
          intro a h1 h2
          rw [k4 a h2 (by omega), g1 a h1]
        obtain ⟨⟨a, σ4⟩, e4, ⟨r', l', u2, d2, d3⟩, d4, d5⟩ := fault_r (n := n) (σ := σ3) (c := c) hn hL (by rw [pad 105 (by omega) (by omega)]; exact p2) (fun j hj => by rw [pad 110 (by omega) (by omega)]; exact (p3 j hj).2)
        dsimp only at d2 d3 d4 d5
        obtain ⟨w1, w2⟩ := out_u ou u2
        subst w1
        have := w2 rfl
        subst this
        subst d2
        obtain ⟨d6, d7⟩ := d3 rfl
        have s6 : σ4 106 = σ 106 := by rw [rf_n d4 (by omega) (by omega), pad 106 (by omega) (by omega)]
        have r7 : σ4 106 940 = nI (V 18 7) := by rw [s6]; exact (rr_sets hr).2.2.2.2.2.2.2.2.2.2.2.2.2
        unfold f_X9_read
        rw [e4, bnd2_s, if_pos (c := (fsI none, σ4).1 = -6) f6, in_X9, bnd_s, if_pos c1, if10, PM0, AM0, show ckI 940 1121 = true from rfl, chk_t, show ix 940 = 940 from rfl]
        rw [if_pos (c := σ4 106 940 + σ4 105 9 ≤ 60) (by rw [r7, d6, nI_add]; exact il (c := 60) c2 (by decide))]
        obtain ⟨⟨q5, σ5⟩, e5, m1, m2, m3, m4, m5, m6⟩ := readloop_r (n := n) (σ := σ4) (S := l) (B := B) hn d1 (by rw [r7, blen]) (by
          rw [blen, s6]
          exact cr_eq (rr_cr hr) (fun r i hr hi => (blw r i hr hi).symm)) bsrt d6 d7 (by omega) b5 bb fb
        dsimp only at m1 m2 m3 m4 m5 m6
        refine ⟨_, e5, by rw [k1, m1], ?_⟩
        dsimp only
        have mlen : (insAll B (l.map (ltr d))).length = B.length + l.length := by rw [insAll_len, List.length_map]
        have mb := bnd_all bb fb d1
        have ms : Srt (insAll B (l.map (ltr d))) := insAll_srt bsrt
        have m7 : ∀ a, a ≠ 105 → a ≠ 106 → a ≠ 111 → σ5 a = σ3 a := fun a h1 h2 h3 => (m6 a h1 h2).trans (rf_n d4 h1 h3)
        generalize insAll B (l.map (ltr d)) = M at k2 m3 mlen mb ms
        have wk : Wok (B.length + l.length) (lw M) := by
          refine ⟨fun k hk => ?_, fun k hk => srt_lw ms (by rw [mlen]; exact hk)⟩
          obtain ⟨y0, y1, y2⟩ := lw_mem (r := 0) (M := M) (i := k) (by rw [mlen]; exact hk)
          obtain ⟨y3, y4, y5⟩ := lw_mem (r := 1) (M := M) (i := k) (by rw [mlen]; exact hk)
          obtain ⟨y6, y7, y8⟩ := lw_mem (r := 2) (M := M) (i := k) (by rw [mlen]; exact hk)
          rw [y2, y5, y8]
          exact ⟨(mb y0 y1).1, (mb y3 y4).2.1, (mb y6 y7).2.2⟩
        refine Inv_text hh (V := setC V (B.length + l.length) (lw M)) (fun a h1 h2 h3 h4 h5 => (m7 a h3 h4 h5).trans (pad a h2 (by omega))) ⟨(m7 2 (by omega) (by omega) (by omega)).trans (pad 2 (by omega) (by omega)), (m7 5 (by omega) (by omega) (by omega)).trans (pad 5 (by omega) (by omega)), (m7 15 (by omega) (by omega) (by omega)).trans (pad 15 (by omega) (by omega))⟩ (vok_setC hV (by omega) wk.1 wk.2) (by rw [setC_18 (by decide)]; exact hT) ?_ ?_ ⟨0, c, by omega, ?_, ?_, fun j hj => by omega⟩
        · refine rc_setC' hc (fun a h1 h2 => (m7 a (by omega) (by omega) (by omega)).trans (pad a (by omega) (by omega))) ?_
          refine ⟨?_, fun j hj => ?_⟩
          · rw [m7 (1 + 20) (by omega) (by omega) (by omega)]
            exact k2.1
          · rw [m7 (1 + 20 + 1) (by omega) (by omega) (by omega), m7 (1 + 20 + 2) (by omega) (by omega) (by omega), m7 (1 + 20 + 3) (by omega) (by omega) (by omega)]
            exact k2.2 j hj
        · exact rr_setC hr (by omega) (fun a ha => by rw [m5 a ha, s6]) m2 m3
        · rw [m7 99 (by omega) (by omega) (by omega), k3]
          rfl
        · rw [m4]
          rfl
      · have c2' : ¬ nI (V 18 7 + l.length) ≤ 60 := nil (c := 60) (by omega) (by omega)
        rw [if_neg (c := σ1 21 3 + σ1 100 3 ≤ 60) (by rw [c7, f7, nI_add]; exact c2')]
        refine ⟨_, rfl, ?_⟩
        dsimp only
        have r7 : σ2 106 940 = nI (V 18 7) := by rw [rf_n o2 (by omega) (by omega), g1 106 (by omega)]; exact (rr_sets hr).2.2.2.2.2.2.2.2.2.2.2.2.2
        unfold f_X9_read
        rw [e2, bnd2_s, if_pos (c := (fsI none, σ2).1 = -6) f6, in_X9, bnd_s, if_pos c1, if10, PM0, AM0, show ckI 940 1121 = true from rfl, chk_t, show ix 940 = 940 from rfl]
        rw [if_neg (c := σ2 106 940 + σ2 105 9 ≤ 60) (by rw [r7, b3, nI_add]; exact c2')]
        exact ⟨_, rfl, rfl, is⟩
    · rw [if_neg c1, if00]
      refine ⟨_, rfl, ?_⟩
      dsimp only
      unfold f_X9_read
      rw [e2, bnd2_s, if_pos (c := (fsI none, σ2).1 = -6) f6, in_X9, bnd_s, if_neg c1, if00]
      exact ⟨_, rfl, rfl, is⟩
