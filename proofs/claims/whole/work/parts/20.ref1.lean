/-! THE REFERENCE'S ROW: the same numbers in its layout -/
def RrB (T M K : Nat) (V : Sh) (f : Nat → Int32) : Prop := (∀ i, i < M → ∀ j, j < 12 → f (12 * i + j) = nI (V j i)) ∧ (∀ p, p < 3 → ∀ j, j < 5 → f (912 + 5 * p + j) = nI (V (12 + j) p)) ∧ (∀ j, j < 6 → f (927 + j) = nI (V 17 j)) ∧ (∀ j, j < 8 → f (933 + j) = nI (V 18 j)) ∧ (∀ k, k < K → ∀ c, c < 3 → f (941 + 3 * k + c) = nI (V (19 + c) k)) ∧ ∀ i t, i < M → t < T → T ≤ t + 50 → f (144 + 64 * i + t % 64) = nI (V (22 + t) i)
def RrA (V : Sh) (f : Nat → Int32) : Prop := RrB (V 18 4) (V 18 5) (V 18 7) V f
def vrow (V : Sh) (r : Nat) (g : Nat → Nat) : Sh := fun r' c => if r' = r then g c else V r' c
theorem vrow_s (V : Sh) (r : Nat) (g : Nat → Nat) : vrow V r g r = g := by funext c; unfold vrow; rw [if_pos rfl]
theorem vrow_n {V : Sh} {r r' : Nat} {g : Nat → Nat} (h : r' ≠ r) : vrow V r g r' = V r' := by funext c; unfold vrow; rw [if_neg h]
theorem vrow_vrow (V : Sh) (r : Nat) (g g' : Nat → Nat) : vrow (vrow V r g) r g' = vrow V r g' := by
  funext r' c
  unfold vrow
  split <;> rfl
theorem gst_self (σ : Mem) (k j : Nat) (v : Int32) : gst σ k j v k = upd (σ k) j v := by unfold gst; exact gput_s _ _ _
theorem gst_only (σ : Mem) (k j : Nat) (v : Int32) : Only [k] σ (gst σ k j v) := fun a ha => gst_row (by intro e; subst e; simp at ha)
theorem Only.one {k : Nat} {σ σ1 σ2 : Mem} (h1 : Only [k] σ σ1) (h2 : Only [k] σ1 σ2) : Only [k] σ σ2 := fun a h => (h2 a h).trans (h1 a h)
theorem upd_s {f : Nat → Int32} {x : Nat} {v : Int32} : upd f x v x = v := by unfold upd; rw [if_pos rfl]
theorem upd_n {f : Nat → Int32} {x y : Nat} {v : Int32} (h : y ≠ x) : upd f x v y = f y := by unfold upd; rw [if_neg h]
theorem rr_noz {T M K : Nat} {V V' : Sh} {f : Nat → Int32} {i j v : Nat} (h : RrB T M K V f) (hM : M ≤ 12) (hi : i < M) (hj : j < 12) (hnew : V' j i = v) (hsame : ∀ r c, ¬ (r = j ∧ c = i) → V' r c = V r c) : RrB T M K V' (upd f (12 * i + j) (nI v)) := by
  obtain ⟨h1, h2, h3, h4, h5, h6⟩ := h
  refine ⟨?_, ?_, ?_, ?_, ?_, ?_⟩
  · intro i' hi' j' hj'
    by_cases e : j' = j ∧ i' = i
    · obtain ⟨rfl, rfl⟩ := e
      rw [upd_s, hnew]
    · rw [upd_n (by omega), hsame _ _ e]
      exact h1 i' hi' j' hj'
  · intro p hp q hq
    rw [upd_n (by omega), hsame _ _ (by omega)]
    exact h2 p hp q hq
  · intro q hq
    rw [upd_n (by omega), hsame _ _ (by omega)]
    exact h3 q hq
  · intro q hq
    rw [upd_n (by omega), hsame _ _ (by omega)]
    exact h4 q hq
  · intro k hk c hc
    rw [upd_n (by omega), hsame _ _ (by omega)]
    exact h5 k hk c hc
  · intro i' t hi' h7 h8
    rw [upd_n (by omega), hsame _ _ (by omega)]
    exact h6 i' t hi' h7 h8
theorem rr_pmp {T M K : Nat} {V V' : Sh} {f : Nat → Int32} {i j v : Nat} (h : RrB T M K V f) (hM : M ≤ 12) (hi : i < 3) (hj : j < 5) (hnew : V' (12 + j) i = v) (hsame : ∀ r c, ¬ (r = 12 + j ∧ c = i) → V' r c = V r c) : RrB T M K V' (upd f (912 + 5 * i + j) (nI v)) := by
  obtain ⟨h1, h2, h3, h4, h5, h6⟩ := h
  refine ⟨?_, ?_, ?_, ?_, ?_, ?_⟩
  · intro p hp q hq
    rw [upd_n (by omega), hsame _ _ (by omega)]
    exact h1 p hp q hq
  · intro i' hi' j' hj'
    by_cases e : j' = j ∧ i' = i
    · obtain ⟨rfl, rfl⟩ := e
      rw [upd_s, hnew]
    · rw [upd_n (by omega), hsame _ _ (by omega)]
      exact h2 i' hi' j' hj'
  · intro q hq
    rw [upd_n (by omega), hsame _ _ (by omega)]
    exact h3 q hq
  · intro q hq
    rw [upd_n (by omega), hsame _ _ (by omega)]
    exact h4 q hq
  · intro k hk c hc
    rw [upd_n (by omega), hsame _ _ (by omega)]
    exact h5 k hk c hc
  · intro i' t hi' h7 h8
    rw [upd_n (by omega), hsame _ _ (by omega)]
    exact h6 i' t hi' h7 h8
theorem rr_set {T M K : Nat} {V V' : Sh} {f : Nat → Int32} {j v : Nat} (h : RrB T M K V f) (hM : M ≤ 12) (hj : j < 6) (hnew : V' 17 j = v) (hsame : ∀ r c, ¬ (r = 17 ∧ c = j) → V' r c = V r c) : RrB T M K V' (upd f (927 + j) (nI v)) := by
  obtain ⟨h1, h2, h3, h4, h5, h6⟩ := h
  refine ⟨?_, ?_, ?_, ?_, ?_, ?_⟩
  · intro p hp q hq
    rw [upd_n (by omega), hsame _ _ (by omega)]
    exact h1 p hp q hq
  · intro p hp q hq
    rw [upd_n (by omega), hsame _ _ (by omega)]
    exact h2 p hp q hq
  · intro j' hj'
    by_cases e : j' = j
    · subst e
      rw [upd_s, hnew]
    · rw [upd_n (by omega), hsame _ _ (by omega)]
      exact h3 j' hj'
  · intro q hq
    rw [upd_n (by omega), hsame _ _ (by omega)]
    exact h4 q hq
  · intro k hk c hc
    rw [upd_n (by omega), hsame _ _ (by omega)]
    exact h5 k hk c hc
  · intro i' t hi' h7 h8
    rw [upd_n (by omega), hsame _ _ (by omega)]
    exact h6 i' t hi' h7 h8
theorem rr_sca {T M K : Nat} {V V' : Sh} {f : Nat → Int32} {j v : Nat} (h : RrB T M K V f) (hM : M ≤ 12) (hj : j < 8) (hnew : V' 18 j = v) (hsame : ∀ r c, ¬ (r = 18 ∧ c = j) → V' r c = V r c) : RrB T M K V' (upd f (933 + j) (nI v)) := by
  obtain ⟨h1, h2, h3, h4, h5, h6⟩ := h
  refine ⟨?_, ?_, ?_, ?_, ?_, ?_⟩
  · intro p hp q hq
    rw [upd_n (by omega), hsame _ _ (by omega)]
    exact h1 p hp q hq
  · intro p hp q hq
    rw [upd_n (by omega), hsame _ _ (by omega)]
    exact h2 p hp q hq
  · intro q hq
    rw [upd_n (by omega), hsame _ _ (by omega)]
    exact h3 q hq
  · intro j' hj'
    by_cases e : j' = j
    · subst e
      rw [upd_s, hnew]
    · rw [upd_n (by omega), hsame _ _ (by omega)]
      exact h4 j' hj'
  · intro k hk c hc
    rw [upd_n (by omega), hsame _ _ (by omega)]
    exact h5 k hk c hc
  · intro i' t hi' h7 h8
    rw [upd_n (by omega), hsame _ _ (by omega)]
    exact h6 i' t hi' h7 h8
theorem rr_his {T M K : Nat} {V : Sh} {f : Nat → Int32} {i : Nat} {w : Int32} (h : RrB T M K V f) (hM : M ≤ 12) (hi : i < M) : RrB T M K V (upd f (144 + 64 * i + T % 64) w) := by
  obtain ⟨h1, h2, h3, h4, h5, h6⟩ := h
  refine ⟨?_, ?_, ?_, ?_, ?_, ?_⟩
  · intro p hp q hq
    rw [upd_n (by omega)]
    exact h1 p hp q hq
  · intro p hp q hq
    rw [upd_n (by omega)]
    exact h2 p hp q hq
  · intro q hq
    rw [upd_n (by omega)]
    exact h3 q hq
  · intro q hq
    rw [upd_n (by omega)]
    exact h4 q hq
  · intro k hk c hc
    rw [upd_n (by omega)]
    exact h5 k hk c hc
  · intro i' t hi' h7 h8
    rw [upd_n (by omega)]
    exact h6 i' t hi' h7 h8
theorem PM0 : ptr 105 0 = 106 := rfl
theorem PM1 : ptr 105 1 = 107 := rfl
theorem PM2 : ptr 105 2 = 108 := rfl
theorem PM3 : ptr 105 3 = 109 := rfl
theorem PM4 : ptr 105 4 = 110 := rfl
theorem PM8 : ptr 105 8 = 111 := rfl
theorem AM0 : alen 106 = 1121 := rfl
theorem AM1 : alen 107 = 1121 := rfl
theorem AM2 : alen 108 = 2242 := rfl
theorem AM3 : alen 109 = 2 := rfl
theorem AM4 : alen 110 = 80 := rfl
theorem AM5 : alen 111 = 60 := rfl
theorem l_0 : (0 : Int32) = nI 0 := rfl
theorem l_1 : (1 : Int32) = nI 1 := rfl
theorem l_2 : (2 : Int32) = nI 2 := rfl
theorem l_3 : (3 : Int32) = nI 3 := rfl
theorem l_4 : (4 : Int32) = nI 4 := rfl
theorem l_5 : (5 : Int32) = nI 5 := rfl
theorem l_6 : (6 : Int32) = nI 6 := rfl
theorem l_7 : (7 : Int32) = nI 7 := rfl
theorem l_8 : (8 : Int32) = nI 8 := rfl
theorem l_9 : (9 : Int32) = nI 9 := rfl
theorem l_10 : (10 : Int32) = nI 10 := rfl
theorem l_11 : (11 : Int32) = nI 11 := rfl
theorem l_12 : (12 : Int32) = nI 12 := rfl
theorem l_30 : (30 : Int32) = nI 30 := rfl
theorem l_50 : (50 : Int32) = nI 50 := rfl
theorem l_51 : (51 : Int32) = nI 51 := rfl
theorem l_60 : (60 : Int32) = nI 60 := rfl
theorem l_64 : (64 : Int32) = nI 64 := rfl
theorem l_80 : (80 : Int32) = nI 80 := rfl
theorem l_100 : (100 : Int32) = nI 100 := rfl
theorem l_144 : (144 : Int32) = nI 144 := rfl
theorem l_150 : (150 : Int32) = nI 150 := rfl
theorem l_200 : (200 : Int32) = nI 200 := rfl
theorem l_300 : (300 : Int32) = nI 300 := rfl
theorem l_500 : (500 : Int32) = nI 500 := rfl
theorem l_912 : (912 : Int32) = nI 912 := rfl
theorem l_927 : (927 : Int32) = nI 927 := rfl
theorem l_928 : (928 : Int32) = nI 928 := rfl
theorem l_929 : (929 : Int32) = nI 929 := rfl
theorem l_930 : (930 : Int32) = nI 930 := rfl
theorem l_931 : (931 : Int32) = nI 931 := rfl
theorem l_932 : (932 : Int32) = nI 932 := rfl
theorem l_933 : (933 : Int32) = nI 933 := rfl
theorem l_934 : (934 : Int32) = nI 934 := rfl
theorem l_935 : (935 : Int32) = nI 935 := rfl
theorem l_936 : (936 : Int32) = nI 936 := rfl
theorem l_937 : (937 : Int32) = nI 937 := rfl
theorem l_938 : (938 : Int32) = nI 938 := rfl
theorem l_939 : (939 : Int32) = nI 939 := rfl
theorem l_940 : (940 : Int32) = nI 940 := rfl
theorem l_941 : (941 : Int32) = nI 941 := rfl
theorem l_1000 : (1000 : Int32) = nI 1000 := rfl
theorem l_1024 : (1024 : Int32) = nI 1024 := rfl
theorem l_1121 : (1121 : Int32) = nI 1121 := rfl
theorem l_2000 : (2000 : Int32) = nI 2000 := rfl
theorem l_100000 : (100000 : Int32) = nI 100000 := rfl
theorem l_200000 : (200000 : Int32) = nI 200000 := rfl
/-- a row that is new up to a place -/
def vcut (V : Sh) (r : Nat) (g : Nat → Nat) (i : Nat) : Sh := vrow V r (fun c => if c < i then g c else V r c)
theorem vcut_0 (V : Sh) (r : Nat) (g : Nat → Nat) : vcut V r g 0 = V := by
  funext r' c
  unfold vcut vrow
  by_cases e : r' = r
  · subst e; simp
  · rw [if_neg e]
theorem vcut_new (V : Sh) (r : Nat) (g : Nat → Nat) (i : Nat) : vcut V r g (i + 1) r i = g i := by
  unfold vcut vrow
  simp
theorem vcut_same (V : Sh) (r : Nat) (g : Nat → Nat) (i : Nat) : ∀ r' c, ¬ (r' = r ∧ c = i) → vcut V r g (i + 1) r' c = vcut V r g i r' c := by
  intro r' c h
  unfold vcut vrow
  by_cases e : r' = r
  · simp only [if_pos e]
    by_cases q : c < i
    · rw [if_pos q, if_pos (by omega)]
    · rw [if_neg q, if_neg (by omega)]
  · rw [if_neg e, if_neg e]
theorem vcut_at {V : Sh} {r : Nat} {g : Nat → Nat} {i c : Nat} (h : i ≤ c) : vcut V r g i r c = V r c := by
  unfold vcut vrow
  simp only [if_pos]
  rw [if_neg (by omega)]
theorem vcut_lt {V : Sh} {r : Nat} {g : Nat → Nat} {i c : Nat} (h : c < i) : vcut V r g i r c = g c := by
  unfold vcut vrow
  simp only [if_pos]
  rw [if_pos h]
theorem vcut_n {V : Sh} {r r' : Nat} {g : Nat → Nat} {i : Nat} (h : r' ≠ r) : vcut V r g i r' = V r' := vrow_n h
theorem rr_ext {T M K : Nat} {V V' : Sh} {f : Nat → Int32} (h : RrB T M K V f) (hn : ∀ i, i < M → ∀ j, j < 12 → V' j i = V j i) (hp : ∀ p, p < 3 → ∀ j, j < 5 → V' (12 + j) p = V (12 + j) p) (hr : ∀ r, 17 ≤ r → V' r = V r) : RrB T M K V' f := by
  obtain ⟨a1, a2, a3, a4, a5, a6⟩ := h
  refine ⟨?_, ?_, ?_, ?_, ?_, ?_⟩
  · intro i hi j hj
    rw [a1 i hi j hj, hn i hi j hj]
  · intro p hq j hj
    rw [a2 p hq j hj, hp p hq j hj]
  · intro j hj
    rw [a3 j hj, hr 17 (by decide)]
  · intro j hj
    rw [a4 j hj, hr 18 (by decide)]
  · intro k hk c hc
    rw [a5 k hk c hc, hr (19 + c) (by omega)]
  · intro i t hi h1 h2
    rw [a6 i t hi h1 h2, hr (22 + t) (by omega)]
theorem vcut_end {T M K : Nat} {V : Sh} {f : Nat → Int32} {r : Nat} {g : Nat → Nat} (hr : r < 12) (h : RrB T M K (vcut V r g M) f) : RrB T M K (vrow V r g) f := by
  refine rr_ext h ?_ ?_ ?_
  · intro i hi j hj
    by_cases e : j = r
    · subst e; rw [vrow_s, vcut_lt hi]
    · rw [vrow_n e, vcut_n e]
  · intro p hp j hj
    rw [vrow_n (by omega), vcut_n (by omega)]
  · intro q hq
    rw [vrow_n (by omega), vcut_n (by omega)]
theorem vcut_end3 {T M K : Nat} {V : Sh} {f : Nat → Int32} {r : Nat} {g : Nat → Nat} (hr : 12 ≤ r ∧ r < 17) (h : RrB T M K (vcut V r g 3) f) : RrB T M K (vrow V r g) f := by
  refine rr_ext h ?_ ?_ ?_
  · intro i hi j hj
    rw [vrow_n (by omega), vcut_n (by omega)]
  · intro p hp j hj
    by_cases e : 12 + j = r
    · subst e; rw [vrow_s, vcut_lt hp]
    · rw [vrow_n e, vcut_n e]
  · intro q hq
    rw [vrow_n (by omega), vcut_n (by omega)]
theorem carryOut9_ok {T M K : Nat} {V : Sh} {σ : Mem} {n s v : Nat} (h : RrB T M K V (σ 106)) (hM : M ≤ 12) (h5 : V 18 5 = M) (hn : 12 < n) (hs : s ≤ 4095) : Ret (f_X9_carryOut n σ 105 (nI s) (nI v)) (fun σ' => RrB T M K (vrow V 6 (obeyV (V 6) s v)) (σ' 106) ∧ Only [106] σ σ') := by
  unfold f_X9_carryOut f_X9_carryOut_L2
  refine Ret_for M (fun i σ' => RrB T M K (vcut V 6 (obeyV (V 6) s v) i) (σ' 106) ∧ Only [106] σ σ') ?_ ?_ (i := 0) (Nat.zero_le _) (by omega) ⟨by rw [vcut_0]; exact h, fun _ _ => rfl⟩
  · rintro i σ' hi ⟨hR, ho⟩
    have e5 : σ' 106 938 = nI M := by
      have := hR.2.2.2.1 5 (by decide)
      rw [vcut_n (by decide), h5] at this
      exact this
    have e6 : σ' 106 (12 * i + 6) = nI (V 6 i) := by
      have := hR.1 i hi 6 (by decide)
      rw [vcut_at (Nat.le_refl i)] at this
      exact this
    show Ret (f_X9_carryOut_B2 n σ' 105 (nI s) (nI v) (nI i)) _
    unfold f_X9_carryOut_B2
    rw [PM0, AM0, show ix 938 = 938 from rfl, e5]
    refine Ret_chk (by decide) (Ret_iteF (nI_ge hi (by omega)) ?_)
    rw [bit_at (by omega) (by omega), l_12, l_6, nI_mul, nI_add, ix_nI (by omega), e6]
    have fin : ∀ w, w = obeyV (V 6) s v i → Ret (f_X9_carryOut_L50 n σ' 105 (nI s) (nI v) (nI i) (nI w) (nI (12 * i + 6))) (Lp (fun σ' => RrB T M K (vrow V 6 (obeyV (V 6) s v)) (σ' 106) ∧ Only [106] σ σ') (fun q => ∃ σ', q = (σ', nI (i + 1)) ∧ RrB T M K (vcut V 6 (obeyV (V 6) s v) (i + 1)) (σ' 106) ∧ Only [106] σ σ')) := by
      intro w hw
      unfold f_X9_carryOut_L50
      rw [PM0, AM0, ix_nI (by omega)]
      refine Ret_chk (ckI_nI (by omega) (by decide)) (Ret_nm (Ret_nm ?_))
      rw [nI_1]
      refine Ret_some ⟨_, rfl, ?_, ho.one (gst_only _ _ _ _)⟩
      rw [gst_self]
      exact rr_noz hR hM hi (by decide) ((vcut_new _ _ _ _).trans hw.symm) (vcut_same _ _ _ _)
    by_cases c : s.testBit i = true
    · exact Ret_iteT (by rw [if_pos c]) (fin v (by unfold obeyV; rw [if_pos c]))
    · exact Ret_iteF (by rw [if_neg c]; decide) (Ret_chk (ckI_nI (by omega) (by decide)) (fin (V 6 i) (by unfold obeyV; rw [if_neg c])))
  · rintro σ' ⟨hR, ho⟩
    have e5 : σ' 106 938 = nI M := by
      have := hR.2.2.2.1 5 (by decide)
      rw [vcut_n (by decide), h5] at this
      exact this
    show Ret (f_X9_carryOut_B2 n σ' 105 (nI s) (nI v) (nI M)) _
    unfold f_X9_carryOut_B2
    rw [PM0, AM0, show ix 938 = 938 from rfl, e5]
    exact Ret_chk (by decide) (Ret_iteT (nI_le (Nat.le_refl _) (by omega)) (Ret_some ⟨vcut_end (by decide) hR, ho⟩))
/-! the reference's wind -/
def scaV (V : Sh) (F st ca : Nat) : Sh := vrow V 18 (fun j => if j = 1 then F else if j = 2 then st else if j = 3 then ca else V 18 j)
/-- what the row holds: wind's numbers, by place -/
theorem rr_sets {T M K : Nat} {V : Sh} {f : Nat → Int32} (h : RrB T M K V f) : f 927 = nI (V 17 0) ∧ f 928 = nI (V 17 1) ∧ f 929 = nI (V 17 2) ∧ f 930 = nI (V 17 3) ∧ f 931 = nI (V 17 4) ∧ f 932 = nI (V 17 5) ∧ f 933 = nI (V 18 0) ∧ f 934 = nI (V 18 1) ∧ f 935 = nI (V 18 2) ∧ f 936 = nI (V 18 3) ∧ f 937 = nI (V 18 4) ∧ f 938 = nI (V 18 5) ∧ f 939 = nI (V 18 6) ∧ f 940 = nI (V 18 7) :=
  ⟨h.2.2.1 0 (by decide), h.2.2.1 1 (by decide), h.2.2.1 2 (by decide), h.2.2.1 3 (by decide), h.2.2.1 4 (by decide), h.2.2.1 5 (by decide), h.2.2.2.1 0 (by decide), h.2.2.2.1 1 (by decide), h.2.2.2.1 2 (by decide), h.2.2.2.1 3 (by decide), h.2.2.2.1 4 (by decide), h.2.2.2.1 5 (by decide), h.2.2.2.1 6 (by decide), h.2.2.2.1 7 (by decide)⟩
theorem rr_sca' {T M K : Nat} {V : Sh} {σ : Mem} (h : RrB T M K V (σ 106)) (hM : M ≤ 12) {j v : Nat} (hj : j < 8) : RrB T M K (vrow V 18 (fun c => if c = j then v else V 18 c)) (gst σ 106 (933 + j) (nI v) 106) := by
  rw [gst_self]
  refine rr_sca h hM hj ?_ ?_
  · rw [vrow_s]; simp
  · intro r c hrc
    unfold vrow
    by_cases e : r = 18
    · subst e
      simp only [if_pos]
      rw [if_neg (by omega)]
    · rw [if_neg e]
