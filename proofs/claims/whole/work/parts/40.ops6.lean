/-! rewind, save, restore -/
theorem rw20 {σ : Mem} {n i : Nat} {x : Int32} (hn : 1200 < n) (hi : i < 12) : Ret (f_X9_rewind_L20 n σ 105 x (nI i) 6) (Lp (fun _ => False) (fun s => ∃ σ', s = (σ', nI (i + 1)) ∧ Only [106] σ σ' ∧ ∀ a, a < 1121 → σ' 106 a = if 12 * i + 6 ≤ a ∧ a < 12 * i + 12 then 0 else σ 106 a)) := by
  unfold f_X9_rewind_L20
  refine Ret_for 12 (fun j s => 6 ≤ j ∧ Only [106] σ s ∧ ∀ a, a < 1121 → s 106 a = if 12 * i + 6 ≤ a ∧ a < 12 * i + j then 0 else σ 106 a) ?_ ?_ (i := 6) (by decide) (by omega) ⟨Nat.le_refl _, fun _ _ => rfl, fun a ha => by rw [if_neg (by omega)]⟩
  · rintro j s hj ⟨j6, o, hs⟩
    unfold f_X9_rewind_B20
    dsimp only
    rw [if_neg (c := (11 : Int32) < nI j) (by rw [lt_i, nI_toInt (by omega), show (11 : Int32).toInt = 11 from rfl]; omega), PM0, AM0, show (12 : Int32) = nI 12 from rfl, nI_mul, nI_add, ckI_nI (by omega) (by decide), chk_t, ix_nI (by omega)]
    refine Ret_nm (Ret_nm (Ret_some ⟨_, by rw [show (1 : Int32) = nI 1 from rfl, nI_add], by omega, o.one (gst_only _ _ _ _), ?_⟩))
    intro a ha
    by_cases e : a = 12 * i + j
    · subst e
      rw [gst_s2, if_pos (by omega)]
    · rw [gst_n2 e, hs a ha]
      by_cases q : 12 * i + 6 ≤ a ∧ a < 12 * i + j
      · rw [if_pos q, if_pos (by omega)]
      · rw [if_neg q, if_neg (by omega)]
  · rintro s ⟨-, o, hs⟩
    unfold f_X9_rewind_B20
    dsimp only
    rw [if_pos (c := (11 : Int32) < nI 12) (by decide)]
    refine Ret_nm (Ret_some ⟨s, by rw [show (1 : Int32) = nI 1 from rfl, nI_add], o, hs⟩)
theorem rw59 {σ : Mem} {n i : Nat} {x : Int32} (hn : 1200 < n) (hi : i < 3) : Ret (f_X9_rewind_L59 n σ 105 x (nI i) 2) (Lp (fun _ => False) (fun s => ∃ σ', s = (σ', nI (i + 1)) ∧ Only [106] σ σ' ∧ ∀ a, a < 1121 → σ' 106 a = if 912 + 5 * i + 2 ≤ a ∧ a < 912 + 5 * i + 5 then 0 else σ 106 a)) := by
  unfold f_X9_rewind_L59
  refine Ret_for 5 (fun j s => 2 ≤ j ∧ Only [106] σ s ∧ ∀ a, a < 1121 → s 106 a = if 912 + 5 * i + 2 ≤ a ∧ a < 912 + 5 * i + j then 0 else σ 106 a) ?_ ?_ (i := 2) (by decide) (by omega) ⟨Nat.le_refl _, fun _ _ => rfl, fun a ha => by rw [if_neg (by omega)]⟩
  · rintro j s hj ⟨j6, o, hs⟩
    unfold f_X9_rewind_B59
    dsimp only
    rw [if_neg (c := (4 : Int32) < nI j) (by rw [lt_i, nI_toInt (by omega), show (4 : Int32).toInt = 4 from rfl]; omega), PM0, AM0, show (912 : Int32) = nI 912 from rfl, show (5 : Int32) = nI 5 from rfl, nI_mul, nI_add, nI_add, ckI_nI (by omega) (by decide), chk_t, ix_nI (by omega)]
    refine Ret_nm (Ret_nm (Ret_some ⟨_, by rw [show (1 : Int32) = nI 1 from rfl, nI_add], by omega, o.one (gst_only _ _ _ _), ?_⟩))
    intro a ha
    by_cases e : a = 912 + 5 * i + j
    · subst e
      rw [gst_s2, if_pos (by omega)]
    · rw [gst_n2 e, hs a ha]
      by_cases q : 912 + 5 * i + 2 ≤ a ∧ a < 912 + 5 * i + j
      · rw [if_pos q, if_pos (by omega)]
      · rw [if_neg q, if_neg (by omega)]
  · rintro s ⟨-, o, hs⟩
    unfold f_X9_rewind_B59
    dsimp only
    rw [if_pos (c := (4 : Int32) < nI 5) (by decide)]
    refine Ret_nm (Ret_some ⟨s, by rw [show (1 : Int32) = nI 1 from rfl, nI_add], o, hs⟩)
/-- the reference's row, going back: i nozzles, p pumps done -/
abbrev zat (i p a : Nat) : Prop := (a < 12 * i ∧ a < 144 ∧ 6 ≤ a % 12) ∨ (912 ≤ a ∧ a < 912 + 5 * p ∧ 2 ≤ (a - 912) % 5)
theorem rw52 {σ σ0 : Mem} {n : Nat} {x : Int32} (hn : 1200 < n) (h0 : Only [106] σ0 σ) (h : ∀ a, a < 1121 → σ 106 a = if zat 12 0 a then 0 else σ0 106 a) : Ret (f_X9_rewind_L52 n σ 105 x 0) (fun q => q.1 = x ∧ Only [106] σ0 q.2 ∧ ∀ a, a < 1121 → q.2 106 a = if zat 12 3 a ∨ (934 ≤ a ∧ a ≤ 937) ∨ a = 939 then 0 else σ0 106 a) := by
  unfold f_X9_rewind_L52
  refine Ret_for 3 (fun p s => Only [106] σ0 s ∧ ∀ a, a < 1121 → s 106 a = if zat 12 p a then 0 else σ0 106 a) ?_ ?_ (i := 0) (Nat.zero_le _) (by omega) ⟨h0, h⟩
  · rintro p s hp ⟨o, hs⟩
    unfold f_X9_rewind_B52
    dsimp only
    rw [if_neg (c := (3 : Int32) ≤ nI p) (nil (a := 3) hp (by decide))]
    refine Ret_mono (rw59 hn hp) ?_
    intro t ht
    cases t with
    | inl r => exact ht.elim
    | inr s' =>
      obtain ⟨σ', e, o', h'⟩ := ht
      refine ⟨σ', e, o.one o', ?_⟩
      intro a ha
      rw [h' a ha, hs a ha]
      by_cases q : 912 + 5 * p + 2 ≤ a ∧ a < 912 + 5 * p + 5
      · rw [if_pos q, if_pos (by unfold zat; omega)]
      · rw [if_neg q]
        by_cases q2 : zat 12 p a
        · rw [if_pos q2, if_pos (by unfold zat at *; omega)]
        · rw [if_neg q2, if_neg (by unfold zat at *; omega)]
  · rintro s ⟨o, hs⟩
    unfold f_X9_rewind_B52
    dsimp only
    rw [if_pos (c := (3 : Int32) ≤ nI 3) (Int32.le_refl _), PM0, AM0]
    simp only [show ckI 934 1121 = true from rfl, show ckI 935 1121 = true from rfl, show ckI 936 1121 = true from rfl, show ckI 937 1121 = true from rfl, show ckI 939 1121 = true from rfl, show ix 934 = 934 from rfl, show ix 935 = 935 from rfl, show ix 936 = 936 from rfl, show ix 937 = 937 from rfl, show ix 939 = 939 from rfl, chk_t, nm]
    refine Ret_some ⟨rfl, ?_, ?_⟩
    · exact o.one ((gst_only _ _ _ _).one ((gst_only _ _ _ _).one ((gst_only _ _ _ _).one ((gst_only _ _ _ _).one (gst_only _ _ _ _)))))
    · intro a ha
      simp only [gst_at, true_and]
      by_cases q2 : a = 939
      · rw [if_pos q2, if_pos (by omega)]
      rw [if_neg q2]
      by_cases q3 : 934 ≤ a ∧ a ≤ 937
      · rw [if_pos (c := zat 12 3 a ∨ _) (Or.inr (Or.inl q3))]
        have : a = 934 ∨ a = 935 ∨ a = 936 ∨ a = 937 := by omega
        rcases this with w | w | w | w <;> subst w <;> rfl
      · rw [if_neg (by omega), if_neg (by omega), if_neg (by omega), if_neg (by omega), hs a ha]
        by_cases q4 : zat 12 3 a
        · rw [if_pos q4, if_pos (Or.inl q4)]
        · rw [if_neg q4, if_neg (by omega)]
theorem rewind9_ok {σ : Mem} {V : Sh} {n : Nat} (hn : 1200 < n) (hM : V 18 5 ≤ 12) (hK : V 18 7 ≤ 60) (h : RrA V (σ 106)) : Ret (f_X9_rewind n σ 105) (fun q => q.1 = nI (V 18 4) ∧ Only [106] σ q.2 ∧ RrA (rewV V) (q.2 106)) := by
  have t2 : σ 106 937 = nI (V 18 4) := (rr_sets h).2.2.2.2.2.2.2.2.2.2.1
  have key : Ret (f_X9_rewind n σ 105) (fun q => q.1 = nI (V 18 4) ∧ Only [106] σ q.2 ∧ ∀ a, a < 1121 → q.2 106 a = if zat 12 3 a ∨ (934 ≤ a ∧ a ≤ 937) ∨ a = 939 then 0 else σ 106 a) := by
    unfold f_X9_rewind
    rw [PM0, AM0, show ckI 937 1121 = true from rfl, chk_t, show ix 937 = 937 from rfl, t2]
    unfold nm f_X9_rewind_L11
    refine Ret_for 12 (fun i s => Only [106] σ s ∧ ∀ a, a < 1121 → s 106 a = if zat i 0 a then 0 else σ 106 a) ?_ ?_ (i := 0) (Nat.zero_le _) (by omega) ⟨fun _ _ => rfl, fun a ha => by rw [if_neg (by unfold zat; omega)]⟩
    · rintro p s hp ⟨o, hs⟩
      unfold f_X9_rewind_B11
      dsimp only
      rw [if_neg (c := (12 : Int32) ≤ nI p) (nil (a := 12) hp (by decide))]
      refine Ret_mono (rw20 hn hp) ?_
      intro t ht
      cases t with
      | inl r => exact ht.elim
      | inr s' =>
        obtain ⟨σ', e, o', h'⟩ := ht
        refine ⟨σ', e, o.one o', ?_⟩
        intro a ha
        rw [h' a ha, hs a ha]
        by_cases q : 12 * p + 6 ≤ a ∧ a < 12 * p + 12
        · rw [if_pos q, if_pos (by unfold zat; omega)]
        · rw [if_neg q]
          by_cases q2 : zat p 0 a
          · rw [if_pos q2, if_pos (by unfold zat at *; omega)]
          · rw [if_neg q2, if_neg (by unfold zat at *; omega)]
    · rintro s ⟨o, hs⟩
      unfold f_X9_rewind_B11
      dsimp only
      rw [if_pos (c := (12 : Int32) ≤ nI 12) (Int32.le_refl _)]
      exact Ret_exi (rw52 hn o hs)
  refine Ret_mono key ?_
  rintro q ⟨q1, o, hq⟩
  refine ⟨q1, o, ?_⟩
  obtain ⟨h1, h2, h3, h4, h5, h6⟩ := h
  have e5 : rewV V 18 5 = V 18 5 := rew_n (by omega)
  have e4 : rewV V 18 4 = 0 := rew_0 (by omega)
  have e7 : rewV V 18 7 = V 18 7 := rew_n (by omega)
  unfold RrA
  rw [e5, e4, e7]
  refine ⟨?_, ?_, ?_, ?_, ?_, fun i t hi ht => by omega⟩
  · intro i hi j hj
    rw [hq _ (by omega)]
    by_cases w : 6 ≤ j
    · rw [if_pos (by unfold zat; omega), rew_0 (by omega)]
      rfl
    · rw [if_neg (by unfold zat; omega), rew_n (by omega)]
      exact h1 i hi j hj
  · intro i hi j hj
    rw [hq _ (by omega)]
    by_cases w : 2 ≤ j
    · rw [if_pos (by unfold zat; omega), rew_0 (by omega)]
      rfl
    · rw [if_neg (by unfold zat; omega), rew_n (by omega)]
      exact h2 i hi j hj
  · intro j hj
    rw [hq _ (by omega), if_neg (by unfold zat; omega), rew_n (by omega)]
    exact h3 j hj
  · intro j hj
    rw [hq _ (by omega)]
    by_cases w : (1 ≤ j ∧ j ≤ 4) ∨ j = 6
    · rw [if_pos (by unfold zat; omega), rew_0 (by omega)]
      rfl
    · rw [if_neg (by unfold zat; omega), rew_n (by omega)]
      exact h4 j hj
  · intro k hk c hc
    rw [hq _ (by omega), if_neg (by unfold zat; omega), rew_n (by omega)]
    exact h5 k hk c hc
theorem op_rewind {n : Nat} (hn : 1200 < n) {σ : Mem} (h : Inv σ) : Sim (f_X8_rewind n σ 0) (fun σ => f_X9_rewind n σ 105) := by
  have hh := h
  obtain ⟨⟨V, hV, hT, hc, hr⟩, ht, hs, -⟩ := h
  have hVV := hV
  obtain ⟨hN, hP, hS, hC, hH⟩ := hV
  unfold VokS at hS
  unfold f_X8_rewind
  rw [p00, goBack_ok SB1 (by omega)]
  simp only [nm, bnd_s]
  have R1 := rc_rew (by omega) (rst_rc hc)
  have F1 : Fr 1 σ (Zf 1 zL σ) := fr_z (by decide)
  have t1 : σ 1 5 = nI (V 18 4) := hc.2.2.1.2.2.2.2.2.1
  refine ⟨_, rfl, ?_⟩
  dsimp only
  generalize Zf 1 zL σ = σ1 at R1 F1
  have g6 : σ1 106 = σ 106 := F1.1 106 (by omega)
  obtain ⟨q, e, a1, a2, a3⟩ := rewind9_ok (σ := σ1) (V := V) hn (by omega) (by omega) (by rw [g6]; exact hr)
  refine ⟨q, e, by rw [a1, t1], ?_⟩
  refine Inv_next hh F1 a2 (vok_rew ?_ ?_ ?_ hC) (by rw [rew_0 (by omega)]; omega) R1 a3
  · intro i hi
    have := hN i hi
    omega
  · intro p hp
    have := hP p hp
    omega
  · omega
theorem rr_same {V : Sh} {f f' : Nat → Int32} (h : RrA V f) (hM : V 18 5 ≤ 12) (hK : V 18 7 ≤ 60) (hs : ∀ a, a < 1121 → f' a = f a) : RrA V f' := by
  obtain ⟨h1, h2, h3, h4, h5, h6⟩ := h
  refine ⟨?_, ?_, ?_, ?_, ?_, ?_⟩
  · intro i hi j hj
    rw [hs _ (by omega)]; exact h1 i hi j hj
  · intro i hi j hj
    rw [hs _ (by omega)]; exact h2 i hi j hj
  · intro j hj
    rw [hs _ (by omega)]; exact h3 j hj
  · intro j hj
    rw [hs _ (by omega)]; exact h4 j hj
  · intro i hi j hj
    rw [hs _ (by omega)]; exact h5 i hi j hj
  · intro i t hi ht q
    have : t % 64 < 64 := Nat.mod_lt _ (by decide)
    rw [hs _ (by omega)]; exact h6 i t hi ht q
theorem Sl_same' {s b i : Nat} {σ σ' : Mem} (h : Sl s b i σ) (h1 : σ' s = σ s) (h2 : σ' 109 i = σ 109 i) (h3 : ∀ x, x < 1121 → σ' 108 (1121 * i + x) = σ 108 (1121 * i + x)) (h4 : ∀ a, b ≤ a → a < b + 24 → σ' a = σ a) : Sl s b i σ' := by
  unfold Sl
  rw [h1, h2]
  rcases h with h | ⟨a1, a2, W, w1, w2, w3, w4⟩
  · exact Or.inl h
  · have hS := w1.2.2.1
    unfold VokS at hS
    exact Or.inr ⟨a1, a2, W, w1, w2, Rc_same w3 h4, rr_same w4 (by omega) (by omega) h3⟩
theorem save9_ok {σ : Mem} {n i : Nat} (hn : 1200 < n) (hi : i < 2) {T : Nat} (hT : σ 106 937 = nI T) : ∃ σ', f_X9_save_L14 n σ 105 (nI i) 0 = some (nI T, σ') ∧ Only [108, 109] σ σ' ∧ σ' 109 i = 1 ∧ (∀ j, j ≠ i → σ' 109 j = σ 109 j) ∧ (∀ x, x < 1121 → σ' 108 (1121 * i + x) = σ 106 x) ∧ ∀ j x, j < 2 → j ≠ i → x < 1121 → σ' 108 (1121 * j + x) = σ 108 (1121 * j + x) := by
  have key : Ret (f_X9_save_L14 n σ 105 (nI i) 0) (fun q => q.1 = nI T ∧ Only [108, 109] σ q.2 ∧ q.2 109 i = 1 ∧ (∀ j, j ≠ i → q.2 109 j = σ 109 j) ∧ (∀ x, x < 1121 → q.2 108 (1121 * i + x) = σ 106 x) ∧ ∀ j x, j < 2 → j ≠ i → x < 1121 → q.2 108 (1121 * j + x) = σ 108 (1121 * j + x)) := by
    unfold f_X9_save_L14
    refine Ret_for 1121 (fun m s => Only [108] σ s ∧ (∀ x, x < m → s 108 (1121 * i + x) = σ 106 x) ∧ ∀ j x, j < 2 → j ≠ i → x < 1121 → s 108 (1121 * j + x) = σ 108 (1121 * j + x)) ?_ ?_ (i := 0) (Nat.zero_le _) (by omega) ⟨fun _ _ => rfl, fun x hx => by omega, fun _ _ _ _ _ => rfl⟩
    · rintro m s hm ⟨o, s1, s2⟩
      have g6 : s 106 = σ 106 := o 106 (by decide)
      unfold f_X9_save_B14
      dsimp only
      rw [if_neg (c := (1121 : Int32) ≤ nI m) (nil (a := 1121) hm (by decide)), PM0, AM0, PM2, AM2, show (1121 : Int32) = nI 1121 from rfl, nI_mul, nI_add, ckI_nI hm (by decide), ckI_nI (by omega) (by decide), chk_t, chk_t, ix_nI (by omega), ix_nI (by omega), g6]
      refine Ret_nm (Ret_nm (Ret_some ⟨_, by rw [show (1 : Int32) = nI 1 from rfl, nI_add], o.one (gst_only _ _ _ _), ?_, ?_⟩))
      · intro x hx
        by_cases e : x = m
        · subst e
          rw [gst_s2]
        · rw [gst_n2 (by omega)]
          exact s1 x (by omega)
      · intro j x hj hji hx
        rw [gst_n2 (by omega)]
        exact s2 j x hj hji hx
    · rintro s ⟨o, s1, s2⟩
      have g6 : s 106 = σ 106 := o 106 (by decide)
      unfold f_X9_save_B14
      dsimp only
      rw [if_pos (c := (1121 : Int32) ≤ nI 1121) (Int32.le_refl _), PM0, AM0, PM3, AM3, ckI_nI hi (by decide), ix_nI (by omega), show ckI 937 1121 = true from rfl, show ix 937 = 937 from rfl]
      simp only [chk_t, nm]
      refine Ret_some ⟨?_, ?_, ?_, ?_, ?_, ?_⟩
      · dsimp only
        rw [gst_row (by decide), g6, hT]
      · intro a ha
        simp at ha
        dsimp only
        rw [gst_row (by omega)]
        exact o a (by simp; omega)
      · dsimp only
        rw [gst_s2]
        rfl
      · intro j hj
        dsimp only
        rw [gst_n2 hj, o 109 (by decide)]
      · intro x hx
        dsimp only
        rw [gst_row (by decide)]
        exact s1 x hx
      · intro j x hj hji hx
        dsimp only
        rw [gst_row (by decide)]
        exact s2 j x hj hji hx
  obtain ⟨⟨q1, q2⟩, e, a1, a2⟩ := key
  exact ⟨q2, by rw [e]; exact congrArg (fun z => some (z, q2)) a1, a2⟩
theorem restore9_ok {σ : Mem} {n i : Nat} (hn : 1200 < n) (hi : i < 2) : ∃ q, f_X9_restore_L26 n σ 105 (nI i) 0 = some q ∧ q.1 = σ 108 (1121 * i + 937) ∧ Only [106] σ q.2 ∧ ∀ x, x < 1121 → q.2 106 x = σ 108 (1121 * i + x) := by
  have key : Ret (f_X9_restore_L26 n σ 105 (nI i) 0) (fun q => q.1 = σ 108 (1121 * i + 937) ∧ Only [106] σ q.2 ∧ ∀ x, x < 1121 → q.2 106 x = σ 108 (1121 * i + x)) := by
    unfold f_X9_restore_L26
    refine Ret_for 1121 (fun m s => Only [106] σ s ∧ ∀ x, x < m → s 106 x = σ 108 (1121 * i + x)) ?_ ?_ (i := 0) (Nat.zero_le _) (by omega) ⟨fun _ _ => rfl, fun x hx => by omega⟩
    · rintro m s hm ⟨o, s1⟩
      have g6 : s 108 = σ 108 := o 108 (by decide)
      unfold f_X9_restore_B26
      dsimp only
      rw [if_neg (c := (1121 : Int32) ≤ nI m) (nil (a := 1121) hm (by decide)), PM0, AM0, PM2, AM2, show (1121 : Int32) = nI 1121 from rfl, nI_mul, nI_add, ckI_nI hm (by decide), ckI_nI (by omega) (by decide), chk_t, chk_t, ix_nI (by omega), ix_nI (by omega), g6]
      refine Ret_nm (Ret_nm (Ret_some ⟨_, by rw [show (1 : Int32) = nI 1 from rfl, nI_add], o.one (gst_only _ _ _ _), ?_⟩))
      intro x hx
      by_cases e : x = m
      · subst e
        rw [gst_s2]
      · rw [gst_n2 e]
        exact s1 x (by omega)
    · rintro s ⟨o, s1⟩
      unfold f_X9_restore_B26
      dsimp only
      rw [if_pos (c := (1121 : Int32) ≤ nI 1121) (Int32.le_refl _), PM0, AM0, show ckI 937 1121 = true from rfl, show ix 937 = 937 from rfl, chk_t]
      exact Ret_some ⟨s1 937 (by decide), o, s1⟩
  exact key
theorem op_save {n : Nat} (hn : 1200 < n) {σ : Mem} (h : Inv σ) (x : Int32) : Sim (f_X8_save σ 0 x) (fun σ => f_X9_save n σ 105 x) := by
  have hh := h
  obtain ⟨⟨V, hV, hT, hc, hr⟩, ht, hs, hp, s1, s2, hg⟩ := h
  have hS := hV.2.2.1
  unfold VokS at hS
  have t1 : σ 1 5 = nI (V 18 4) := hc.2.2.1.2.2.2.2.2.1
  have t2 : σ 106 937 = nI (V 18 4) := (rr_sets hr).2.2.2.2.2.2.2.2.2.2.1
  have main : ∀ s b i, (s = 49 ∧ b = 50 ∧ i = 0) ∨ (s = 74 ∧ b = 75 ∧ i = 1) → ptr s 0 = b → Sim (bnd (f_X5_copy σ b 1) fun σ_6 => nm (gst σ_6 s 1 1) fun σ_7 => some (σ_7 1 5, σ_7)) (fun σ => f_X9_save_L14 n σ 105 (nI i) 0) := by
    intro s b i hsb hps
    have hb : SB b := by rcases hsb with q | q <;> (obtain ⟨-, q, -⟩ := q; subst q) <;> first | exact SB50 | exact SB75
    have hb1 : b ≠ 1 := by omega
    obtain ⟨G, g1, g2⟩ := hg b hb hb1
    rw [copy_ok hb SB1 (by unfold Ds; omega), bnd_s]
    have R1 := rc_copy (b := b) hV hc g2
    have F1 : Fr b σ (Cpf b 1 cpL σ) := fr_cp (by decide)
    have g9 : Cpf b 1 cpL σ (b + 3) 9 = nI G := by rw [Cpf_F (by decide)]; exact g2
    generalize Cpf b 1 cpL σ = σ1 at R1 F1 g9
    unfold nm
    dsimp only
    have k1 : ∀ a, a ≠ s → ¬ (b ≤ a ∧ a < b + 24) → gst σ1 s 1 1 a = σ a := fun a q1 q2 => by rw [gst_row q1, F1.1 a q2]
    have k2 : ∀ a, a ≠ s → gst σ1 s 1 1 a = σ1 a := fun a q1 => gst_row q1
    have k3 : gst σ1 s 1 1 s 1 = 1 := gst_s2
    generalize gst σ1 s 1 1 = σ2 at k1 k2 k3
    refine ⟨_, rfl, ?_⟩
    dsimp only
    obtain ⟨σ3, e3, o3, a1, a2, a3, a4⟩ := save9_ok (σ := σ2) (n := n) (i := i) (T := V 18 4) hn (by omega) (by rw [k1 106 (by omega) (by omega)]; exact t2)
    refine ⟨_, e3, ?_, ?_⟩
    · dsimp only
      rw [k1 1 (by omega) (by omega), t1]
    · dsimp only
      have k4 : ∀ a, a ≠ 108 → a ≠ 109 → σ3 a = σ2 a := fun a q1 q2 => o3 a (by simp [q1, q2])
      have k5 : ∀ a, a ≠ s → ¬ (b ≤ a ∧ a < b + 24) → a ≠ 108 → a ≠ 109 → σ3 a = σ a := fun a q1 q2 q3 q4 => (k4 a q3 q4).trans (k1 a q1 q2)
      have k6 : ∀ a, b ≤ a → a < b + 24 → σ3 a = σ1 a := fun a q1 q2 => (k4 a (by omega) (by omega)).trans (k2 a (by omega))
      have new : Sl s b i σ3 := Or.inr ⟨by rw [k4 s (by omega) (by omega)]; exact k3, a1, _, vok_gg hV g1, by rw [vset_n (by omega)]; exact hT, Rc_same R1 k6, rr_same (rr_gg hr) (by rw [vset_n (by omega)]; omega) (by rw [vset_n (by omega)]; omega) (fun x hx => by rw [a3 x hx, k1 106 (by omega) (by omega)])⟩
      have old : ∀ s' b' i', (s' = 49 ∧ b' = 50 ∧ i' = 0) ∨ (s' = 74 ∧ b' = 75 ∧ i' = 1) → i' ≠ i → Sl s' b' i' σ → Sl s' b' i' σ3 := by
        intro s' b' i' hs' hi' hh'
        refine Sl_same' hh' (k5 s' (by omega) (by omega) (by omega) (by omega)) ?_ ?_ (fun a q1 q2 => k5 a (by omega) (by omega) (by omega) (by omega))
        · rw [a2 i' hi', k1 109 (by omega) (by omega)]
        · intro x hx
          rw [a4 i' x (by omega) hi' hx, k1 108 (by omega) (by omega)]
      refine ⟨⟨V, hV, hT, Rc_same hc (fun a _ _ => k5 a (by omega) (by omega) (by omega) (by omega)), by rw [k5 106 (by omega) (by omega) (by omega) (by omega)]; exact hr⟩, ?_, St_same hs (fun a _ _ => k5 a (by omega) (by omega) (by omega) (by omega)), Pd_same hp (k5 _ (by omega) (by omega) (by omega) (by omega)) (k5 _ (by omega) (by omega) (by omega) (by omega)) (k5 _ (by omega) (by omega) (by omega) (by omega)) (k5 _ (by omega) (by omega) (by omega) (by omega)), ?_, ?_, ?_⟩
      · intro b' hb'
        have tt := Th_fr ht hb F1 b' hb'
        have : b' + 14 < 100 := by rcases hb' with q | q | q | q <;> omega
        have w : ∀ c, c = 1 ∨ c = 4 ∨ c = 14 → b' + c ≠ s := by intro c hc; rcases hb' with q | q | q | q <;> omega
        rw [k4 (b' + 1) (by omega) (by omega), k4 (b' + 4) (by omega) (by omega), k4 (b' + 14) (by omega) (by omega), k2 (b' + 1) (w 1 (by omega)), k2 (b' + 4) (w 4 (by omega)), k2 (b' + 14) (w 14 (by omega))]
        exact tt
      · rcases hsb with ⟨q1, q2, q3⟩ | ⟨q1, q2, q3⟩
        · subst q1 q2 q3
          exact new
        · exact old 49 50 0 (by omega) (by omega) s1
      · rcases hsb with ⟨q1, q2, q3⟩ | ⟨q1, q2, q3⟩
        · exact old 74 75 1 (by omega) (by omega) s2
        · subst q1 q2 q3
          exact new
      · intro b' hb' hn'
        by_cases e : b' = b
        · subst e
          rw [k6 (b' + 3) (by omega) (by omega)]
          exact ⟨G, g1, g9⟩
        · have w : b' + 3 ≠ s ∧ ¬ (b ≤ b' + 3 ∧ b' + 3 < b + 24) ∧ b' + 3 < 100 := by rcases hb' with q | q | q | q <;> omega
          rw [k5 (b' + 3) w.1 w.2.1 (by omega) (by omega)]
          exact hg b' hb' hn'
  unfold f_X8_save f_X8_slotAt
  rw [p00, p02, p03]
  by_cases q0 : x = 0
  · subst q0
    have := main 49 50 0 (by omega) rfl
    rw [if_pos rfl, bnd_s]
    unfold Sim at this ⊢
    refine Ret_mono (this : Ret _ _) ?_
    rintro q hq
    dsimp only
    unfold f_X9_save
    rw [in_X9, bnd_s, if_pos (c := (0 : Int32) ≤ 0 ∧ (0 : Int32) ≤ 1) (by decide), if10]
    exact hq
  by_cases q1 : x = 1
  · subst q1
    have := main 74 75 1 (by omega) rfl
    rw [if_neg (by decide), if_pos rfl, bnd_s]
    unfold Sim at this ⊢
    refine Ret_mono (this : Ret _ _) ?_
    rintro q hq
    dsimp only
    unfold f_X9_save
    rw [in_X9, bnd_s, if_pos (c := (0 : Int32) ≤ 1 ∧ (1 : Int32) ≤ 1) (by decide), if10]
    exact hq
  rw [if_neg q0, if_neg q1, bnd_s]
  refine Sim_err hh rfl ?_
  unfold f_X9_save
  rw [in_X9, bnd_s, if_neg (c := 0 ≤ x ∧ x ≤ 1), if00]
  intro w
  obtain ⟨j, hj, rfl⟩ := of_in (m := 1) (by decide) w
  have : j = 0 ∨ j = 1 := by omega
  rcases this with z | z <;> subst z
  · exact q0 rfl
  · exact q1 rfl
theorem op_restore {n : Nat} (hn : 1200 < n) {σ : Mem} (h : Inv σ) (x : Int32) : Sim (f_X8_restore σ 0 x) (fun σ => f_X9_restore n σ 105 x) := by
  have hh := h
  obtain ⟨⟨V, hV, hT, hc, hr⟩, ht, hs, hp, s1, s2, hg⟩ := h
  have main : ∀ s b i, (s = 49 ∧ b = 50 ∧ i = 0) ∨ (s = 74 ∧ b = 75 ∧ i = 1) → ptr s 0 = b → Sl s b i σ → Sim (if σ s 1 = 0 then some ((-5), σ) else bnd (f_X5_copy σ 1 b) fun σ_6 => some (σ_6 1 5, σ_6)) (fun σ => if σ 109 i = 0 then some ((-5), σ) else f_X9_restore_L26 n σ 105 (nI i) 0) := by
    intro s b i hsb hps hsl
    have hb : SB b := by rcases hsb with q | q <;> (obtain ⟨-, q, -⟩ := q; subst q) <;> first | exact SB50 | exact SB75
    rcases hsl with ⟨h0, h9⟩ | ⟨h0, h9, W, w1, w2, w3, w4⟩
    · rw [if_pos h0]
      refine Sim_err hh rfl ?_
      rw [if_pos h9]
    · have hS := w1.2.2.1
      unfold VokS at hS
      obtain ⟨G, g1, g2⟩ := Rc_gg hV hc
      rw [if_neg (by rw [h0]; decide), copy_ok SB1 hb (by unfold Ds; omega), bnd_s]
      have R1 := rc_copy (b := 1) w1 w3 g2
      have F1 : Fr 1 σ (Cpf 1 b cpL σ) := fr_cp (by decide)
      generalize Cpf 1 b cpL σ = σ1 at R1 F1
      refine ⟨_, rfl, ?_⟩
      dsimp only
      rw [if_neg (by rw [F1.1 109 (by omega), h9]; decide)]
      obtain ⟨q, e, a1, a2, a3⟩ := restore9_ok (σ := σ1) (n := n) (i := i) hn (by omega)
      have g8 : σ1 108 = σ 108 := F1.1 108 (by omega)
      have t1 : σ1 1 5 = nI (W 18 4) := by
        have := R1.2.2.1.2.2.2.2.2.1
        rw [vset_n (by omega)] at this
        exact this
      have t2 : σ 108 (1121 * i + 937) = nI (W 18 4) := (rr_sets w4).2.2.2.2.2.2.2.2.2.2.1
      refine ⟨q, e, by rw [a1, g8, t1, t2], ?_⟩
      exact Inv_next hh F1 a2 (vok_gg w1 g1) (by rw [vset_n (by omega)]; exact w2) R1 (rr_same (rr_gg w4) (by rw [vset_n (by omega)]; omega) (by rw [vset_n (by omega)]; omega) (fun x hx => by rw [a3 x hx, g8]))
  unfold f_X8_restore f_X8_slotAt
  rw [p00, p02, p03]
  by_cases q0 : x = 0
  · subst q0
    have := main 49 50 0 (by omega) rfl s1
    rw [if_pos rfl, bnd_s]
    unfold Sim at this ⊢
    refine Ret_mono (this : Ret _ _) ?_
    rintro q hq
    dsimp only
    unfold f_X9_restore
    rw [in_X9, bnd_s, if_pos (c := (0 : Int32) ≤ 0 ∧ (0 : Int32) ≤ 1) (by decide), if10]
    exact hq
  by_cases q1 : x = 1
  · subst q1
    have := main 74 75 1 (by omega) rfl s2
    rw [if_neg (by decide), if_pos rfl, bnd_s]
    unfold Sim at this ⊢
    refine Ret_mono (this : Ret _ _) ?_
    rintro q hq
    dsimp only
    unfold f_X9_restore
    rw [in_X9, bnd_s, if_pos (c := (0 : Int32) ≤ 1 ∧ (1 : Int32) ≤ 1) (by decide), if10]
    exact hq
  rw [if_neg q0, if_neg q1, bnd_s]
  refine Sim_err hh rfl ?_
  unfold f_X9_restore
  rw [in_X9, bnd_s, if_neg (c := 0 ≤ x ∧ x ≤ 1), if00]
  intro w
  obtain ⟨j, hj, rfl⟩ := of_in (m := 1) (by decide) w
  have : j = 0 ∨ j = 1 := by omega
  rcases this with z | z <;> subst z
  · exact q0 rfl
  · exact q1 rfl
