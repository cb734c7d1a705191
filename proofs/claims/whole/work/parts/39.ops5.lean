/-! setUp, rewind, save, restore -/
theorem il {a c : Nat} (h : a ≤ c) (hc : c < 2 ^ 31) : nI a ≤ nI c := nI_le h hc
theorem nil {a c : Nat} (h : c < a) (ha : a < 2 ^ 31) : ¬ nI a ≤ nI c := by rw [le_i, nI_toInt ha, nI_toInt (by omega)]; omega
abbrev t12 : Nat → Nat := tab [10, 1000, 3, 200, 0, 10]
abbrev t5 : Nat → Nat := tab [100, 20]
/-- the reference's row in its beginning, i nozzles and p pumps done -/
def bgn (i p a : Nat) : Nat := if a < 12 * i ∧ a < 144 then t12 (a % 12) else if 912 ≤ a ∧ a < 912 + 5 * p then t5 ((a - 912) % 5) else 0
theorem bgn104 {σ : Mem} {c n : Nat} (hn : 1200 < n) (h : ∀ a, a < 1121 → σ 106 a = nI (bgn 12 0 a)) : Ret (f_X9_begin_L104 n σ 105 (nI c) 0) (fun σ' => Only [106] σ σ' ∧ ∀ a, a < 1121 → σ' 106 a = nI (if 927 ≤ a ∧ a < 933 then inS (a - 927) else if a = 938 then c else bgn 12 3 a)) := by
  unfold f_X9_begin_L104
  refine Ret_for 3 (fun p s => Only [106] σ s ∧ ∀ a, a < 1121 → s 106 a = nI (bgn 12 p a)) ?_ ?_ (i := 0) (Nat.zero_le _) (by omega) ⟨fun _ _ => rfl, h⟩
  · rintro p s hp ⟨o, hs⟩
    unfold f_X9_begin_B104
    dsimp only
    rw [if_neg (c := (3 : Int32) ≤ nI p) (nil (a := 3) hp (by decide)), PM0, AM0, show (912 : Int32) = nI 912 from rfl, show (5 : Int32) = nI 5 from rfl, show (0 : Int32) = nI 0 from rfl, show (1 : Int32) = nI 1 from rfl, nI_mul, nI_add, nI_add, nI_add, ckI_nI (by omega) (by decide), ckI_nI (by omega) (by decide), ix_nI (by omega), ix_nI (by omega), nI_add]
    simp only [chk_t, nm]
    refine Ret_some ⟨_, rfl, o.one ((gst_only _ _ _ _).one (gst_only _ _ _ _)), ?_⟩
    intro a ha
    rw [gst_at, gst_at, hs a ha]
    by_cases e1 : a = 912 + 5 * p + 1
    · rw [if_pos ⟨rfl, e1⟩]
      unfold bgn
      rw [if_neg (by omega), if_pos (by omega), show (a - 912) % 5 = 1 by omega]
      rfl
    · rw [if_neg (fun q => e1 q.2)]
      by_cases e2 : a = 912 + 5 * p + 0
      · rw [if_pos ⟨rfl, e2⟩]
        unfold bgn
        rw [if_neg (by omega), if_pos (by omega), show (a - 912) % 5 = 0 by omega]
        rfl
      · rw [if_neg (fun q => e2 q.2)]
        congr 1
        unfold bgn
        by_cases q : a < 12 * 12 ∧ a < 144
        · rw [if_pos q, if_pos q]
        · rw [if_neg q, if_neg q]
          by_cases q2 : 912 ≤ a ∧ a < 912 + 5 * p
          · rw [if_pos q2, if_pos (by omega)]
          · rw [if_neg q2]
            by_cases q3 : 912 ≤ a ∧ a < 912 + 5 * (p + 1)
            · rw [if_pos q3]
              have : (a - 912) % 5 = 2 ∨ (a - 912) % 5 = 3 ∨ (a - 912) % 5 = 4 := by omega
              rcases this with w | w | w <;> rw [w] <;> rfl
            · rw [if_neg q3]
  · rintro s ⟨o, hs⟩
    unfold f_X9_begin_B104
    dsimp only
    rw [if_pos (c := (3 : Int32) ≤ nI 3) (Int32.le_refl _), PM0, AM0]
    simp only [show ckI 927 1121 = true from rfl, show ckI 928 1121 = true from rfl, show ckI 929 1121 = true from rfl, show ckI 930 1121 = true from rfl, show ckI 931 1121 = true from rfl, show ckI 932 1121 = true from rfl, show ckI 938 1121 = true from rfl, show ix 927 = 927 from rfl, show ix 928 = 928 from rfl, show ix 929 = 929 from rfl, show ix 930 = 930 from rfl, show ix 931 = 931 from rfl, show ix 932 = 932 from rfl, show ix 938 = 938 from rfl, chk_t, nm]
    refine Ret_some ⟨?_, ?_⟩
    · exact o.one ((gst_only _ _ _ _).one ((gst_only _ _ _ _).one ((gst_only _ _ _ _).one ((gst_only _ _ _ _).one ((gst_only _ _ _ _).one ((gst_only _ _ _ _).one (gst_only _ _ _ _)))))))
    · intro a ha
      simp only [gst_at, true_and]
      by_cases q : 927 ≤ a ∧ a < 933
      · rw [if_pos q]
        have : a = 927 ∨ a = 928 ∨ a = 929 ∨ a = 930 ∨ a = 931 ∨ a = 932 := by omega
        rcases this with w | w | w | w | w | w <;> subst w <;> rfl
      · rw [if_neg q]
        by_cases q2 : a = 938
        · rw [if_pos q2, if_pos q2]
        · rw [if_neg q2, if_neg q2, if_neg (by omega), if_neg (by omega), if_neg (by omega), if_neg (by omega), if_neg (by omega), if_neg (by omega)]
          exact hs a ha
theorem bgn24 {σ : Mem} {c n : Nat} (hn : 1200 < n) (h : ∀ a, a < 1121 → σ 106 a = nI 0) : Ret (f_X9_begin_L24 n σ 105 (nI c) 0) (fun σ' => Only [106] σ σ' ∧ ∀ a, a < 1121 → σ' 106 a = nI (if 927 ≤ a ∧ a < 933 then inS (a - 927) else if a = 938 then c else bgn 12 3 a)) := by
  unfold f_X9_begin_L24
  refine Ret_for 12 (fun i s => Only [106] σ s ∧ ∀ a, a < 1121 → s 106 a = nI (bgn i 0 a)) ?_ ?_ (i := 0) (Nat.zero_le _) (by omega) ⟨fun _ _ => rfl, ?_⟩
  · rintro i s hi ⟨o, hs⟩
    unfold f_X9_begin_B24
    dsimp only
    rw [if_neg (c := (12 : Int32) ≤ nI i) (nil (a := 12) hi (by decide)), PM0, AM0, show (12 : Int32) = nI 12 from rfl, show (5 : Int32) = nI 5 from rfl, show (0 : Int32) = nI 0 from rfl, show (1 : Int32) = nI 1 from rfl, show (2 : Int32) = nI 2 from rfl, show (3 : Int32) = nI 3 from rfl]
    simp only [nI_mul, nI_add]
    rw [ckI_nI (by omega) (by decide), ckI_nI (by omega) (by decide), ckI_nI (by omega) (by decide), ckI_nI (by omega) (by decide), ckI_nI (by omega) (by decide), ix_nI (by omega), ix_nI (by omega), ix_nI (by omega), ix_nI (by omega), ix_nI (by omega)]
    simp only [chk_t, nm]
    refine Ret_some ⟨_, rfl, o.one ((gst_only _ _ _ _).one ((gst_only _ _ _ _).one ((gst_only _ _ _ _).one ((gst_only _ _ _ _).one (gst_only _ _ _ _))))), ?_⟩
    intro a ha
    simp only [gst_at, true_and]
    rw [hs a ha]
    unfold bgn
    by_cases q : 12 * i ≤ a ∧ a < 12 * i + 12
    · rw [if_pos (c := a < 12 * (i + 1) ∧ a < 144) (by omega), if_neg (c := a < 12 * i ∧ a < 144) (by omega), if_neg (c := 912 ≤ a ∧ a < 912 + 5 * 0) (by omega)]
      have : a % 12 = a - 12 * i := by omega
      rw [this]
      by_cases e5 : a = 12 * i + 5
      · rw [if_pos e5, e5, show 12 * i + 5 - 12 * i = 5 by omega]; rfl
      rw [if_neg e5]
      by_cases e3 : a = 12 * i + 3
      · rw [if_pos e3, e3, show 12 * i + 3 - 12 * i = 3 by omega]; rfl
      rw [if_neg e3]
      by_cases e2 : a = 12 * i + 2
      · rw [if_pos e2, e2, show 12 * i + 2 - 12 * i = 2 by omega]; rfl
      rw [if_neg e2]
      by_cases e1 : a = 12 * i + 1
      · rw [if_pos e1, e1, show 12 * i + 1 - 12 * i = 1 by omega]; rfl
      rw [if_neg e1]
      by_cases e0 : a = 12 * i + 0
      · rw [if_pos e0, e0, show 12 * i + 0 - 12 * i = 0 by omega]; rfl
      rw [if_neg e0]
      have : a - 12 * i = 4 ∨ a - 12 * i = 6 ∨ a - 12 * i = 7 ∨ a - 12 * i = 8 ∨ a - 12 * i = 9 ∨ a - 12 * i = 10 ∨ a - 12 * i = 11 := by omega
      rcases this with w | w | w | w | w | w | w <;> rw [w] <;> rfl
    · rw [if_neg (by omega), if_neg (by omega), if_neg (by omega), if_neg (by omega), if_neg (by omega)]
      congr 1
      by_cases q1 : a < 12 * i ∧ a < 144
      · rw [if_pos q1, if_pos (by omega)]
      · rw [if_neg q1, if_neg (c := a < 12 * (i + 1) ∧ a < 144) (by omega)]
  · rintro s ⟨o, hs⟩
    unfold f_X9_begin_B24
    dsimp only
    rw [if_pos (c := (12 : Int32) ≤ nI 12) (Int32.le_refl _)]
    exact Ret_exi (Ret_mono (bgn104 hn hs) (fun s' h' => ⟨o.one h'.1, h'.2⟩))
  · intro a ha
    rw [h a ha]
    unfold bgn
    rw [if_neg (by omega), if_neg (by omega)]
theorem begin9_ok {σ : Mem} {c n : Nat} (hn : 1200 < n) (hc : c ≤ 12) (G : Nat) : Ret (f_X9_begin n σ 105 (nI c)) (fun σ' => Only [106] σ σ' ∧ RrA (iniV c G) (σ' 106)) := by
  have key : Ret (f_X9_begin n σ 105 (nI c)) (fun σ' => Only [106] σ σ' ∧ ∀ a, a < 1121 → σ' 106 a = nI (if 927 ≤ a ∧ a < 933 then inS (a - 927) else if a = 938 then c else bgn 12 3 a)) := by
    unfold f_X9_begin f_X9_begin_L2
    refine Ret_for 1121 (fun i s => Only [106] σ s ∧ ∀ a, a < i → s 106 a = nI 0) ?_ ?_ (i := 0) (Nat.zero_le _) (by omega) ⟨fun _ _ => rfl, fun a ha => by omega⟩
    · rintro i s hi ⟨o, hs⟩
      unfold f_X9_begin_B2
      dsimp only
      rw [if_neg (c := (1121 : Int32) ≤ nI i) (nil (a := 1121) hi (by decide)), PM0, AM0, ckI_nI hi (by decide), chk_t, ix_nI (by omega)]
      refine Ret_nm (Ret_nm (Ret_some ⟨_, by rw [show (1 : Int32) = nI 1 from rfl, nI_add], o.one (gst_only _ _ _ _), ?_⟩))
      intro a ha
      by_cases e : a = i
      · subst e
        rw [gst_s2]
        rfl
      · rw [gst_n2 e]
        exact hs a (by omega)
    · rintro s ⟨o, hs⟩
      unfold f_X9_begin_B2
      dsimp only
      rw [if_pos (c := (1121 : Int32) ≤ nI 1121) (Int32.le_refl _)]
      exact Ret_exi (Ret_mono (bgn24 hn hs) (fun s' h' => ⟨o.one h'.1, h'.2⟩))
  refine Ret_mono key ?_
  rintro σ' ⟨o, h⟩
  refine ⟨o, ?_⟩
  show RrB 0 c 0 (iniV c G) (σ' 106)
  refine ⟨?_, ?_, ?_, ?_, fun k hk => by omega, fun i t hi ht => by omega⟩
  · intro i hi j hj
    rw [h _ (by omega), if_neg (by omega), if_neg (by omega)]
    unfold bgn iniV
    rw [if_pos (by omega), show (12 * i + j) % 12 = j by omega]
    have : j = 0 ∨ j = 1 ∨ j = 2 ∨ j = 3 ∨ j = 4 ∨ j = 5 ∨ j = 6 ∨ j = 7 ∨ j = 8 ∨ j = 9 ∨ j = 10 ∨ j = 11 := by omega
    rcases this with w | w | w | w | w | w | w | w | w | w | w | w <;> subst w <;> rfl
  · intro p hp j hj
    rw [h _ (by omega), if_neg (by omega), if_neg (by omega)]
    unfold bgn iniV
    rw [if_neg (by omega), if_pos (by omega), show (912 + 5 * p + j - 912) % 5 = j by omega]
    have : j = 0 ∨ j = 1 ∨ j = 2 ∨ j = 3 ∨ j = 4 := by omega
    rcases this with w | w | w | w | w <;> subst w <;> rfl
  · intro j hj
    rw [h _ (by omega), if_pos (by omega), show 927 + j - 927 = j by omega]
    rfl
  · intro j hj
    rw [h _ (by omega), if_neg (by omega)]
    by_cases e : j = 5
    · subst e; rfl
    · rw [if_neg (by omega)]
      unfold bgn iniV
      rw [if_neg (by omega), if_neg (by omega), if_neg (by omega), if_neg (by omega), if_neg (by omega), if_pos rfl, if_neg e, if_neg (by omega)]
theorem Rc_gg {b : Nat} {V : Sh} {σ : Mem} (hV : Vok V) (h : Rc b V σ) : ∃ g, g ≤ 1000 ∧ σ (b + 3) 9 = nI g := ⟨V 18 8, by have := hV.2.2.1; unfold VokS at this; omega, h.2.2.1.2.2.2.2.2.2.2.2.2⟩
theorem op_setUp {n : Nat} (hn : 1200 < n) {σ : Mem} (h : Inv σ) (x : Int32) : Sim (f_X8_setUp n σ 0 x) (fun σ => f_X9_setUp n σ 105 x) := by
  have hh := h
  obtain ⟨⟨V, hV, hT, hc, hr⟩, ht, hs, -⟩ := h
  have c5 := hc.2.2.1.2.2.2.2.2.2.1
  have r5 : σ 106 938 = nI (V 18 5) := (rr_sets hr).2.2.2.2.2.2.2.2.2.2.2.1
  unfold f_X8_setUp
  rw [p00, P0_1 SB1, in_X8, bnd_s]
  by_cases q : (1 : Int32) ≤ x ∧ x ≤ 12
  · obtain ⟨c, c1, c2, rfl⟩ := of_rng (a := 1) (b := 12) (by decide) q (by decide)
    obtain ⟨G, g1, g2⟩ := Rc_gg hV hc
    rw [if_pos q, if10]
    simp only [nm]
    obtain ⟨σ1, e1, R1, F1⟩ := begin_ok SB1 (n := n) (by omega) ht hs c2 g2
    rw [e1, bnd_s]
    refine ⟨_, rfl, ?_⟩
    dsimp only
    have g6 : σ1 106 = σ 106 := F1.1 106 (by omega)
    unfold f_X9_setUp
    rw [in_X9, bnd_s, if_pos q, if10, PM0, AM0, show ckI 938 1121 = true from rfl, chk_t, show ix 938 = 938 from rfl, g6, r5]
    simp only [nm]
    obtain ⟨σ2, e2, o2, R2⟩ := begin9_ok (σ := σ1) (n := n) hn c2 G
    rw [e2, bnd_s]
    refine ⟨_, rfl, by rw [c5], ?_⟩
    exact Inv_next hh F1 o2 (vok_ini ⟨c1, c2⟩ g1) (by show 0 ≤ 200000; omega) R1 R2
  · rw [if_neg q, if00]
    refine Sim_err hh rfl ?_
    unfold f_X9_setUp
    rw [in_X9, bnd_s, if_neg q, if00]
