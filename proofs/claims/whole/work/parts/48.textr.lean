/-! the reference goes through the text -/
/-- the text is at row 110, L characters; the reference stands at p, b says whether a fault was met -/
def S9 (L : Nat) (c : Nat → Nat) (σ : Mem) (p b : Nat) : Prop := L ≤ 80 ∧ p ≤ L ∧ σ 105 5 = nI L ∧ σ 105 6 = nI p ∧ σ 105 7 = nI b ∧ ∀ j, j < L → σ 110 j = nI (c j) ∧ 33 ≤ c j ∧ c j ≤ 126
def cc (L : Nat) (c : Nat → Nat) (p : Nat) : Nat := if p < L then c p else 0
def R9 (σ σ' : Mem) : Prop := Only [105] σ σ' ∧ ∀ j, j ≠ 6 → j ≠ 7 → σ' 105 j = σ 105 j
theorem R9.rf (σ : Mem) : R9 σ σ := ⟨fun _ _ => rfl, fun _ _ _ => rfl⟩
theorem R9.tr {σ σ1 σ2 : Mem} (h1 : R9 σ σ1) (h2 : R9 σ1 σ2) : R9 σ σ2 := ⟨h1.1.one h2.1, fun j a b => (h2.2 j a b).trans (h1.2 j a b)⟩
theorem r9_6 (σ : Mem) (v : Int32) : R9 σ (gst σ 105 6 v) := ⟨gst_only _ _ _ _, fun j a _ => gst_n2 a⟩
theorem r9_7 (σ : Mem) (v : Int32) : R9 σ (gst σ 105 7 v) := ⟨gst_only _ _ _ _, fun j _ a => gst_n2 a⟩
theorem cc_le {L : Nat} {c : Nat → Nat} {σ : Mem} {p b : Nat} (h : S9 L c σ p b) : cc L c p ≤ 126 := by
  unfold cc
  by_cases q : p < L
  · rw [if_pos q]; exact (h.2.2.2.2.2 p q).2.2
  · rw [if_neg q]; omega
theorem next_9 {L : Nat} {c : Nat → Nat} {σ : Mem} {p b : Nat} (h : S9 L c σ p b) : f_X9_next σ 105 = some (nI (cc L c p)) := by
  obtain ⟨h1, h2, h3, h4, h5, h6⟩ := h
  unfold f_X9_next cc
  rw [h3, h4]
  by_cases q : p < L
  · rw [if_neg (nil q (by omega)), PM4, AM4, ckI_nI (by omega) (by decide), chk_t, ix_nI (by omega), (h6 p q).1, if_pos q]
  · rw [if_pos (il (by omega) (by omega)), if_neg q]
    rfl
theorem S9.pos {L : Nat} {c : Nat → Nat} {σ : Mem} {p b p' : Nat} (h : S9 L c σ p b) (hp : p' ≤ L) : S9 L c (gst σ 105 6 (nI p')) p' b := by
  obtain ⟨h1, h2, h3, h4, h5, h6⟩ := h
  refine ⟨h1, hp, ?_, gst_s2, ?_, ?_⟩
  · rw [gst_n2 (by decide)]; exact h3
  · rw [gst_n2 (by decide)]; exact h5
  · rw [gst_row (by decide)]; exact h6
theorem S9.bad {L : Nat} {c : Nat → Nat} {σ : Mem} {p b b' : Nat} (h : S9 L c σ p b) : S9 L c (gst σ 105 7 (nI b')) p b' := by
  obtain ⟨h1, h2, h3, h4, h5, h6⟩ := h
  refine ⟨h1, h2, ?_, ?_, gst_s2, ?_⟩
  · rw [gst_n2 (by decide)]; exact h3
  · rw [gst_n2 (by decide)]; exact h4
  · rw [gst_row (by decide)]; exact h6
theorem S9.cue {L : Nat} {c : Nat → Nat} {σ : Mem} {p b j : Nat} {v : Int32} (h : S9 L c σ p b) : S9 L c (gst σ 111 j v) p b := by
  obtain ⟨h1, h2, h3, h4, h5, h6⟩ := h
  refine ⟨h1, h2, ?_, ?_, ?_, ?_⟩
  · rw [gst_row (by decide)]; exact h3
  · rw [gst_row (by decide)]; exact h4
  · rw [gst_row (by decide)]; exact h5
  · rw [gst_row (by decide)]; exact h6
theorem in48 {ch : Nat} (h : ch ≤ 126) : f_X9_in (nI ch) 48 57 = some (if 48 ≤ ch ∧ ch ≤ 57 then 1 else 0) := by
  rw [in_X9]
  by_cases q : 48 ≤ ch ∧ ch ≤ 57
  · rw [if_pos q, if_pos ⟨il (a := 48) q.1 (by omega), il (c := 57) q.2 (by decide)⟩]
  · rw [if_neg q, if_neg]
    rintro ⟨a, b⟩
    rw [le_i, nI_toInt (by omega)] at a b
    rw [show (48 : Int32).toInt = 48 from rfl] at a
    rw [show (57 : Int32).toInt = 57 from rfl] at b
    omega
theorem in97 {ch : Nat} (h : ch ≤ 126) : f_X9_in (nI ch) 97 108 = some (if 97 ≤ ch ∧ ch ≤ 108 then 1 else 0) := by
  rw [in_X9]
  by_cases q : 97 ≤ ch ∧ ch ≤ 108
  · rw [if_pos q, if_pos ⟨il (a := 97) q.1 (by omega), il (c := 108) q.2 (by decide)⟩]
  · rw [if_neg q, if_neg]
    rintro ⟨a, b⟩
    rw [le_i, nI_toInt (by omega)] at a b
    rw [show (97 : Int32).toInt = 97 from rfl] at a
    rw [show (108 : Int32).toInt = 108 from rfl] at b
    omega
theorem dig_no {lim u ch : Nat} (h : ¬ (48 ≤ ch ∧ ch ≤ 57)) : dig lim u ch = none := by
  unfold dig
  rw [if_neg (fun q => h ⟨q.1, q.2.1⟩)]
/-- a number that is there, from p: digits of lim -/
theorem num_9 {L lim n p : Nat} {c : Nat → Nat} {σ : Mem} {X : Nat → Tx} (hn : 1200 < n) (hlim : lim ≤ 9999) (hl9 : 9 ≤ lim) (h : S9 L c σ p 0) (hX : ∀ p u v, p < L → run c p = some (X u) → dig lim u (c p) = some v → run c (p + 1) = some (X v)) (hr : run c p = some (X 0)) (hd : 48 ≤ cc L c p ∧ cc L c p ≤ 57) : Ret (f_X9_takeNumber_L45 n σ 105 (nI lim) 0 1) (fun q => R9 σ q.2 ∧ ∃ p' u, p < p' ∧ S9 L c q.2 p' 0 ∧ 1 ≤ u ∧ u ≤ lim + 1 ∧ q.1 = nI (u - 1) ∧ run c p' = some (X u) ∧ dig lim u (cc L c p') = none) := by
  unfold f_X9_takeNumber_L45
  have lim0 : ∀ q u, q < L → 48 ≤ c q → c q ≤ 57 → u ≠ 1 → 10 * (u - 1) + (c q - 48) ≤ lim → dig lim u (cc L c q) = some (10 * (u - 1) + (c q - 48) + 1) := by
    intro q u h1 h2 h3 h4 h5
    unfold cc dig
    rw [if_pos h1, if_pos ⟨h2, h3, h4, h5⟩]
  by_cases big : 10 * (0 - 1) + (cc L c p - 48) ≤ lim
  · refine Ret_iter (fun m x => ∃ s p' u, x.1 = s ∧ p ≤ p' ∧ R9 σ s ∧ S9 L c s p' 0 ∧ run c p' = some (X u) ∧ x.2.1 = nI (u - 1) ∧ u ≤ lim + 1 ∧ ((x.2.2 = 1 ∧ m = L - p' + 1 ∧ (∃ v, dig lim u (cc L c p') = some v)) ∨ (x.2.2 = 0 ∧ m = 0 ∧ p < p' ∧ 1 ≤ u ∧ dig lim u (cc L c p') = none))) ?_ n (L - p + 1) _ ⟨σ, p, 0, rfl, Nat.le_refl _, R9.rf σ, h, hr, rfl, by omega, Or.inl ⟨rfl, rfl, ?_⟩⟩ (by have := h.1; omega)
    · rintro m ⟨s, x2, x3⟩ ⟨s', p', u, e1, hp, rr, hS, hru, e2, hu, hx⟩
      dsimp only at e1 e2 hx
      subst e1 e2
      unfold f_X9_takeNumber_B45
      dsimp only
      rcases hx with ⟨rfl, rfl, v, hv⟩ | ⟨rfl, rfl, hp2, hu1, hd0⟩
      · have hc := cc_le hS
        have hdd : 48 ≤ cc L c p' ∧ cc L c p' ≤ 57 := by
          by_cases q : 48 ≤ cc L c p' ∧ cc L c p' ≤ 57
          · exact q
          · rw [dig_no q] at hv
            cases hv
        have hpl : p' < L := by
          by_cases q : p' < L
          · exact q
          · exfalso
            unfold cc at hdd
            rw [if_neg q] at hdd
            omega
        have hcc : cc L c p' = c p' := by unfold cc; rw [if_pos hpl]
        have hv2 : v = 10 * (u - 1) + (c p' - 48) + 1 ∧ v ≤ lim + 1 := by
          rw [hcc] at hv
          have := dig_s hv
          unfold dig at hv
          split at hv
          · cases hv; exact ⟨rfl, this.2⟩
          · cases hv
        rw [if10, next_9 hS, bnd_s, hcc, show (10 : Int32) = nI 10 from rfl, show (48 : Int32) = nI 48 from rfl, nI_mul, nI_add, nI_sub (by omega), hS.2.2.2.1, show (1 : Int32) = nI 1 from rfl, nI_add]
        simp only [nm]
        have val : 10 * (u - 1) + c p' - 48 = v - 1 := by omega
        rw [val]
        have S1 := hS.pos (p' := p' + 1) (by omega)
        have R1 := rr.tr (r9_6 s (nI (p' + 1)))
        have ru1 : run c (p' + 1) = some (X v) := hX p' u v hpl hru (by rw [← hcc]; exact hv)
        generalize gst s 105 6 (nI (p' + 1)) = s1 at S1 R1
        have hc1 := cc_le S1
        have stop : dig lim v (cc L c (p' + 1)) = none → Ret (some (.inr (s1, nI (v - 1), 0)) : Option ((Int32 × Mem) ⊕ (Mem × Int32 × Int32))) (Lp (fun q : Int32 × Mem => R9 σ q.2 ∧ ∃ p' u, p < p' ∧ S9 L c q.2 p' 0 ∧ 1 ≤ u ∧ u ≤ lim + 1 ∧ q.1 = nI (u - 1) ∧ run c p' = some (X u) ∧ dig lim u (cc L c p') = none) (fun s' : Mem × Int32 × Int32 => ∃ m', m' < L - p' + 1 ∧ ∃ s p' u, s'.1 = s ∧ p ≤ p' ∧ R9 σ s ∧ S9 L c s p' 0 ∧ run c p' = some (X u) ∧ s'.2.1 = nI (u - 1) ∧ u ≤ lim + 1 ∧ ((s'.2.2 = 1 ∧ m' = L - p' + 1 ∧ (∃ v, dig lim u (cc L c p') = some v)) ∨ (s'.2.2 = 0 ∧ m' = 0 ∧ p < p' ∧ 1 ≤ u ∧ dig lim u (cc L c p') = none)))) := fun hst => Ret_some ⟨0, by omega, s1, p' + 1, v, rfl, by omega, R1, S1, ru1, rfl, by omega, Or.inr ⟨rfl, rfl, by omega, by omega, hst⟩⟩
        by_cases z0 : v - 1 ≤ 0
        · rw [if_pos (c := nI (v - 1) ≤ 0) (il (c := 0) z0 (by decide))]
          refine stop ?_
          have : v = 1 := by omega
          unfold dig
          rw [if_neg (fun q => q.2.2.1 this)]
        · rw [if_neg (c := nI (v - 1) ≤ 0) (nil (c := 0) (by omega) (by omega)), next_9 S1, bnd_s, show nI 48 = (48 : Int32) from rfl, in48 hc1, bnd_s]
          by_cases z1 : 48 ≤ cc L c (p' + 1) ∧ cc L c (p' + 1) ≤ 57
          · rw [if_pos z1, if10, bnd_s, show (48 : Int32) = nI 48 from rfl, nI_mul, nI_add, nI_sub (by omega)]
            have hpl1 : p' + 1 < L := by
              by_cases q : p' + 1 < L
              · exact q
              · exfalso
                unfold cc at z1
                rw [if_neg q] at z1
                omega
            have hcc1 : cc L c (p' + 1) = c (p' + 1) := by unfold cc; rw [if_pos hpl1]
            by_cases z2 : lim < 10 * (v - 1) + cc L c (p' + 1) - 48
            · rw [if_pos (li (by omega) z2)]
              refine stop ?_
              unfold dig
              rw [if_neg (by omega)]
            · rw [if_neg (nli (by omega) (by omega))]
              refine Ret_some ⟨L - (p' + 1) + 1, by omega, s1, p' + 1, v, rfl, by omega, R1, S1, ru1, rfl, by omega, Or.inl ⟨rfl, rfl, _, lim0 (p' + 1) v hpl1 (by omega) (by omega) (by omega) (by omega)⟩⟩
          · rw [if_neg z1, if00]
            exact stop (dig_no z1)
      · rw [if00]
        exact Ret_some ⟨rr, p', u, hp2, hS, hu1, hu, rfl, hru, hd0⟩
    · have hpl : p < L := by
        by_cases q : p < L
        · exact q
        · exfalso
          unfold cc at hd
          rw [if_neg q] at hd
          omega
      have hcc : cc L c p = c p := by unfold cc; rw [if_pos hpl]
      rw [hcc] at hd big
      exact ⟨_, lim0 p 0 hpl hd.1 hd.2 (by omega) big⟩
  · omega
theorem bt0 : bit 0 = true := rfl
theorem bt1 : bit 1 = true := rfl
theorem take22 {L lim n p b : Nat} {c : Nat → Nat} {σ : Mem} (hn : 1200 < n) (h : S9 L c σ p b) : ∃ q, f_X9_takeNumber_L22 n σ 105 (nI lim) = some q ∧ R9 σ q.2 ∧ S9 L c q.2 p 1 ∧ q.1 = 0 := by
  have S1 := h.bad (b' := 1)
  unfold f_X9_takeNumber_L22 f_X9_takeNumber_L27
  simp only [nm, bt1, chk_t]
  have z : gst σ 105 7 1 105 7 = 1 := gst_s2
  rw [if_neg (by rw [z]; decide)]
  unfold f_X9_takeNumber_L44 f_X9_takeNumber_L45
  refine ⟨(0, gst σ 105 7 1), ?_, r9_7 σ 1, S1, rfl⟩
  obtain ⟨m, rfl⟩ : ∃ m, n = m + 1 := ⟨n - 1, by omega⟩
  refine iter_out ?_
  unfold f_X9_takeNumber_B45
  dsimp only
  rw [if00]
theorem take_bad {L lim n p : Nat} {c : Nat → Nat} {σ : Mem} (hn : 1200 < n) (h : S9 L c σ p 1) : ∃ q, f_X9_takeNumber n σ 105 (nI lim) = some q ∧ R9 σ q.2 ∧ S9 L c q.2 p 1 ∧ q.1 = 0 := by
  unfold f_X9_takeNumber
  rw [h.2.2.2.2.1, if_neg (c := nI 1 = 0) (by decide)]
  exact take22 hn h
theorem take_ok {L lim n p : Nat} {c : Nat → Nat} {σ : Mem} {X : Nat → Tx} (hn : 1200 < n) (hlim : lim ≤ 9999) (hl9 : 9 ≤ lim) (h : S9 L c σ p 0) (hX : ∀ p u v, p < L → run c p = some (X u) → dig lim u (c p) = some v → run c (p + 1) = some (X v)) (hr : run c p = some (X 0)) : ∃ q, f_X9_takeNumber n σ 105 (nI lim) = some q ∧ R9 σ q.2 ∧ ((S9 L c q.2 p 1 ∧ q.1 = 0 ∧ dig lim 0 (cc L c p) = none) ∨ (∃ p' u, p < p' ∧ S9 L c q.2 p' 0 ∧ 1 ≤ u ∧ u ≤ lim + 1 ∧ q.1 = nI (u - 1) ∧ run c p' = some (X u) ∧ dig lim u (cc L c p') = none)) := by
  unfold f_X9_takeNumber
  rw [h.2.2.2.2.1, if_pos (c := nI 0 = 0) rfl, next_9 h, bnd_s, in48 (cc_le h), bnd_s]
  by_cases q : 48 ≤ cc L c p ∧ cc L c p ≤ 57
  · rw [if_pos q, if10]
    have S1 := h.bad (b' := 0)
    unfold f_X9_takeNumber_L27
    simp only [nm, bt0, chk_t]
    have z : gst σ 105 7 0 105 7 = 0 := gst_s2
    rw [if_pos z]
    unfold f_X9_takeNumber_L44
    obtain ⟨r, e, a1, a2⟩ := num_9 (n := n) (X := X) hn hlim hl9 S1 hX hr q
    exact ⟨r, e, (r9_7 σ 0).tr a1, Or.inr a2⟩
  · rw [if_neg q, if00]
    obtain ⟨r, e, a1, a2, a3⟩ := take22 (n := n) (lim := lim) hn h
    exact ⟨r, e, a1, Or.inl ⟨a2, a3, dig_no q⟩⟩
theorem need16 {L p b : Nat} {c : Nat → Nat} {σ : Mem} (h : S9 L c σ p b) : ∃ q, f_X9_need_L16 σ 105 = some q ∧ R9 σ q ∧ S9 L c q p 1 := by
  have S1 := h.bad (b' := 1)
  unfold f_X9_need_L16 f_X9_need_L21 f_X9_need_L41
  simp only [nm, bt1, chk_t]
  have z : gst σ 105 7 1 105 7 = 1 := gst_s2
  rw [if_neg (by rw [z]; decide)]
  have S1' : S9 L c (gst σ 105 7 1) p 1 := S1
  rw [S1'.2.2.2.1, show (0 : Int32) = nI 0 from rfl, nI_add, Nat.add_zero]
  exact ⟨_, rfl, (r9_7 σ 1).tr (r9_6 _ _), S1'.pos S1'.2.1⟩
theorem need_bad {L p : Nat} {c : Nat → Nat} {σ : Mem} {y : Int32} (h : S9 L c σ p 1) : ∃ q, f_X9_need σ 105 y = some q ∧ R9 σ q ∧ S9 L c q p 1 := by
  unfold f_X9_need
  rw [h.2.2.2.2.1, if_neg (c := nI 1 = 0) (by decide)]
  exact need16 h
theorem need_ok {L p ch : Nat} {c : Nat → Nat} {σ : Mem} (h : S9 L c σ p 0) (hc : ch < 2 ^ 30) (h0 : 0 < ch) : ∃ q, f_X9_need σ 105 (nI ch) = some q ∧ R9 σ q ∧ ((cc L c p = ch ∧ p < L ∧ S9 L c q (p + 1) 0) ∨ (cc L c p ≠ ch ∧ S9 L c q p 1)) := by
  have hcc := cc_le h
  unfold f_X9_need
  rw [h.2.2.2.2.1, if_pos (c := nI 0 = 0) rfl, next_9 h, bnd_s]
  by_cases q : cc L c p = ch
  · rw [if_pos (by rw [q])]
    have hpl : p < L := by
      by_cases z : p < L
      · exact z
      · exfalso
        unfold cc at q
        rw [if_neg z] at q
        omega
    have S1 : S9 L c (gst σ 105 7 0) p 0 := h.bad (b' := 0)
    unfold f_X9_need_L21 f_X9_need_L41
    simp only [nm, bt0, chk_t]
    have z : gst σ 105 7 0 105 7 = 0 := gst_s2
    rw [if_pos z, S1.2.2.2.1, show (1 : Int32) = nI 1 from rfl, nI_add]
    exact ⟨_, rfl, (r9_7 σ 0).tr (r9_6 _ _), Or.inl ⟨q, hpl, S1.pos (by omega)⟩⟩
  · rw [if_neg (fun z => q (nI_inj (by omega) (by omega) z))]
    obtain ⟨r, e, a1, a2⟩ := need16 h
    exact ⟨r, e, a1, Or.inr ⟨q, a2⟩⟩
theorem set24 {L n p b : Nat} {c : Nat → Nat} {σ : Mem} (hn : 1200 < n) (h : S9 L c σ p b) : ∃ q, f_X9_takeSet_L24 n σ 105 0 = some q ∧ R9 σ q.2 ∧ S9 L c q.2 p 1 ∧ q.1 = 0 := by
  have S1 : S9 L c (gst σ 105 7 1) p 1 := h.bad (b' := 1)
  unfold f_X9_takeSet_L24 f_X9_takeSet_L29
  simp only [nm, bt1, chk_t]
  unfold f_X9_takeSet_L32
  refine ⟨(0, gst σ 105 7 1), ?_, r9_7 σ 1, S1, rfl⟩
  obtain ⟨m, rfl⟩ : ∃ m, n = m + 1 := ⟨n - 1, by omega⟩
  refine iter_out ?_
  unfold f_X9_takeSet_B32
  dsimp only
  have z : gst σ 105 7 1 105 7 = 1 := gst_s2
  rw [if_neg (by rw [z]; decide)]
theorem set_bad {L n p : Nat} {c : Nat → Nat} {σ : Mem} (hn : 1200 < n) (h : S9 L c σ p 1) : ∃ q, f_X9_takeSet n σ 105 = some q ∧ R9 σ q.2 ∧ S9 L c q.2 p 1 ∧ q.1 = 0 := by
  unfold f_X9_takeSet
  rw [h.2.2.2.2.1, if_neg (c := nI 1 = 0) (by decide)]
  exact set24 hn h
theorem set_ok {L n p u t : Nat} {l : List Cu} {c : Nat → Nat} {σ : Mem} (hn : 1200 < n) (h : S9 L c σ p 0) (hr : run c p = some (1, u, t, 0, l)) : ∃ q, f_X9_takeSet n σ 105 = some q ∧ R9 σ q.2 ∧ ((S9 L c q.2 p 1 ∧ q.1 = 0 ∧ ¬ (97 ≤ cc L c p ∧ cc L c p ≤ 108)) ∨ (∃ p' s, p < p' ∧ S9 L c q.2 p' 0 ∧ 1 ≤ s ∧ s ≤ 4095 ∧ q.1 = nI s ∧ run c p' = some (1, u, t, s, l) ∧ ¬ (97 ≤ cc L c p' ∧ cc L c p' ≤ 108 ∧ s < 2 ^ (cc L c p' - 97)))) := by
  unfold f_X9_takeSet
  rw [h.2.2.2.2.1, if_pos (c := nI 0 = 0) rfl, next_9 h, bnd_s, in97 (cc_le h), bnd_s]
  by_cases q : 97 ≤ cc L c p ∧ cc L c p ≤ 108
  · rw [if_pos q, if10]
    have S1 : S9 L c (gst σ 105 7 0) p 0 := h.bad (b' := 0)
    have R1 := r9_7 σ 0
    unfold f_X9_takeSet_L29
    simp only [nm, bt0, chk_t]
    generalize gst σ 105 7 0 = σ1 at S1 R1
    unfold f_X9_takeSet_L32
    have key : Ret (iter (fun (s : Mem × Int32) => f_X9_takeSet_B32 n s.1 105 s.2) n (σ1, 0)) (fun q => R9 σ q.2 ∧ ∃ p' s, p < p' ∧ S9 L c q.2 p' 0 ∧ 1 ≤ s ∧ s ≤ 4095 ∧ q.1 = nI s ∧ run c p' = some (1, u, t, s, l) ∧ ¬ (97 ≤ cc L c p' ∧ cc L c p' ≤ 108 ∧ s < 2 ^ (cc L c p' - 97))) := by
      refine Ret_iter (fun m x => ∃ p' s, x.2 = nI s ∧ m = L - p' ∧ R9 σ x.1 ∧ S9 L c x.1 p' 0 ∧ s ≤ 4095 ∧ run c p' = some (1, u, t, s, l) ∧ ((p' = p ∧ s = 0) ∨ (p < p' ∧ 1 ≤ s))) ?_ n (L - p) _ ⟨p, 0, rfl, rfl, R1, S1, by omega, hr, Or.inl ⟨rfl, rfl⟩⟩ (by have := h.1; omega)
      rintro m ⟨s1, x1⟩ ⟨p', s, e, rfl, rr, hS, hs, hru, hx⟩
      dsimp only at e rr hS
      subst e
      unfold f_X9_takeSet_B32
      dsimp only
      have hcc := cc_le hS
      rw [if_pos (c := s1 105 7 = 0) (by rw [hS.2.2.2.2.1]; rfl), next_9 hS, bnd_s, in97 hcc, bnd_s, bnd_s]
      have stop : ¬ (97 ≤ cc L c p' ∧ cc L c p' ≤ 108 ∧ s < 2 ^ (cc L c p' - 97)) → Ret (some (.inl (nI s, s1)) : Option ((Int32 × Mem) ⊕ (Mem × Int32))) (Lp (fun q : Int32 × Mem => R9 σ q.2 ∧ ∃ p' s, p < p' ∧ S9 L c q.2 p' 0 ∧ 1 ≤ s ∧ s ≤ 4095 ∧ q.1 = nI s ∧ run c p' = some (1, u, t, s, l) ∧ ¬ (97 ≤ cc L c p' ∧ cc L c p' ≤ 108 ∧ s < 2 ^ (cc L c p' - 97))) (fun s' : Mem × Int32 => ∃ m', m' < L - p' ∧ ∃ p' s, s'.2 = nI s ∧ m' = L - p' ∧ R9 σ s'.1 ∧ S9 L c s'.1 p' 0 ∧ s ≤ 4095 ∧ run c p' = some (1, u, t, s, l) ∧ ((p' = p ∧ s = 0) ∨ (p < p' ∧ 1 ≤ s)))) := by
        intro hst
        rcases hx with ⟨z1, z2⟩ | ⟨z1, z2⟩
        · exfalso
          subst z1 z2
          exact hst ⟨q.1, q.2, Nat.two_pow_pos _⟩
        · exact Ret_some ⟨rr, p', s, z1, hS, z2, hs, rfl, hru, hst⟩
      by_cases q1 : 97 ≤ cc L c p' ∧ cc L c p' ≤ 108
      · have hpl : p' < L := by
          by_cases z : p' < L
          · exact z
          · exfalso
            unfold cc at q1
            rw [if_neg z] at q1
            omega
        have hcp : cc L c p' = c p' := by unfold cc; rw [if_pos hpl]
        have pw : 2 ^ (cc L c p' - 97) ≤ 2 ^ 11 := Nat.pow_le_pow_right (by decide) (by omega)
        rw [if_pos q1, if10, shl_ch q1.1 q1.2]
        by_cases q2 : s < 2 ^ (cc L c p' - 97)
        · have hle := letter_le q1.1 q1.2 q2
          rw [if_neg (nil q2 (by omega)), bnd_s, shl_ch q1.1 q1.2, nI_or (by omega) (by omega), or_add q2, hS.2.2.2.1, show (1 : Int32) = nI 1 from rfl, nI_add]
          refine Ret_nm (Ret_nm (Ret_some ⟨L - (p' + 1), by omega, p' + 1, s + 2 ^ (cc L c p' - 97), rfl, rfl, rr.tr (r9_6 _ _), hS.pos (by omega), hle, ?_, Or.inr ⟨by omega, ?_⟩⟩))
          · rw [run_s hru, ← hcp]
            unfold stp
            dsimp only
            rw [if_neg (by decide), if_pos rfl, if_neg (by omega), if_pos ⟨q1.1, q1.2, q2⟩]
          · have := Nat.two_pow_pos (cc L c p' - 97)
            omega
        · rw [if_pos (il (by omega) (by omega))]
          exact stop (fun z => q2 z.2.2)
      · rw [if_neg q1, if00]
        exact stop (fun z => q1 ⟨z.1, z.2.1⟩)
    obtain ⟨r, e, a1, a2⟩ := key
    exact ⟨r, e, a1, Or.inr a2⟩
  · rw [if_neg q, if00]
    obtain ⟨r, e, a1, a2, a3⟩ := set24 (n := n) hn h
    exact ⟨r, e, a1, Or.inl ⟨a2, a3, q⟩⟩
