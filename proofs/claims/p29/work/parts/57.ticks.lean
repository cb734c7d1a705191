/-! ticks -/
theorem lg0 {a b : Nat} (ha : a < 2 ^ 31) (hb : b < 2 ^ 31) : (lg_cmp (lN a) (lN b) = 0) ↔ a = b := by rw [lg_cmp_eq, lN_eq ha hb]
theorem lgle {a b : Nat} (ha : a < 2 ^ 31) (hb : b < 2 ^ 31) : (lg_cmp (lN a) (lN b) ≤ 0) ↔ a ≤ b := by rw [lg_cmp_le, lN_le ha hb]
theorem lggt {a b : Nat} (ha : a < 2 ^ 31) (hb : b < 2 ^ 31) : (0 < lg_cmp (lN a) (lN b)) ↔ b < a := by rw [lg_cmp_gt, lN_lt hb ha]
theorem fit_N {a : Nat} (h : a < 2 ^ 31) : fit32 (lN a) = true := by
  unfold fit32
  rw [lN_32, nI_l h]
  exact decide_eq_true rfl
theorem AL5 : alen 105 = 12 := rfl
theorem AL6 : alen 106 = 3 := rfl
theorem AL7 : alen 107 = 3 := rfl
theorem AL8 : alen 108 = 3 := rfl
theorem AL9 : alen 109 = 3 := rfl
section TkR
variable {U : Sh} {A B : Option Sh} {σ : Mem} {n w : Nat}
/-- one pump is looked at -/
theorem t490 (hU : Vok U) (h : Lv (tickV U) A B σ) {p : Nat} (hp : p < 3) (x1 x6 x8 x13 : Int32) (h106 : σ 106 p = nI (U 14 p)) (h107 : σ 107 p = nI (U 16 p)) (h108 : σ 108 p = nI (dsum U p (U 18 5))) (h109 : σ 109 p = nI (fsum U p (U 18 5))) : f_L_ticks_B490 n w σ 0 x1 (nI (U 18 5)) x6 x8 x13 (nI p) = some (.inr (nI (p + 1))) := by
  have hS := hU.2.2.1
  have hT := h.vs
  unfold VokS at hS hT
  have hPu := hU.2.1 p hp
  have hPt := h.1.1.2.1 p hp
  have e14 : tickV U 14 p = runV U p := rfl
  have e15 : tickV U 15 p = demV U p := rfl
  have e16 : tickV U 16 p = U 16 p + (if runV U p < demV U p then 1 else 0) := rfl
  have e12 : tickV U 12 p = U 12 p := rfl
  have e13 : tickV U 13 p = U 13 p := rfl
  have eD : dsum U p (U 18 5) = demV U p := rfl
  have fl := fsum_le hU p (Nat.le_refl (U 18 5))
  obtain ⟨f1, f2⟩ := fsum_f U p
  rw [eD] at fl h108
  have t1 : tickV U 18 4 = U 18 4 + 1 := rfl
  rw [e12, e13, e14, e15, e16, t1] at hPt
  have tb := tow_b (U 14 p) (min (demV U p) (1000 * U 12 p)) (1000 * U 13 p)
  have tu := fun z => tow_up (a := U 14 p) (g := min (demV U p) (1000 * U 12 p)) (s := 1000 * U 13 p) z
  have er : runV U p = tow (U 14 p) (min (demV U p) (1000 * U 12 p)) (1000 * U 13 p) := rfl
  rw [← er] at tb tu
  obtain ⟨p0, p1, p2, p3, p4⟩ := o_pr h hp
  rw [e12] at p0
  rw [e13] at p1
  rw [e14] at p2
  rw [e15] at p3
  rw [e16] at p4
  have ck : ckI (nI p) 3 = true := ckI_nI hp (by decide)
  have hix : ix (nI p) = p := ix_nI (by omega)
  have l673 : f_L_ticks_L673 n w σ 0 x1 (nI (U 18 5)) x6 x8 x13 (nI p) (nI (runV U p)) = some (.inr (nI (p + 1))) := by
    unfold f_L_ticks_L673
    rw [AL6, AL8, ck, hix, h106, h108, chk_t, chk_t, p0, bnd_s, nI_1, show (1000 : Int32) = nI 1000 from rfl, nI_mul, nI_l (by omega), nI_l (by omega)]
    by_cases q : runV U p ≤ U 14 p
    · rw [if_pos (nI_le q (by omega))]
      rfl
    · have := tu (by omega)
      rw [if_neg (nI_ge (by omega) (by omega)), if_neg (by rw [lggt (by omega) (by omega)]; omega), if_pos (nI_le (by omega) (by omega))]
      rfl
  have l644 : f_L_ticks_L644 n w σ 0 x1 (nI (U 18 5)) x6 x8 x13 (nI p) (nI (runV U p)) = some (.inr (nI (p + 1))) := by
    unfold f_L_ticks_L644
    rw [AL8, AL9, ck, hix, h108, h109, chk_t, chk_t, nI_l (by omega), nI_l (by omega), nI_l (by omega), nI_l (by omega), l673]
    by_cases q : demV U p ≤ runV U p
    · rw [if_pos ((lgle (by omega) (by omega)).mpr q)]
    · have := f2 (by omega)
      rw [if_neg (by rw [lgle (by omega) (by omega)]; omega), lN_sub (by omega), if_pos ((lgle (by omega) (by omega)).mpr (by omega))]
  have l612 : ∀ y, y = (if runV U p < demV U p then 1 else 0) → f_L_ticks_L612 n w σ 0 x1 (nI (U 18 5)) x6 x8 x13 (nI p) (nI (runV U p)) (nI y) (nI (U 16 p)) (nI (U 16 p + (if runV U p < demV U p then 1 else 0))) = some (.inr (nI (p + 1))) := by
    rintro y rfl
    unfold f_L_ticks_L612
    rw [AL8, AL9, ck, hix, h108, h109, chk_t, chk_t, chk_t, nI_add, if_pos rfl, nI_l (by omega), nI_l (by omega), nI_l (by omega), l644]
    by_cases q : runV U p < demV U p
    · rw [if_pos ((lggt (by omega) (by omega)).mpr q)]
    · rw [if_neg (by rw [lggt (by omega) (by omega)]; omega), if_pos ((lg0 (by omega) (by omega)).mpr (f1 (by omega)))]
  have l557 : f_L_ticks_L557 n w σ 0 x1 (nI (U 18 5)) x6 x8 x13 (nI p) (nI (runV U p)) (nI (1000 * U 13 p)) = some (.inr (nI (p + 1))) := by
    have hs := pk_sub_toInt (a := U 14 p) (b := 1000 * U 13 p) (by omega) (by omega)
    unfold f_L_ticks_L557
    rw [AL6, AL7, AL8, ck, hix, h106, h107, h108]
    simp only [chk_t]
    rw [nI_add, if_neg (nI_nlt (by omega) (by omega)), if_neg (c := nI (runV U p) < nI (U 14 p) - nI (1000 * U 13 p)) (by rw [lt_i, hs, nI_toInt (by omega)]; omega), p4, bnd_s, nI_l (by omega), nI_l (by omega)]
    by_cases q : runV U p < demV U p
    · rw [if_neg (by rw [lgle (by omega) (by omega)]; omega)]
      exact l612 1 (by rw [if_pos q])
    · rw [if_pos ((lgle (by omega) (by omega)).mpr (by omega))]
      exact l612 0 (by rw [if_neg q])
  unfold f_L_ticks_B490
  rw [if_neg (c := (3 : Int32) ≤ nI p) (nI_ge (b := 3) hp (by decide)), p2, bnd_s, p1, bnd_s, show (1000 : Int32) = nI 1000 from rfl, nI_mul]
  unfold nm
  dsimp only
  rw [p3, bnd_s, AL8, AL9, ck, hix, h108, h109]
  simp only [chk_t]
  rw [nI_l (by omega), nI_l (by omega), nI_l (by omega), if_pos ((lg0 (by omega) (by omega)).mpr rfl), show (0 : Int64) = lN 0 from rfl, l557]
  have fr : fsum U p (U 18 5) ≤ runV U p := by
    rcases Nat.lt_or_ge (runV U p) (demV U p) with q | q
    · exact (f2 q).1
    · rw [f1 q]; exact q
  rw [if_pos ((lgle (by omega) (by omega)).mpr fr)]
end TkR
