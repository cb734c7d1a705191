/-! up; what the wind does in a tick -/
def upN (v : Int32) (m : Nat) : Nat := v.toBitVec.toNat % 2 ^ 31 % m
theorem up_ok (v : Int32) {m : Nat} (h0 : 0 < m) (hm : m < 2 ^ 31) : f_L_up v (nI m) = some (nI (upN v m)) := by
  unfold f_L_up
  have e := pk_and v (m := 2147483647) 31 (by decide)
  rw [decide_eq_true (nI_ne0 h0 hm), chk_t, e, irm_nI (Nat.mod_lt _ (by decide)) h0 hm]
  rfl
theorem up_lt (v : Int32) {m : Nat} (h0 : 0 < m) : upN v m < m := Nat.mod_lt _ h0
theorem refused_ok {A B : Option Sh} {σ : Mem} {n : Nat} (h : Lv (iniV 4 0) A B σ) (hn : 1200 < n) (w : Nat) (x : Int32) : Ret (f_L_refused n w σ 0 x) (fun q => q.1 = 1 ∧ Lv (iniV 4 0) A B q.2) := by
  unfold f_L_refused
  rcases nI_cases x with q | ⟨j, hj, rfl⟩
  · rw [if_neg (by rw [lt_i] at q; rw [le_i]; omega), show (1000000 : Int32) = nI 1000000 from rfl, up_ok x (by decide) (by decide), bnd_s]
    have u := up_lt x (m := 1000000) (by decide)
    refine refused_L h hn w (Or.inl ?_)
    rw [ti_sub (by rw [show (-11 : Int32).toInt = -11 from rfl, nI_toInt (by omega)]; omega) (by rw [show (-11 : Int32).toInt = -11 from rfl, nI_toInt (by omega)]; omega), show (-11 : Int32).toInt = -11 from rfl, nI_toInt (by omega)]
    omega
  · rw [if_pos (c := (0 : Int32) ≤ nI j) (nI_le (a := 0) (by omega) hj), show (1000000 : Int32) = nI 1000000 from rfl, irm_nI hj (by decide) (by decide), show (100001 : Int32) = nI 100001 from rfl, nI_add]
    have u : j % 1000000 < 1000000 := Nat.mod_lt _ (by decide)
    refine refused_L h hn w (Or.inr ?_)
    rw [nI_toInt (by omega)]
    omega
theorem filt_b {V : Sh} (hS : VokS V) : (V 18 1 ≤ 1024 * V 18 0 ∧ V 18 1 ≤ filtV V ∧ filtV V ≤ 1024 * V 18 0) ∨ (1024 * V 18 0 < V 18 1 ∧ 1024 * V 18 0 ≤ filtV V ∧ filtV V ≤ V 18 1) := by
  obtain ⟨e, -⟩ := filt_eq hS
  unfold VokS at hS
  have hf : (1 : Int) ≤ (V 17 0 : Int) := by omega
  generalize hd : ((1024 * V 18 0 : Nat) : Int) - (V 18 1 : Int) = d at e
  rcases Int.le_total 0 d with q | q
  · left
    have a1 : 0 ≤ d / (V 17 0 : Int) := Int.ediv_nonneg q (by omega)
    have a2 : d / (V 17 0 : Int) ≤ d := Int.ediv_le_self _ q
    omega
  · have a1 : d / (V 17 0 : Int) ≤ 0 := by
      have := Int.ediv_le_ediv (c := (V 17 0 : Int)) (by omega) q
      rw [Int.zero_ediv] at this
      exact this
    have a2 : d ≤ d / (V 17 0 : Int) := by
      rw [Int.le_ediv_iff_mul_le (by omega)]
      have := Int.mul_le_mul_of_nonpos_left q hf
      omega
    rcases Int.lt_or_le d 0 with z | z
    · right
      omega
    · left
      omega
section WdR
variable {n w : Nat} {σ : Mem}
theorem wd64 {m m' wd : Nat} {x1 x5 : Int32} (h : f_L_wind_L79 n w σ 0 x1 (nI m') x5 = some 1) (hm : m < 1000) (hm' : m' < 1000) (hw : wd < 1000) (hd : wd ≤ m' + 1 ∨ m ≤ m') : f_L_wind_L64 n w σ 0 x1 (nI m) (nI m') (nI wd) x5 = some 1 := by
  unfold f_L_wind_L64
  have hs := pk_sub_toInt (a := wd) (b := 1) (by omega) (by decide)
  by_cases q : wd ≤ m' + 1
  · rw [if_pos (c := nI wd - 1 ≤ nI m') (by rw [l_1, le_i, hs, nI_toInt (by omega)]; omega), h]
  · rw [if_neg (c := nI wd - 1 ≤ nI m') (by rw [l_1, le_i, hs, nI_toInt (by omega)]; omega), if_pos (nI_le (by omega) (by omega)), h]
theorem wd53 {m m' wd : Nat} {x1 x5 : Int32} (h : f_L_wind_L64 n w σ 0 x1 (nI m) (nI m') (nI wd) x5 = some 1) (hm : m < 1000) (hm' : m' < 1000) (hw : wd < 1000) (hc : m' ≤ wd ∨ m' ≤ m) : f_L_wind_L53 n w σ 0 x1 (nI m) (nI m') (nI wd) x5 = some 1 := by
  unfold f_L_wind_L53
  by_cases q : m' ≤ wd
  · rw [if_pos (nI_le q (by omega)), h]
  · rw [if_neg (nI_ge (by omega) (by omega)), if_neg (nI_nlt (by omega) (by omega)), h]
theorem wd42 {m m' wd : Nat} {x1 x5 : Int32} (h : f_L_wind_L53 n w σ 0 x1 (nI m) (nI m') (nI wd) x5 = some 1) (hm : m < 1000) (hm' : m' < 1000) (hw : wd < 1000) (hb : m < wd ∨ m' ≤ m) : f_L_wind_L42 n w σ 0 x1 (nI m) (nI m') (nI wd) x5 = some 1 := by
  unfold f_L_wind_L42
  by_cases q : m < wd
  · rw [if_pos (nI_lt q (by omega)), h]
  · rw [if_neg (nI_nlt (by omega) (by omega)), if_neg (nI_nlt (by omega) (by omega)), h]
/-- what the stage and the calm count say of a tick -/
def StOk (st m' fst snd hold th ca : Nat) : Prop := (snd ≤ m' ∧ th = 2 ∧ ca = 0) ∨ (m' < snd ∧ st = 0 ∧ th = 1 ∧ ca = 0 ∧ fst ≤ m') ∨ (m' < snd ∧ th ≤ st ∧ st ≤ th + 1 ∧ ca < max hold 1 ∧ (0 < st ∨ m' < fst) ∧ (ca = 0 ∨ 0 < th))
theorem wind_st (V : Sh) : StOk (V 18 2) (measV V) (V 17 1) (V 17 2) (V 17 4) (windV V).1 (windV V).2 := by
  unfold windV StOk
  by_cases a : V 17 2 ≤ measV V
  · rw [if_pos a]
    exact Or.inl ⟨a, rfl, rfl⟩
  · rw [if_neg a]
    by_cases b : V 17 1 ≤ measV V ∧ V 18 2 = 0
    · rw [if_pos b]
      exact Or.inr (Or.inl ⟨by omega, b.2, rfl, rfl, b.1⟩)
    · rw [if_neg b]
      refine Or.inr (Or.inr ⟨by omega, ?_⟩)
      by_cases c : 0 < V 18 2 ∧ measV V + 10 < (if V 18 2 = 2 then V 17 2 else V 17 1)
      · rw [if_pos c]
        by_cases d : V 17 4 ≤ V 18 3 + 1
        · rw [if_pos d]
          dsimp only
          omega
        · rw [if_neg d]
          dsimp only
          omega
      · rw [if_neg c]
        dsimp only
        omega
theorem wd197 {V : Sh} {A B : Option Sh} (h : Lv V A B σ) {th : Nat} (hth : th ≤ 2) (hc : V 18 3 = 0 ∨ 0 < th) : f_L_wind_L197 n w σ 0 (nI th) = some 1 := by
  have hS := h.vs
  unfold VokS at hS
  unfold f_L_wind_L197 f_L_wind_L211
  rw [(o_st h).2.2.2.2.2.2.1, bnd_s]
  by_cases q : V 18 3 = 0
  · rw [q, if_pos (c := nI 0 = 0) rfl]
  · rw [if_neg (nI_ne0 (by omega) (by omega)), if_neg (nI_nle (by omega) (by omega))]
theorem wd79 {V : Sh} {A B : Option Sh} (h : Lv V A B σ) {st m' : Nat} (hst : st ≤ 2) (hm' : m' < 1000) (ho : StOk st m' (V 17 1) (V 17 2) (V 17 4) (V 18 2) (V 18 3)) : f_L_wind_L79 n w σ 0 (nI st) (nI m') (nI (V 18 2)) = some 1 := by
  have hS := h.vs
  unfold VokS at hS
  have s12 : f_X8_state n σ 0 12 = some (nI (V 17 2)) := o_ss h (j := 2) (by decide)
  have s11 : f_X8_state n σ 0 11 = some (nI (V 17 1)) := o_ss h (j := 1) (by decide)
  have s14 : f_X8_state n σ 0 14 = some (nI (V 17 4)) := o_ss h (j := 4) (by decide)
  have s6 := (o_st (n := n) h).2.2.2.2.2.2.1
  unfold f_L_wind_L79
  rw [s12, bnd_s]
  rcases ho with ⟨a1, a2, a3⟩ | ⟨a1, a2, a3, a4, a5⟩ | ⟨a1, a2, a3, a4, a5, a6⟩
  · rw [if_neg (nI_nlt a1 (by omega)), a2, if_pos (c := nI 2 = 2) rfl, s6, bnd_s, a3, if_pos (c := nI 0 = 0) rfl]
  · rw [if_pos (nI_lt a1 (by omega)), a2, a3, if_neg (c := nI 1 ≤ nI 0) (by decide), if_pos (c := nI 0 = 0) rfl, if_pos (c := nI 1 = 1) rfl, s11, bnd_s, if_neg (nI_nlt a5 (by omega))]
  · have hs := pk_sub_toInt (a := st) (b := 1) (by omega) (by decide)
    have l197 := wd197 (n := n) (w := w) h (th := V 18 2) (by omega) a6
    have l175 : ∀ y, 1 ≤ y → V 18 3 < y → y ≤ 600 → f_L_wind_L175 n w σ 0 (nI st) (nI m') (nI (V 18 2)) (nI y) (nI (V 18 3)) = some 1 := by
      intro y y1 y2 y3
      unfold f_L_wind_L175
      rw [if_neg (c := nI y ≤ nI (V 18 3)) (nI_ge y2 (by omega))]
      by_cases q : 0 < V 18 2
      · rw [if_pos (c := 0 < nI (V 18 2)) (nI_lt (a := 0) q (by omega)), l197]
      · rw [if_neg (c := 0 < nI (V 18 2)) (nI_nlt (b := V 18 2) (a := 0) (by omega) (by decide))]
        by_cases q2 : 0 < st
        · rw [if_pos (c := 0 < nI st) (nI_lt (a := 0) q2 (by omega)), l197]
        · rw [if_neg (c := 0 < nI st) (nI_nlt (b := st) (a := 0) (by omega) (by decide)), s11, bnd_s, if_neg (nI_ge (by omega) (by omega)), l197]
    rw [if_pos (nI_lt a1 (by omega)), if_pos (nI_le a2 (by omega)), if_neg (c := nI (V 18 2) < nI st - 1) (by rw [l_1, lt_i, hs, nI_toInt (by omega)]; omega), s6, bnd_s, s14, bnd_s]
    by_cases q : V 17 4 = 0
    · rw [q, if_pos (c := nI 0 = 0) rfl]
      exact l175 1 (by omega) (by omega) (by omega)
    · rw [if_neg (nI_ne0 (by omega) (by omega)), bnd_s]
      exact l175 _ (by omega) (by omega) (by omega)
theorem wind_ok {V : Sh} {A B : Option Sh} (hV : Vok V) (h : Lv (tickV V) A B σ) : f_L_wind n w σ 0 (nI (V 18 2)) (nI (V 18 1 / 1024)) = some 1 := by
  have hS := hV.2.2.1
  have hb := filt_b hS
  have hm := measV_le hV
  unfold VokS at hS
  have ho := wind_st V
  have e1 : measV V = filtV V / 1024 := rfl
  obtain ⟨-, -, -, s3, s4, s5, -⟩ := o_st (n := n) h
  have k4 : f_X8_state n σ 0 4 = some (nI (measV V)) := s4
  have k3 : f_X8_state n σ 0 3 = some (nI (V 18 0)) := s3
  have l79 : f_L_wind_L79 n w σ 0 (nI (V 18 2)) (nI (measV V)) (nI (tickV V 18 2)) = some 1 := wd79 h (by omega) (by omega) ho
  have l64 := wd64 (m := V 18 1 / 1024) (wd := V 18 0) l79 (by omega) (by omega) (by omega) (by omega)
  have l53 := wd53 l64 (by omega) (by omega) (by omega) (by omega)
  have l42 := wd42 l53 (by omega) (by omega) (by omega) (by omega)
  unfold f_L_wind
  rw [k4, bnd_s, k3, bnd_s, s5, bnd_s, if_neg (nI_pos (by omega)), if_neg (c := 300 < nI (measV V)) (nI_nlt (b := measV V) (a := 300) hm (by decide))]
  by_cases q : V 18 0 < V 18 1 / 1024
  · rw [if_pos (nI_lt q (by omega)), l42]
  · rw [if_neg (nI_nlt (by omega) (by omega)), if_neg (nI_nlt (by omega) (by omega)), l42]
end WdR
