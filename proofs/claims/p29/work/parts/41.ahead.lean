theorem high_now {b : Nat} (hb : SB b) {V : Sh} {σ : Mem} {n : Nat} (hV : Vok V) (h : Rc b V σ) (hn : 60 < n) : f_X1_greatestHeightNow n σ (b + 3) = some (nI (maxV (V 9) 0 (V 18 5))) := by
  have hS := hV.2.2.1
  unfold VokS at hS
  have h8 := h.2.2.1.2.2.2.2.2.2.1
  have key : Ret (f_X1_greatestHeightNow n σ (b + 3)) (fun r => r = nI (maxV (V 9) 0 (V 18 5))) := by
    unfold f_X1_greatestHeightNow f_X1_greatestHeightNow_L4
    refine Ret_for1 (V 18 5) (fun i v => v = nI (maxV (V 9) 0 i)) ?_ ?_ (i := 0) (Nat.zero_le _) (by omega) rfl
    · rintro i v hi rfl
      have a9 := (h.1 i hi).2.2.2.2.1
      have l9 := (hV.1 i hi).2.2.2.2.2.2.2.2.2.1
      have lm : maxV (V 9) 0 i ≤ 5000 := maxV_le (by omega) (fun j hj => (hV.1 j (by omega)).2.2.2.2.2.2.2.2.2.1)
      unfold f_X1_greatestHeightNow_B4
      dsimp only
      rw [h8, if_neg (c := nI (V 18 5) ≤ nI i) (nil hi (by omega)), P3_4 hb, A9 hb, ckI_nI (by omega) (by decide), chk_t, ix_nI (by omega), a9, mxI_n (by omega) (by omega)]
      refine Ret_nm (Ret_nm (Ret_some ⟨_, by rw [show (1 : Int32) = nI 1 from rfl, nI_add]; rfl, rfl⟩))
    · rintro v rfl
      unfold f_X1_greatestHeightNow_B4
      dsimp only
      rw [h8, if_pos (c := nI (V 18 5) ≤ nI (V 18 5)) (Int32.le_refl _)]
      exact Ret_some rfl
  obtain ⟨r, e, rfl⟩ := key
  exact e
def gdV (V : Sh) (p : Nat) : Nat → Nat
  | 0 => 0
  | k + 1 => max (gdV V p k) (tkV V (k + 1) 15 p)
def ghV (V : Sh) : Nat → Nat
  | 0 => 0
  | k + 1 => max (ghV V k) (maxV (tkV V (k + 1) 9) 0 (tkV V (k + 1) 18 5))
/-- the pump p is short in tick k -/
def shV (V : Sh) (p k : Nat) : Prop := tkV V (k + 1) 14 p < tkV V (k + 1) 15 p
def fsV (V : Sh) (p : Nat) : Nat → Option Nat
  | 0 => none
  | k + 1 => match fsV V p k with
    | some j => some j
    | none => if tkV V (k + 1) 14 p < tkV V (k + 1) 15 p then some k else none
def fsI : Option Nat → Int32
  | none => -6
  | some j => nI j
theorem gd_le {V : Sh} (hV : Vok V) {p : Nat} (hp : p < 3) : ∀ k, V 18 4 + k ≤ 2000000 → gdV V p k ≤ 1200000
  | 0, _ => by show 0 ≤ 1200000; omega
  | k + 1, h => by
    have a := gd_le hV hp k (by omega)
    have c := ((tk_ok hV (k + 1) h).2.1 p hp).2.2.2.1
    show max _ _ ≤ _
    omega
theorem gh_le {V : Sh} (hV : Vok V) : ∀ k, V 18 4 + k ≤ 2000000 → ghV V k ≤ 5000
  | 0, _ => by show 0 ≤ 5000; omega
  | k + 1, h => by
    have a := gh_le hV k (by omega)
    have c : maxV (tkV V (k + 1) 9) 0 (tkV V (k + 1) 18 5) ≤ 5000 := maxV_le (by omega) (fun i hi => ((tk_ok hV (k + 1) h).1 i hi).2.2.2.2.2.2.2.2.2.1)
    show max _ _ ≤ _
    omega
theorem sh_mono (V : Sh) (p : Nat) : ∀ k, V 16 p ≤ tkV V k 16 p
  | 0 => Nat.le_refl _
  | k + 1 => Nat.le_trans (sh_mono V p k) (by
    show _ ≤ tickV (tkV V k) 16 p
    show tkV V k 16 p ≤ tkV V k 16 p + _
    omega)
theorem wet_mono (V : Sh) : ∀ k, V 18 6 ≤ tkV V k 18 6
  | 0 => Nat.le_refl _
  | k + 1 => Nat.le_trans (wet_mono V k) (by
    show tkV V k 18 6 ≤ tkV V k 18 6 + _
    omega)
theorem sh_step (V : Sh) (p k : Nat) : tkV V (k + 1) 16 p = tkV V k 16 p + (if tkV V (k + 1) 14 p < tkV V (k + 1) 15 p then 1 else 0) := rfl
theorem p01a : ptr 0 1 = 25 := rfl
theorem l_demand {n : Nat} (hn : 60 < n) {σ : Mem} {V : Sh} {e p : Nat} (hp : p < 3) (hV : Vok V) (hc : Rc 25 V σ) (he : e < n) (he2 : V 18 4 + e ≤ 2000000) (hh : e < 2 ^ 31) : Ret (f_X8_greatestDemand n σ 0 (nI e) (nI p)) (fun q => q.1 = nI (gdV V p e) ∧ Rc 25 (tkV V e) q.2 ∧ Fr 25 σ q.2) := by
  unfold f_X8_greatestDemand f_X8_greatestDemand_L5
  refine Ret_for2 e (fun i v s => v = nI (gdV V p i) ∧ Rc 25 (tkV V i) s ∧ Fr 25 σ s) ?_ ?_ (i := 0) (Nat.zero_le _) he ⟨rfl, hc, Fr.rf _ _⟩
  · rintro i v s hi ⟨rfl, hI⟩
    unfold f_X8_greatestDemand_B5
    dsimp only
    rw [if_neg (c := nI e ≤ nI i) (nil hi hh), p01, P0_2 SB25, P13_2 SB25, A17 SB25]
    refine Ret_bnd (tickC SB25 hn (tk_ok hV i (by omega)) hI.1) ?_
    rintro s' ⟨a1, a2⟩
    have w : Rc 25 (tkV V (i + 1)) s' := a1
    have d := (w.2.1 p hp).2.2.1
    have c := ((tk_ok hV (i + 1) (by omega)).2.1 p hp).2.2.2.1
    have l := gd_le hV hp i (by omega)
    rw [ckI_nI hp (by decide), chk_t, ix_nI (by omega), d, mxI_n (by omega) (by omega)]
    refine Ret_nm (Ret_nm (Ret_some ⟨_, s', by rw [show (1 : Int32) = nI 1 from rfl, nI_add]; rfl, rfl, a1, hI.2.tr a2⟩))
  · rintro v s ⟨rfl, hI⟩
    unfold f_X8_greatestDemand_B5
    dsimp only
    rw [if_pos (c := nI e ≤ nI e) (Int32.le_refl _)]
    exact Ret_some ⟨rfl, hI⟩
theorem l_height {n : Nat} (hn : 60 < n) {σ : Mem} {V : Sh} {e : Nat} (hV : Vok V) (hc : Rc 25 V σ) (he : e < n) (he2 : V 18 4 + e ≤ 2000000) (hh : e < 2 ^ 31) : Ret (f_X8_greatestHeight n σ 0 (nI e)) (fun q => q.1 = nI (ghV V e) ∧ Rc 25 (tkV V e) q.2 ∧ Fr 25 σ q.2) := by
  unfold f_X8_greatestHeight f_X8_greatestHeight_L4
  refine Ret_for2 e (fun i v s => v = nI (ghV V i) ∧ Rc 25 (tkV V i) s ∧ Fr 25 σ s) ?_ ?_ (i := 0) (Nat.zero_le _) he ⟨rfl, hc, Fr.rf _ _⟩
  · rintro i v s hi ⟨rfl, hI⟩
    unfold f_X8_greatestHeight_B4
    dsimp only
    rw [if_neg (c := nI e ≤ nI i) (nil hi hh), p01, P0_1 SB25]
    refine Ret_bnd (tickC SB25 hn (tk_ok hV i (by omega)) hI.1) ?_
    rintro s' ⟨a1, a2⟩
    have w : Rc 25 (tkV V (i + 1)) s' := a1
    have hV' := tk_ok hV (i + 1) (by omega)
    have c : maxV (tkV V (i + 1) 9) 0 (tkV V (i + 1) 18 5) ≤ 5000 := maxV_le (by omega) (fun i hi => (hV'.1 i hi).2.2.2.2.2.2.2.2.2.1)
    have l := gh_le hV i (by omega)
    rw [high_now SB25 hV' w hn, bnd_s, mxI_n (by omega) (by omega)]
    refine Ret_nm (Ret_nm (Ret_some ⟨_, s', by rw [show (1 : Int32) = nI 1 from rfl, nI_add]; rfl, rfl, a1, hI.2.tr a2⟩))
  · rintro v s ⟨rfl, hI⟩
    unfold f_X8_greatestHeight_B4
    dsimp only
    rw [if_pos (c := nI e ≤ nI e) (Int32.le_refl _)]
    exact Ret_some ⟨rfl, hI⟩
theorem l_short {n : Nat} (hn : 60 < n) {σ : Mem} {V : Sh} {e p : Nat} (hp : p < 3) (hV : Vok V) (hc : Rc 25 V σ) (he : e < n) (he2 : V 18 4 + e ≤ 2000000) (hh : e < 2 ^ 31) : Ret (f_X8_shortTicks n σ 0 (nI e) (nI p)) (fun q => q.1 = nI (tkV V e 16 p - V 16 p) ∧ (∃ k, V 18 4 + k ≤ 2000000 ∧ Rc 25 (tkV V k) q.2) ∧ Fr 25 σ q.2) := by
  unfold f_X8_shortTicks
  rw [p01, P0_2 SB25, P13_3 SB25, A18 SB25, ckI_nI hp (by decide), chk_t, ix_nI (by omega), (hc.2.1 p hp).2.2.2]
  unfold nm f_X8_shortTicks_L16
  refine Ret_for e (fun i s => Rc 25 (tkV V i) s ∧ Fr 25 σ s) ?_ ?_ (i := 0) (Nat.zero_le _) he ⟨hc, Fr.rf _ _⟩
  · rintro i s hi hI
    unfold f_X8_shortTicks_B16
    dsimp only
    rw [if_neg (c := nI e ≤ nI i) (nil hi hh), p01]
    refine Ret_bnd (tickC SB25 hn (tk_ok hV i (by omega)) hI.1) ?_
    rintro s' ⟨a1, a2⟩
    exact Ret_nm (Ret_some ⟨s', by rw [show (1 : Int32) = nI 1 from rfl, nI_add], a1, hI.2.tr a2⟩)
  · rintro s hI
    unfold f_X8_shortTicks_B16
    dsimp only
    rw [if_pos (c := nI e ≤ nI e) (Int32.le_refl _), p01, P0_2 SB25, P13_3 SB25, A18 SB25, ckI_nI hp (by decide), chk_t, ix_nI (by omega), (hI.1.2.1 p hp).2.2.2, nI_sub (sh_mono V p e)]
    exact Ret_some ⟨rfl, ⟨e, he2, hI.1⟩, hI.2⟩
theorem l_wet {n : Nat} (hn : 60 < n) {σ : Mem} {V : Sh} {e : Nat} (hV : Vok V) (hc : Rc 25 V σ) (he : e < n) (he2 : V 18 4 + e ≤ 2000000) (hh : e < 2 ^ 31) : Ret (f_X8_wetTicks n σ 0 (nI e)) (fun q => q.1 = nI (tkV V e 18 6 - V 18 6) ∧ (∃ k, V 18 4 + k ≤ 2000000 ∧ Rc 25 (tkV V k) q.2) ∧ Fr 25 σ q.2) := by
  unfold f_X8_wetTicks
  rw [p01, hc.2.2.1.2.2.2.2.2.2.2.1]
  unfold nm f_X8_wetTicks_L10
  refine Ret_for e (fun i s => Rc 25 (tkV V i) s ∧ Fr 25 σ s) ?_ ?_ (i := 0) (Nat.zero_le _) he ⟨hc, Fr.rf _ _⟩
  · rintro i s hi hI
    unfold f_X8_wetTicks_B10
    dsimp only
    rw [if_neg (c := nI e ≤ nI i) (nil hi hh), p01]
    refine Ret_bnd (tickC SB25 hn (tk_ok hV i (by omega)) hI.1) ?_
    rintro s' ⟨a1, a2⟩
    exact Ret_nm (Ret_some ⟨s', by rw [show (1 : Int32) = nI 1 from rfl, nI_add], a1, hI.2.tr a2⟩)
  · rintro s hI
    unfold f_X8_wetTicks_B10
    dsimp only
    rw [if_pos (c := nI e ≤ nI e) (Int32.le_refl _), p01, hI.1.2.2.1.2.2.2.2.2.2.2.1, nI_sub (wet_mono V e)]
    exact Ret_some ⟨rfl, ⟨e, he2, hI.1⟩, hI.2⟩
theorem fs_stay {V : Sh} {p k j : Nat} (h : fsV V p k = some j) : ∀ d, fsV V p (k + d) = some j
  | 0 => h
  | d + 1 => by
    show (match fsV V p (k + d) with | some j => some j | none => _) = _
    rw [fs_stay h d]
theorem l_first {n : Nat} (hn : 60 < n) {σ : Mem} {V : Sh} {e p : Nat} (hp : p < 3) (hV : Vok V) (hc : Rc 25 V σ) (he : e < n) (he2 : V 18 4 + e ≤ 2000000) (hh : e < 2 ^ 31) : Ret (f_X8_firstShort n σ 0 (nI e) (nI p)) (fun q => q.1 = fsI (fsV V p e) ∧ (∃ k, V 18 4 + k ≤ 2000000 ∧ Rc 25 (tkV V k) q.2) ∧ Fr 25 σ q.2) := by
  unfold f_X8_firstShort f_X8_firstShort_L2
  refine Ret_for e (fun i s => fsV V p i = none ∧ Rc 25 (tkV V i) s ∧ Fr 25 σ s) ?_ ?_ (i := 0) (Nat.zero_le _) he ⟨rfl, hc, Fr.rf _ _⟩
  · rintro i s hi ⟨hf, hI⟩
    unfold f_X8_firstShort_B2
    dsimp only
    rw [if_neg (c := nI e ≤ nI i) (nil hi hh), p01, P0_2 SB25]
    refine Ret_bnd (tickC SB25 hn (tk_ok hV i (by omega)) hI.1) ?_
    rintro s' ⟨a1, a2⟩
    have w : Rc 25 (tkV V (i + 1)) s' := a1
    have c := (tk_ok hV (i + 1) (by omega)).2.1 p hp
    rw [isShort_ok SB25 (D := tkV V (i + 1) 15 p) (f := tkV V (i + 1) 14 p) hp (w.2.1 p hp).2.2.1 (w.2.1 p hp).2.1 (by omega) (by omega), bnd_s]
    by_cases q : tkV V (i + 1) 14 p < tkV V (i + 1) 15 p
    · rw [if_pos q, if10]
      refine Ret_some ⟨?_, ⟨i + 1, by omega, w⟩, hI.2.tr a2⟩
      have z : fsV V p (i + 1) = some i := by
        show (match fsV V p i with | some j => some j | none => _) = _
        rw [hf]
        exact if_pos q
      have := fs_stay z (e - (i + 1))
      rw [show i + 1 + (e - (i + 1)) = e by omega] at this
      rw [this]
      rfl
    · rw [if_neg q, if00]
      refine Ret_nm (Ret_some ⟨s', by rw [show (1 : Int32) = nI 1 from rfl, nI_add], ?_, a1, hI.2.tr a2⟩)
      show (match fsV V p i with | some j => some j | none => _) = _
      rw [hf]
      exact if_neg q
  · rintro s ⟨hf, hI⟩
    unfold f_X8_firstShort_B2
    dsimp only
    rw [if_pos (c := nI e ≤ nI e) (Int32.le_refl _)]
    exact Ret_some ⟨by rw [hf]; rfl, ⟨e, he2, hI.1⟩, hI.2⟩

