/-! the class goes through the text -/
theorem nI_or {a b : Nat} (ha : a < 2 ^ 31) (hb : b < 2 ^ 31) : nI a ||| nI b = nI (a ||| b) := by
  apply Int32.toBitVec_inj.mp
  rw [Int32.toBitVec_or]
  apply BitVec.eq_of_toNat_eq
  rw [BitVec.toNat_or]
  have ho : a ||| b < 2 ^ 31 := Nat.or_lt_two_pow ha hb
  show ((a % 2 ^ 32) ||| (b % 2 ^ 32)) = (a ||| b) % 2 ^ 32
  rw [Nat.mod_eq_of_lt (by omega), Nat.mod_eq_of_lt (by omega), Nat.mod_eq_of_lt (by omega)]
theorem shl_ch {ch : Nat} (h1 : 97 ≤ ch) (h2 : ch ≤ 108) : (1 : Int32) <<< ((nI ch - 97) &&& 31) = nI (2 ^ (ch - 97)) := by
  have : ∀ k : Fin 12, (1 : Int32) <<< ((nI (97 + k.1) - 97) &&& 31) = nI (2 ^ k.1) := by decide +kernel
  have := this ⟨ch - 97, by omega⟩
  dsimp only at this
  rw [show 97 + (ch - 97) = ch by omega] at this
  exact this
theorem or_add {s k : Nat} (h : s < 2 ^ k) : s ||| 2 ^ k = s + 2 ^ k := by
  have := Nat.two_pow_add_eq_or_of_lt h 1
  rw [Nat.mul_one] at this
  rw [Nat.or_comm, ← this, Nat.add_comm]
def cmp (r : Nat) (y : Cu) : Nat := if r = 0 then y.1 else if r = 1 then y.2.1 else y.2.2
/-- a list of cues as rows -/
def lw : List Cu → Sh
  | [] => fun _ _ => 0
  | y :: ys => fun r i => match i with
    | 0 => cmp r y
    | i + 1 => lw ys r i
theorem ins_lw {t s v : Nat} : ∀ {M : List Cu} {j : Nat}, NextIs M.length (lw M 0) (t + 1) j → ∀ r i, r < 3 → i < M.length + 1 → insW (lw M) j t s v r i = lw (ins (t, s, v) M) r i
  | [], j, h, r, i, hr, hi => by
    have h1 : j ≤ 0 := h.1
    have hi : i < 0 + 1 := hi
    have e1 : j = 0 := by omega
    have e2 : i = 0 := by omega
    subst e1 e2
    rfl
  | y :: ys, j, h, r, i, hr, hi => by
    obtain ⟨h1, h2, h3⟩ := h
    have hi : i < ys.length + 1 + 1 := hi
    have h1 : j ≤ ys.length + 1 := h1
    show insW (lw (y :: ys)) j t s v r i = lw (if y.1 ≤ t then y :: ins (t, s, v) ys else (t, s, v) :: y :: ys) r i
    by_cases q : y.1 ≤ t
    · rw [if_pos q]
      cases j with
      | zero =>
        have : t + 1 ≤ y.1 := h3 (by show 0 < ys.length + 1; omega)
        omega
      | succ j =>
        have ih := ins_lw (t := t) (s := s) (v := v) (M := ys) (j := j) ⟨by omega, fun k hk => h2 (k + 1) (by omega), fun hk => h3 (by show j + 1 < ys.length + 1; omega)⟩
        cases i with
        | zero =>
          unfold insW
          rw [if_pos (by omega)]
          rfl
        | succ i =>
          have a := ih r i hr (by omega)
          show _ = lw (ins (t, s, v) ys) r i
          rw [← a]
          unfold insW
          by_cases q1 : i < j
          · rw [if_pos q1, if_pos (by omega)]
            rfl
          · rw [if_neg q1, if_neg (by omega)]
            by_cases q2 : i = j
            · rw [if_pos q2, if_pos (by omega)]
            · rw [if_neg q2, if_neg (by omega)]
              cases i with
              | zero => omega
              | succ i => rfl
    · rw [if_neg q]
      cases j with
      | succ j =>
        have : y.1 < t + 1 := h2 0 (by omega)
        omega
      | zero =>
        cases i with
        | zero =>
          unfold insW
          rw [if_neg (by omega), if_pos rfl]
          rfl
        | succ i =>
          unfold insW
          rw [if_neg (by omega), if_neg (by omega)]
          rfl
theorem cq_eq {k N : Nat} {W W' : Sh} {σ : Mem} (h : Cq k N W σ) (he : ∀ r i, r < 3 → i < N → W r i = W' r i) : Cq k N W' σ := by
  refine ⟨h.1, fun j hj => ?_⟩
  rw [← he 0 j (by decide) hj, ← he 1 j (by decide) hj, ← he 2 j (by decide) hj]
  exact h.2 j hj
theorem cr_eq {N : Nat} {W W' : Sh} {f : Nat → Int32} (h : Cr N W f) (he : ∀ r i, r < 3 → i < N → W r i = W' r i) : Cr N W' f := by
  intro j hj c hc
  rw [← he c j hc hj]
  exact h j hj c hc
theorem ins_len (x : Cu) : ∀ M : List Cu, (ins x M).length = M.length + 1
  | [] => rfl
  | y :: ys => by
    show (if y.1 ≤ x.1 then y :: ins x ys else x :: y :: ys).length = _
    by_cases q : y.1 ≤ x.1
    · rw [if_pos q, List.length_cons, ins_len x ys, List.length_cons]
    · rw [if_neg q, List.length_cons]
theorem insAll_len : ∀ (l M : List Cu), (insAll M l).length = M.length + l.length := by
  intro l
  induction l with
  | nil => intro M; rfl
  | cons x xs ih =>
    intro M
    show (insAll (ins x M) xs).length = _
    rw [ih, ins_len, List.length_cons]
    omega
theorem insAll_mem {y : Cu} : ∀ {l M : List Cu}, y ∈ insAll M l → y ∈ M ∨ y ∈ l := by
  intro l
  induction l with
  | nil => intro M h; exact Or.inl h
  | cons x xs ih =>
    intro M h
    rcases ih (M := ins x M) h with h | h
    · rcases ins_mem h with h | h
      · exact Or.inr (by simp [h])
      · exact Or.inl h
    · exact Or.inr (by simp [h])
theorem lw_mem {r : Nat} : ∀ {M : List Cu} {i : Nat}, i < M.length → ∃ y ∈ M, lw M r i = cmp r y
  | [], i, h => by
    have : i < 0 := h
    omega
  | y :: ys, 0, _ => ⟨y, by simp, rfl⟩
  | y :: ys, i + 1, h => by
    obtain ⟨z, z1, z2⟩ := lw_mem (r := r) (M := ys) (i := i) (by have : i + 1 < ys.length + 1 := h; omega)
    exact ⟨z, by simp [z1], z2⟩
theorem insert_l {k t s v n : Nat} {M : List Cu} {σ : Mem} (hk : CB k) (h : Cq k M.length (lw M) σ) (hN : M.length < 60) (hn : 60 < n) (ht : t ≤ 1000000) (hW : ∀ y ∈ M, y.1 < 2 ^ 30) : ∃ q, f_X0_insert n σ k (nI t) (nI s) (nI v) = some q ∧ Cq k (ins (t, s, v) M).length (lw (ins (t, s, v) M)) q.2 ∧ Only [k, k + 1, k + 2, k + 3] σ q.2 := by
  obtain ⟨q, j, e, j1, a1, a2, a3⟩ := insert_ok (n := n) (t := t) (s := s) (v := v) hk h hN hn ht (fun i hi => by
    obtain ⟨y, y1, y2⟩ := lw_mem (r := 0) hi
    rw [y2]
    exact hW y y1)
  refine ⟨q, e, ?_, a3⟩
  rw [ins_len]
  exact cq_eq a2 (fun r i hr hi => ins_lw j1 r i hr hi)
/-- the pad's numbers hold a state -/
def Pst (σ : Mem) (x : Tx) : Prop := σ 99 3 = nI x.1 ∧ σ 99 6 = cI x.2.1 ∧ (x.1 ≠ 0 → σ 99 4 = nI x.2.2.1 ∧ σ 99 5 = nI x.2.2.2.1) ∧ Cq 100 (insAll [] x.2.2.2.2).length (lw (insAll [] x.2.2.2.2)) σ
def PW : List Nat := [99, 100, 101, 102, 103]
theorem only_pw {k : Nat} {σ σ' : Mem} (h : Only [k] σ σ') (hk : k = 99) : Only PW σ σ' := fun a ha => h a (by subst hk; unfold PW at ha; simp at ha ⊢; omega)
theorem Only.pw {σ σ1 σ2 : Mem} (h1 : Only PW σ σ1) (h2 : Only PW σ1 σ2) : Only PW σ σ2 := fun a h => (h2 a h).trans (h1 a h)
theorem cq_99 {σ σ' : Mem} {N : Nat} {W : Sh} (h : Cq 100 N W σ) (ho : Only [99] σ σ') : Cq 100 N W σ' := by
  refine ⟨by rw [ho 100 (by decide)]; exact h.1, fun j hj => ?_⟩
  rw [ho (100 + 1) (by decide), ho (100 + 2) (by decide), ho (100 + 3) (by decide)]
  exact h.2 j hj
theorem cI_1 : cI 1 = 0 := rfl
theorem cI_eq0 {u : Nat} (h : u < 2 ^ 30) : cI u = 0 ↔ u = 1 := by
  cases u with
  | zero => decide
  | succ c =>
    rw [cI_s]
    constructor
    · intro e
      have := nI_inj (b := 0) (by omega) (by decide) e
      omega
    · intro e
      have : c = 0 := by omega
      subst this
      rfl
theorem cI_eqm {u : Nat} (h : u < 2 ^ 30) : cI u = -1 ↔ u = 0 := by
  cases u with
  | zero => decide
  | succ c =>
    rw [cI_s]
    constructor
    · intro e
      have : (nI c).toInt = (-1 : Int32).toInt := by rw [e]
      rw [nI_toInt (by omega), show (-1 : Int32).toInt = -1 from rfl] at this
      omega
    · intro e
      omega
theorem li {a b : Nat} (hb : b < 2 ^ 31) (h : a < b) : nI a < nI b := nI_lt h hb
theorem nli {a b : Nat} (ha : a < 2 ^ 31) (h : b ≤ a) : ¬ nI a < nI b := by rw [lt_i, nI_toInt ha, nI_toInt (by omega)]; omega
theorem dgt_c {σ : Mem} {u lim ch : Nat} (h6 : σ 99 6 = cI u) (hu : u ≤ 10001) (hl : lim ≤ 9999) (hc : ch ≤ 126) : ∃ σ', f_X2_isDigitUpTo σ 99 (nI lim) (nI ch) = some (if dig lim u ch = none then 0 else 1, σ') ∧ Only [99] σ σ' ∧ (∀ j, j ≠ 6 → σ' 99 j = σ 99 j) ∧ ∀ v, dig lim u ch = some v → σ' 99 6 = cI v := by
  unfold f_X2_isDigitUpTo
  have no : ¬ (48 ≤ ch ∧ ch ≤ 57 ∧ u ≠ 1) → dig lim u ch = none := fun h => by
    unfold dig
    rw [if_neg (fun q => h ⟨q.1, q.2.1, q.2.2.1⟩)]
  by_cases q1 : ch < 48
  · rw [if_pos (c := nI ch < 48) (li (b := 48) (by decide) q1), no (by omega)]
    exact ⟨σ, rfl, fun _ _ => rfl, fun _ _ => rfl, fun v hv => by cases hv⟩
  rw [if_neg (c := nI ch < 48) (nli (b := 48) (by omega) (by omega))]
  by_cases q2 : 57 < ch
  · rw [if_pos (c := 57 < nI ch) (li (a := 57) (by omega) q2), no (by omega)]
    exact ⟨σ, rfl, fun _ _ => rfl, fun _ _ => rfl, fun v hv => by cases hv⟩
  rw [if_neg (c := 57 < nI ch) (nli (a := 57) (by decide) (by omega)), h6]
  by_cases q3 : u = 1
  · rw [if_pos ((cI_eq0 (by omega)).mpr q3), no (by omega)]
    exact ⟨σ, rfl, fun _ _ => rfl, fun _ _ => rfl, fun v hv => by cases hv⟩
  rw [if_neg (fun z => q3 ((cI_eq0 (by omega)).mp z)), show (48 : Int32) = nI 48 from rfl, nI_sub (by omega)]
  have l48 : ∀ y, y ≤ 100010 → y = 10 * (u - 1) + (ch - 48) → ∃ σ', f_X2_isDigitUpTo_L48 σ 99 (nI lim) (nI y) = some (if dig lim u ch = none then 0 else 1, σ') ∧ Only [99] σ σ' ∧ (∀ j, j ≠ 6 → σ' 99 j = σ 99 j) ∧ ∀ v, dig lim u ch = some v → σ' 99 6 = cI v := by
    intro y hy ey
    unfold f_X2_isDigitUpTo_L48 nm
    dsimp only
    rw [gst_s2]
    by_cases q4 : y ≤ lim
    · have ed : dig lim u ch = some (y + 1) := by
        unfold dig
        rw [if_pos ⟨by omega, by omega, q3, by omega⟩, ← ey]
      rw [ed, if_neg (nli (by omega) q4), if_neg (c := some (y + 1) = none) (by intro z; cases z)]
      refine ⟨_, rfl, gst_only _ _ _ _, fun j hj => gst_n2 hj, ?_⟩
      intro v hv
      cases hv
      rw [gst_s2, cI_s]
    · have ed : dig lim u ch = none := by
        unfold dig
        rw [if_neg (fun z => q4 (by omega))]
      rw [ed, if_pos (li (by omega) (by omega)), if_pos rfl]
      exact ⟨_, rfl, gst_only _ _ _ _, fun j hj => gst_n2 hj, fun v hv => by cases hv⟩
  unfold nm
  dsimp only
  by_cases q5 : u = 0
  · subst q5
    rw [if_pos cI_0]
    exact l48 (ch - 48) (by omega) (by omega)
  · rw [if_neg (fun z => q5 ((cI_eqm (by omega)).mp z))]
    obtain ⟨w, rfl⟩ : ∃ w, u = w + 1 := ⟨u - 1, by omega⟩
    rw [cI_s, show (10 : Int32) = nI 10 from rfl, nI_mul, nI_add]
    exact l48 (10 * w + (ch - 48)) (by omega) (by omega)
theorem ends_c {σ : Mem} {n u t s : Nat} {l : List Cu} (hn : 60 < n) (hp : Pst σ (2, u, t, s, l)) (hu : u ≤ 10001) (ht : t ≤ 9999) (hl : l.length < 60) (hm : ∀ y ∈ l, y.1 ≤ 9999) : ∃ σ', f_X2_endsCue n σ 99 = some (if u = 0 then 0 else 1, σ') ∧ Only PW σ σ' ∧ σ' 99 2 = σ 99 2 ∧ (u ≠ 0 → Pst σ' (0, 0, t, s, l ++ [(t, s, u - 1)])) := by
  obtain ⟨p3, p6, p45, pq⟩ := hp
  dsimp only at p3 p6 p45 pq
  obtain ⟨p4, p5⟩ := p45 (by decide)
  unfold f_X2_endsCue
  rw [p3, if_pos (c := nI 2 = 2) rfl, p6]
  by_cases q : u = 0
  · rw [if_pos ((cI_eqm (by omega)).mpr q), if_pos q]
    exact ⟨σ, rfl, fun _ _ => rfl, rfl, fun z => (z q).elim⟩
  · rw [if_neg (fun z => q ((cI_eqm (by omega)).mp z)), if_neg q]
    obtain ⟨w, rfl⟩ : ∃ w, u = w + 1 := ⟨u - 1, by omega⟩
    rw [cI_s, show ptr 99 0 = 100 from rfl, p4, p5]
    obtain ⟨⟨r, σ1⟩, e1, a1, a2⟩ := insert_l (n := n) (t := t) (s := s) (v := w) CB_100 pq (by rw [insAll_len]; simp; omega) hn (by omega) (fun y hy => by
      rcases insAll_mem hy with h | h
      · simp at h
      · have := hm y h; omega)
    dsimp only at a1 a2
    rw [e1, bnd2_s]
    simp only [nm]
    have f9 : σ1 99 = σ 99 := a2 99 (by decide)
    refine ⟨_, rfl, ?_, ?_, fun _ => ⟨?_, ?_, fun z => (z rfl).elim, ?_⟩⟩
    · intro a ha
      unfold PW at ha
      simp at ha
      rw [gst_row (by omega), gst_row (by omega)]
      exact a2 a (by simp; omega)
    · rw [gst_n2 (by decide), gst_n2 (by decide), f9]
    · exact gst_s2
    · rw [gst_n2 (by decide)]
      exact gst_s2
    · dsimp only
      rw [insAll_app]
      exact cq_99 (σ := σ1) a1 ((gst_only _ _ _ _).one (gst_only _ _ _ _))
theorem accepts_c {σ : Mem} {n p ch : Nat} {x : Tx} (hn : 60 < n) (hp : Pst σ x) (hx : Xok p x) (hpl : p ≤ 80) (hc : ch ≤ 126) : ∃ σ', f_X2_accepts n σ 99 (nI ch) = some (if stp x ch = none then 0 else 1, σ') ∧ Only PW σ σ' ∧ σ' 99 2 = σ 99 2 ∧ ∀ y, stp x ch = some y → Pst σ' y := by
  obtain ⟨ph, u, t, s, l⟩ := x
  have hpp := hp
  obtain ⟨p3, p6, p45, pq⟩ := hp
  unfold Xok at hx
  dsimp only at p3 p6 p45 pq hx
  obtain ⟨a1, a2, a3, a4, a5, a6, a7, a8⟩ := hx
  have bt0 : bit 0 = true := rfl
  have bt1 : bit 1 = true := rfl
  unfold f_X2_accepts nm
  rw [p3]
  unfold stp
  dsimp only
  have dg : ∀ lim, lim ≤ 9999 → u ≤ 10001 → ∃ σ', (bnd2 (f_X2_isDigitUpTo σ 99 (nI lim) (nI ch)) fun r σ_ => chk (bit r) (some (r, σ_))) = some (if dig lim u ch = none then 0 else 1, σ') ∧ Only PW σ σ' ∧ σ' 99 2 = σ 99 2 ∧ ∀ v, dig lim u ch = some v → Pst σ' (ph, v, t, s, l) := by
    intro lim hlim hu
    obtain ⟨σ1, e1, b1, b2, b3⟩ := dgt_c (σ := σ) (u := u) (lim := lim) (ch := ch) p6 hu hlim hc
    rw [e1, bnd2_s]
    dsimp only
    have bt : bit (if dig lim u ch = none then 0 else 1) = true := by split <;> rfl
    rw [bt, chk_t]
    refine ⟨σ1, rfl, only_pw b1 rfl, b2 2 (by decide), ?_⟩
    intro v hv
    exact ⟨by rw [b2 3 (by decide)]; exact p3, b3 v hv, fun z => by rw [b2 4 (by decide), b2 5 (by decide)]; exact p45 z, cq_99 pq b1⟩
  by_cases e0 : ph = 0
  · subst e0
    have a2 := a2 rfl
    rw [if_pos (c := nI 0 = 0) rfl, if_pos rfl]
    by_cases q : ch = 58
    · subst q
      rw [if_pos (c := nI 58 = 58) rfl, if_pos rfl]
      unfold f_X2_endsTime
      simp only [nm]
      rw [gst_n2 (j := 3) (j' := 6) (by decide), gst_n2 (j := 5) (j' := 6) (by decide), gst_n2 (j := 4) (j' := 6) (by decide), p6]
      by_cases q2 : u = 0
      · subst q2
        rw [if_pos cI_0, bnd2_s, if_pos rfl, if_pos rfl]
        dsimp only
        rw [bt0, chk_t]
        exact ⟨_, rfl, only_pw ((gst_only _ _ _ _).one ((gst_only _ _ _ _).one (gst_only _ _ _ _))) rfl, by rw [gst_n2 (by decide), gst_n2 (by decide), gst_n2 (by decide)], fun y hy => by cases hy⟩
      · obtain ⟨w, rfl⟩ : ∃ w, u = w + 1 := ⟨u - 1, by omega⟩
        rw [if_neg (fun z => q2 ((cI_eqm (by omega)).mp z)), bnd2_s, if_neg q2, if_neg (by intro z; cases z)]
        dsimp only
        rw [bt1, chk_t]
        have o1 : Only [99] σ (gst (gst (gst σ 99 4 (cI (w + 1))) 99 5 0) 99 3 1) := (gst_only _ _ _ _).one ((gst_only _ _ _ _).one (gst_only _ _ _ _))
        refine ⟨_, rfl, only_pw o1 rfl, by rw [gst_n2 (by decide), gst_n2 (by decide), gst_n2 (by decide)], ?_⟩
        intro y hy
        cases hy
        refine ⟨gst_s2, ?_, fun _ => ⟨?_, ?_⟩, cq_99 pq o1⟩
        · rw [gst_n2 (by decide), gst_n2 (by decide), gst_n2 (by decide)]
          exact p6
        · rw [gst_n2 (by decide), gst_n2 (by decide), gst_s2, cI_s]
          rfl
        · rw [gst_n2 (by decide), gst_s2]
          rfl
    · rw [if_neg (c := nI ch = 58) (fun z => q (nI_inj (b := 58) (by omega) (by decide) z)), if_neg q]
      obtain ⟨σ1, e1, b1, b2, b3⟩ := dg 9999 (by omega) (by omega)
      refine ⟨σ1, ?_, b1, b2, ?_⟩
      · rw [show (9999 : Int32) = nI 9999 from rfl, e1]
        cases dig 9999 u ch with
        | none => rfl
        | some v => rfl
      · intro y hy
        cases d : dig 9999 u ch with
        | none => rw [d] at hy; cases hy
        | some v =>
          rw [d] at hy
          cases hy
          exact b3 v d
  · by_cases e1 : ph = 1
    · subst e1
      have a3 := a3 rfl
      obtain ⟨p4, p5⟩ := p45 (by decide)
      rw [if_neg (c := nI 1 = 0) (by decide), if_pos (c := nI 1 = 1) rfl, if_neg (c := (1 : Nat) = 0) (by decide), if_pos rfl]
      by_cases q : ch = 61
      · subst q
        rw [if_pos (c := nI 61 = 61) rfl, if_pos rfl]
        unfold f_X2_endsSet
        simp only [nm]
        rw [gst_n2 (j := 3) (j' := 5) (by decide), gst_n2 (j := 6) (j' := 5) (by decide), p5]
        have o1 : Only [99] σ (gst (gst σ 99 6 (-1)) 99 3 2) := (gst_only _ _ _ _).one (gst_only _ _ _ _)
        by_cases q2 : s = 0
        · subst q2
          rw [if_pos (c := nI 0 = 0) rfl, bnd2_s, if_pos rfl, if_pos rfl]
          dsimp only
          rw [bt0, chk_t]
          exact ⟨_, rfl, only_pw o1 rfl, by rw [gst_n2 (by decide), gst_n2 (by decide)], fun y hy => by cases hy⟩
        · rw [if_neg (c := nI s = 0) (fun z => q2 (nI_inj (b := 0) (by omega) (by decide) z)), bnd2_s, if_neg q2, if_neg (by intro z; cases z)]
          dsimp only
          rw [bt1, chk_t]
          refine ⟨_, rfl, only_pw o1 rfl, by rw [gst_n2 (by decide), gst_n2 (by decide)], ?_⟩
          intro y hy
          cases hy
          refine ⟨gst_s2, ?_, fun _ => ⟨?_, ?_⟩, cq_99 pq o1⟩
          · rw [gst_n2 (by decide), gst_s2]
            rfl
          · rw [gst_n2 (by decide), gst_n2 (by decide)]
            exact p4
          · rw [gst_n2 (by decide), gst_n2 (by decide)]
            exact p5
      · rw [if_neg (c := nI ch = 61) (fun z => q (nI_inj (b := 61) (by omega) (by decide) z)), if_neg q]
        unfold f_X2_isLetter
        by_cases q1 : ch < 97
        · rw [if_pos (c := nI ch < 97) (li (b := 97) (by decide) q1), bnd2_s, if_neg (c := 97 ≤ ch ∧ ch ≤ 108 ∧ s < 2 ^ (ch - 97)) (by omega), if_pos rfl]
          exact ⟨σ, rfl, fun _ _ => rfl, rfl, fun y hy => by cases hy⟩
        rw [if_neg (c := nI ch < 97) (nli (b := 97) (by omega) (by omega))]
        by_cases q2 : ch ≤ 108
        · rw [if_pos (c := nI ch ≤ 108) (il (c := 108) q2 (by decide)), shl_ch (by omega) q2, p5]
          simp only [nm]
          have pw : 2 ^ (ch - 97) ≤ 2 ^ 11 := Nat.pow_le_pow_right (by decide) (by omega)
          unfold f_X2_isLetter_L34
          by_cases q3 : s < 2 ^ (ch - 97)
          · rw [if_neg (c := nI (2 ^ (ch - 97)) ≤ nI s) (nil q3 (by omega)), if_pos (c := 97 ≤ ch ∧ ch ≤ 108 ∧ s < 2 ^ (ch - 97)) ⟨by omega, q2, q3⟩, if_neg (c := some ((1, u, t, s + 2 ^ (ch - 97), l) : Tx) = none) (by intro z; cases z), bt1]
            simp only [nm, chk_t, bnd2_s, bt1]
            refine ⟨_, rfl, only_pw (gst_only _ _ _ _) rfl, gst_n2 (by decide), ?_⟩
            intro y hy
            cases hy
            refine ⟨?_, ?_, fun _ => ⟨?_, ?_⟩, cq_99 pq (gst_only _ _ _ _)⟩
            · rw [gst_n2 (by decide)]; exact p3
            · rw [gst_n2 (by decide)]; exact p6
            · rw [gst_n2 (by decide)]; exact p4
            · rw [gst_s2, p5, nI_or (by omega) (by omega), or_add q3]
          · rw [if_pos (c := nI (2 ^ (ch - 97)) ≤ nI s) (il (by omega) (by omega)), if_neg (c := 97 ≤ ch ∧ ch ≤ 108 ∧ s < 2 ^ (ch - 97)) (fun z => q3 z.2.2), if_pos rfl, bt0]
            simp only [nm, chk_t, bnd2_s, bt0]
            exact ⟨_, rfl, only_pw (gst_only _ _ _ _) rfl, gst_n2 (by decide), fun y hy => by cases hy⟩
        · rw [if_neg (c := nI ch ≤ 108) (nil (c := 108) (by omega) (by omega)), bnd2_s, if_neg (c := 97 ≤ ch ∧ ch ≤ 108 ∧ s < 2 ^ (ch - 97)) (by omega), if_pos rfl]
          exact ⟨σ, rfl, fun _ _ => rfl, rfl, fun y hy => by cases hy⟩
    · have e2 : ph = 2 := by omega
      subst e2
      have a4 := a4 rfl
      have hl : l.length < 60 := by omega
      rw [if_neg (c := nI 2 = 0) (by decide), if_neg (c := nI 2 = 1) (by decide), if_neg (c := (2 : Nat) = 0) (by decide), if_neg (c := (2 : Nat) = 1) (by decide)]
      by_cases q : ch = 44
      · subst q
        rw [if_pos (c := nI 44 = 44) rfl, if_pos rfl]
        obtain ⟨σ1, f1, b1, b2, b3⟩ := ends_c (n := n) hn hpp (by omega) a5 hl (fun y hy => (a8 y hy).1)
        rw [f1, bnd2_s]
        dsimp only
        by_cases q2 : u = 0
        · rw [if_pos q2, if_pos q2, if_pos rfl, bt0, chk_t]
          exact ⟨σ1, rfl, b1, b2, fun y hy => by cases hy⟩
        · rw [if_neg q2, if_neg q2, if_neg (by intro z; cases z), bt1, chk_t]
          refine ⟨σ1, rfl, b1, b2, ?_⟩
          intro y hy
          cases hy
          exact b3 q2
      · rw [if_neg (c := nI ch = 44) (fun z => q (nI_inj (b := 44) (by omega) (by decide) z)), if_neg q]
        obtain ⟨σ1, e1, b1, b2, b3⟩ := dg 1000 (by omega) (by omega)
        refine ⟨σ1, ?_, b1, b2, ?_⟩
        · rw [show (1000 : Int32) = nI 1000 from rfl, e1]
          cases dig 1000 u ch with
          | none => rfl
          | some v => rfl
        · intro y hy
          cases d : dig 1000 u ch with
          | none => rw [d] at hy; cases hy
          | some v =>
            rw [d] at hy
            cases hy
            exact b3 v d
theorem fault_c {σ : Mem} {n L : Nat} {c : Nat → Nat} (hn : 1200 < n) (hL : L ≤ 80) (h2 : σ 99 2 = nI L) (hc : ∀ j, j < L → σ 104 j = nI (c j) ∧ c j ≤ 126) : Ret (f_X2_findFault n σ 99) (fun q => (∃ r l, Out c L r l ∧ q.1 = fsI r ∧ (r = none → Cq 100 (insAll [] l).length (lw (insAll [] l)) q.2)) ∧ Only PW σ q.2 ∧ q.2 99 2 = σ 99 2) := by
  unfold f_X2_findFault
  rw [show ptr 99 0 = 100 from rfl]
  simp only [nm]
  unfold f_X2_findFault_L20
  refine Ret_for L (fun i s => ∃ x, run c i = some x ∧ Pst s x ∧ Only PW σ s ∧ s 99 2 = σ 99 2) ?_ ?_ (i := 0) (Nat.zero_le _) (by omega) ⟨_, rfl, ⟨?_, ?_, fun z => (z rfl).elim, ?_⟩, ?_, ?_⟩
  · rintro i s hi ⟨x, r1, hp, o, s2⟩
    have hx := xok_run r1
    unfold f_X2_findFault_B20
    dsimp only
    rw [if_neg (c := s 99 2 ≤ nI i) (by rw [s2, h2]; exact nil hi (by omega)), show ptr 99 1 = 104 from rfl, show alen 104 = 80 from rfl, ckI_nI (by omega) (by decide), chk_t, ix_nI (by omega), o 104 (by decide), (hc i hi).1]
    obtain ⟨σ1, e1, b1, b2, b3⟩ := accepts_c (n := n) (ch := c i) (by omega) hp hx (by omega) (hc i hi).2
    rw [e1, bnd2_s]
    dsimp only
    cases d : stp x (c i) with
    | none =>
      rw [if_pos rfl, if00]
      exact Ret_some ⟨⟨some i, [], Or.inl ⟨i, x, rfl, r1, Or.inl ⟨hi, d⟩⟩, rfl, fun z => by cases z⟩, o.pw b1, b2.trans s2⟩
    | some y =>
      rw [if_neg (c := some y = none) (by intro z; cases z), if10]
      exact Ret_nm (Ret_some ⟨σ1, by rw [show (1 : Int32) = nI 1 from rfl, nI_add], y, by rw [run_s r1]; exact d, b3 y d, o.pw b1, b2.trans s2⟩)
  · rintro s ⟨x, r1, hp, o, s2⟩
    have hx := xok_run r1
    unfold f_X2_findFault_B20
    dsimp only
    rw [if_pos (c := s 99 2 ≤ nI L) (by rw [s2, h2]; exact Int32.le_refl _)]
    obtain ⟨ph, u, t, st, l⟩ := x
    have hpp := hp
    unfold Xok at hx
    dsimp only at hx
    obtain ⟨a1, a2, a3, a4, a5, a6, a7, a8⟩ := hx
    by_cases e2 : ph = 2
    · subst e2
      rw [if_neg (by decide), if_neg (by decide)] at a7
      have hl : l.length < 60 := by omega
      obtain ⟨σ1, f1, b1, b2, b3⟩ := ends_c (n := n) (by omega) hpp (by have := a4 rfl; omega) a5 hl (fun y hy => (a8 y hy).1)
      rw [f1, bnd2_s]
      dsimp only
      by_cases q2 : u = 0
      · rw [if_pos q2, if00]
        refine Ret_some ⟨⟨some L, [], Or.inl ⟨L, _, rfl, r1, Or.inr ⟨rfl, ?_⟩⟩, ?_, fun z => by cases z⟩, o.pw b1, b2.trans s2⟩
        · unfold fin
          rw [if_neg (fun z => z.2 q2)]
        · dsimp only
          rw [b2, s2, h2]
          rfl
      · rw [if_neg q2, if10]
        refine Ret_some ⟨⟨none, l ++ [(t, st, u - 1)], Or.inr ⟨rfl, _, r1, ?_⟩, rfl, fun _ => ?_⟩, o.pw b1, b2.trans s2⟩
        · unfold fin
          rw [if_pos ⟨rfl, q2⟩]
        · exact (b3 q2).2.2.2
    · have f1 : f_X2_endsCue n s 99 = some (0, s) := by
        unfold f_X2_endsCue
        rw [hpp.1, if_neg (c := nI (ph, u, t, st, l).1 = 2) (fun z => e2 (nI_inj (a := ph) (b := 2) (by omega) (by decide) z))]
      rw [f1, bnd2_s]
      dsimp only
      rw [if00]
      refine Ret_some ⟨⟨some L, [], Or.inl ⟨L, _, rfl, r1, Or.inr ⟨rfl, ?_⟩⟩, ?_, fun z => by cases z⟩, o, s2⟩
      · unfold fin
        rw [if_neg (fun z => e2 z.1)]
      · dsimp only
        rw [s2, h2]
        rfl
  · rw [gst_n2 (by decide), gst_s2]
    rfl
  · rw [gst_s2]
    rfl
  · refine ⟨?_, fun j hj => ?_⟩
    · rw [gst_row (by decide), gst_row (by decide), gst_s2]
      rfl
    · have hj : j < 0 := hj
      omega
  · intro a ha
    unfold PW at ha
    simp at ha
    rw [gst_row (by omega), gst_row (by omega), gst_row (by omega)]
  · rw [gst_n2 (by decide), gst_n2 (by decide), gst_row (by decide)]
