/-! BETWEEN THE RAW WORLDS AND THE ONE MEMORY -/
def toJ (X : CtxC) (ad : Nat → Nat) (ks : List Nat) (cells slots : Nat) : Ctx := match X with
  | (p, l, e, R, s, m, args, below, meth, c, D, cI, sd, A, nL, Q) => (p, l, e, R, s, m, args, below, meth, c, D, cI, mx ad sd, A, ks, nL, cells, slots, Q)
theorem toJ_ad (X : CtxC) (ad : Nat → Nat) (ks : List Nat) (cells slots : Nat) : Xad (toJ X ad ks cells slots) = mx ad (Ysd X) := by
  obtain ⟨p, l, e, R, s, m, args, below, meth, c, D, cI, sd, A, nL, Q⟩ := X
  rfl
theorem toJ_ks (X : CtxC) (ad : Nat → Nat) (ks : List Nat) (cells slots : Nat) : Xks (toJ X ad ks cells slots) = ks := by
  obtain ⟨p, l, e, R, s, m, args, below, meth, c, D, cI, sd, A, nL, Q⟩ := X
  rfl
theorem stat_ge {k : Nat} (h : clsOf k = 103) : 112 ≤ k := by
  rcases Nat.lt_or_ge k 112 with h1 | h1
  · exact ((show ∀ k, k < 112 → clsOf k ≠ 103 by decide +kernel) k h1 h).elim
  · exact h1
theorem mx_hi {α : Type} {f g : Nat → α} {k : Nat} (h : 112 ≤ k) : mx f g k = g k := by
  unfold mx
  rw [if_neg (by omega)]
theorem mx_lo {α : Type} {f g : Nat → α} {k : Nat} (h : k < 112) : mx f g k = f k := by
  unfold mx
  rw [if_pos h]
section JCR3
variable {X : CtxC} {own : String} {cc : ByteArray} {n0 : Nat} {ret : Option FieldType} {fr lo mc ms cells slots pc : Nat} {loc : List (Nat × Value)} {stk rest : List Value} {ws : va_W}
theorem JC.wsEq {ws' : va_W} (h : ws = ws') (K : JC X cells slots pc loc stk ws') : JC X cells slots pc loc stk ws := h ▸ K
theorem CxC.toJ {ad : Nat → Nat} {ks : List Nat} (C : CxC X own cc n0 ret fr lo mc ms) (hcl : Cl ks) (h1 : cells ≤ mc) (h2 : slots ≤ ms) : Cx (toJ X ad ks cells slots) own cc n0 ret fr lo := by
  obtain ⟨p, l, e, R, s, m, args, below, meth, c, D, cI, sd, A, nL, Q⟩ := X
  obtain ⟨hx, hb, hml, hn0, hr, hown, hts, hlocks, hK, hsc, hA, hfr, hlo, hmc, hms, hnw⟩ := C
  exact ⟨hx, hb, hml, hn0, hr, hown, hts, hlocks, hK, hcl, hfr, hlo, Nat.le_trans h1 hmc, Nat.le_trans h2 hms, hnw⟩
/-- into the one memory -/
theorem JC.into {ad : Nat → Nat} {ks : List Nat} {σ : Mem} (C : CxC X own cc n0 ret fr lo mc ms) (hw : ws = wl (Ycl X) (mx ad (Ysd X)) (mx σ st0) ks) (K : J (toJ X ad ks cells slots) pc loc stk (mx σ st0)) : JC X cells slots pc loc stk ws := by
  obtain ⟨p, l, e, R, s, m, args, below, meth, c, D, cI, sd, A, nL, Q⟩ := X
  obtain ⟨hx, hb, hml, hn0, hr, hown, hts, hlocks, hK, hsc, hA, hfr, hlo, hmc, hms, hnw⟩ := C
  subst hw
  intro H locs ls hP hD hS hl
  refine K H locs ls hP hD (fun k hk => ?_) hS hl
  rw [mx_hi (stat_ge hk), mx_hi (stat_ge hk)]
  exact hsc.2 k hk
/-- and out of it -/
theorem JC.outof {ad : Nat → Nat} {ks : List Nat} {σ : Mem} (K : JC X cells slots pc loc stk (wl (Ycl X) (mx ad (Ysd X)) σ ks)) : J (toJ X ad ks cells slots) pc loc stk σ := by
  obtain ⟨p, l, e, R, s, m, args, below, meth, c, D, cI, sd, A, nL, Q⟩ := X
  intro H locs ls hP hD hT hS hl
  exact K H locs ls hP hD hS hl
end JCR3
/-- the cells from k0 on, as a constructor leaves them -/
def Blk (k0 n : Nat) (P : Mem → Prop) : (Nat → ClassId) → (Nat → Nat) → Nat → va_W → Prop := fun cI sd h0 ws => ∃ (ad : Nat → Nat) (σ : Mem), ad k0 = h0 ∧ ws = wl cI (mx ad sd) (mx σ st0) (List.range' k0 n) ∧ P σ
def S2F (σ : Mem) : Prop := σ 2 3 = 1 ∧ ∀ j, j < 6 → σ 3 j = nI (inS j)
def S5F (σ : Mem) : Prop := σ 5 3 = 12 ∧ ∀ i j, i < 12 → j < 6 → σ 6 (6 * i + j) = nI (inN j)
def S15F (σ : Mem) : Prop := σ 15 3 = 3 ∧ ∀ p j, p < 3 → j < 2 → σ 16 (2 * p + j) = nI (inP j)
def NzF (σ : Mem) : Prop := S5F σ ∧ (∀ i, i < 12 → σ 7 i = 0 ∧ σ 8 i = 0 ∧ σ 9 i = 0 ∧ σ 10 i = 0 ∧ σ 11 i = 0 ∧ σ 12 i = 0) ∧ σ 4 8 = nI 4 ∧ σ 4 9 = 0
def PuF (σ : Mem) : Prop := S15F σ ∧ ∀ p, p < 3 → σ 17 p = 0 ∧ σ 18 p = 0 ∧ σ 19 p = 0
def WeF (σ : Mem) : Prop := ∀ j, j < 4 → σ 20 j = 0
def CuF (σ : Mem) : Prop := σ 21 3 = 0
def ShF (b : Nat) (σ : Mem) : Prop := (σ (b + 1) 3 = 1 ∧ σ (b + 4) 3 = 12 ∧ σ (b + 14) 3 = 3) ∧ (∀ i j, i < 12 → j < 6 → σ (b + 5) (6 * i + j) = nI (inN j)) ∧ (∀ p j, p < 3 → j < 2 → σ (b + 15) (2 * p + j) = nI (inP j)) ∧ (∀ j, j < 6 → σ (b + 2) j = nI (inS j)) ∧ (∀ i, i < 12 → σ (b + 6) i = 0 ∧ σ (b + 7) i = 0 ∧ σ (b + 8) i = 0 ∧ σ (b + 9) i = 0 ∧ σ (b + 10) i = 0 ∧ σ (b + 11) i = 0) ∧ (∀ p, p < 3 → σ (b + 16) p = 0 ∧ σ (b + 17) p = 0 ∧ σ (b + 18) p = 0) ∧ (∀ j, j < 4 → σ (b + 19) j = 0) ∧ σ b 5 = 0 ∧ σ b 6 = 0 ∧ σ (b + 3) 8 = nI 4 ∧ σ (b + 3) 9 = 0 ∧ σ (b + 20) 3 = 0
theorem ShF_shift {b b' : Nat} {σ σ' : Mem} (h : ShF b' σ') (e : ∀ i, i < 24 → σ (b + i) = σ' (b' + i)) : ShF b σ := by
  unfold ShF at h ⊢
  rw [e 1 (by decide), e 4 (by decide), e 14 (by decide), e 5 (by decide), e 15 (by decide), e 2 (by decide), e 6 (by decide), e 7 (by decide), e 8 (by decide), e 9 (by decide), e 10 (by decide), e 11 (by decide), e 16 (by decide), e 17 (by decide), e 18 (by decide), e 19 (by decide), e 3 (by decide), e 20 (by decide), show σ b = σ' b' from e 0 (by decide)]
  exact h
def SlF (σ : Mem) : Prop := ShF 50 σ ∧ σ 49 1 = 0
def PaF (σ : Mem) : Prop := σ 99 2 = 0
def FoF (σ : Mem) : Prop := (ShF 1 σ ∧ ShF 25 σ ∧ ShF 50 σ ∧ ShF 75 σ) ∧ σ 49 1 = 0 ∧ σ 74 1 = 0 ∧ σ 99 2 = 0
theorem fpat_len (c : Nat) : (fpat c).length ≤ 10 := by unfold fpat; split <;> decide
theorem Cl_of {ks : List Nat} (h : ks.all (fun k => (List.range 10).all (fun j => !decide ((fpat (clsOf k))[j]? = some true) || (!decide (clsOf k < 100) || (decide (ptr k j ∈ ks) || decide (clsOf (ptr k j) = 103))))) = true) : Cl ks := by
  intro k hk j hj hc
  have hl : j < 10 := Nat.lt_of_lt_of_le (List.getElem?_eq_some_iff.mp hj).1 (fpat_len _)
  have h1 := List.all_eq_true.mp (List.all_eq_true.mp h k hk) j (List.mem_range.mpr hl)
  rw [decide_eq_true hj, decide_eq_true hc] at h1
  have h2 : (decide (ptr k j ∈ ks) || decide (clsOf (ptr k j) = 103)) = true := h1
  rw [Bool.or_eq_true] at h2
  rcases h2 with h2 | h2
  · exact Or.inl (of_decide_eq_true h2)
  · exact Or.inr (of_decide_eq_true h2)
theorem cl_set2 : Cl [2, 3] := Cl_of (by decide +kernel)
theorem cl_set5 : Cl [5, 6] := Cl_of (by decide +kernel)
theorem cl_set15 : Cl [15, 16] := Cl_of (by decide +kernel)
theorem cl_all : Cl (List.range 105) := Cl_of (by decide +kernel)
