theorem iter_in {S R : Type} {body : S → Option (R ⊕ S)} {n : Nat} {s s' : S} (e : body s = some (.inr s')) : iter body (n + 1) s = iter body n s' := by rw [iter, e]
theorem iter_out {S R : Type} {body : S → Option (R ⊕ S)} {n : Nat} {s : S} {r : R} (e : body s = some (.inl r)) : iter body (n + 1) s = some r := by rw [iter, e]
/-! PURE: what the functions answer. Ret o P: there is an answer, and P holds of it -/
def Ret {α : Type} (o : Option α) (P : α → Prop) : Prop := ∃ r, o = some r ∧ P r
def Lp {R S : Type} (P : R → Prop) (Q : S → Prop) : R ⊕ S → Prop
  | .inl r => P r
  | .inr s => Q s
theorem Ret_some {α : Type} {P : α → Prop} {a : α} (h : P a) : Ret (Option.some a) P := ⟨a, rfl, h⟩
theorem Ret_of {α : Type} {P : α → Prop} {o : Option α} {a : α} (e : o = Option.some a) (h : P a) : Ret o P := ⟨a, e, h⟩
theorem Ret_mono {α : Type} {P Q : α → Prop} {o : Option α} (h : Ret o P) (hq : ∀ a, P a → Q a) : Ret o Q := by
  obtain ⟨a, e, p⟩ := h
  exact ⟨a, e, hq a p⟩
theorem Ret_bnd {α τ : Type} {c : Option α} {f : α → Option τ} {P : τ → Prop} {Q : α → Prop} (h : Ret c Q) (K : ∀ a, Q a → Ret (f a) P) : Ret (bnd c f) P := by
  obtain ⟨a, e, p⟩ := h
  subst e
  exact K a p
theorem Ret_bndE {α τ : Type} {c : Option α} {f : α → Option τ} {P : τ → Prop} {a : α} (h : c = Option.some a) (K : Ret (f a) P) : Ret (bnd c f) P := by
  subst h
  exact K
theorem Ret_bnd2 {α β τ : Type} {c : Option (α × β)} {f : α → β → Option τ} {P : τ → Prop} {Q : α × β → Prop} (h : Ret c Q) (K : ∀ a b, Q (a, b) → Ret (f a b) P) : Ret (bnd2 c f) P := by
  obtain ⟨a, e, p⟩ := h
  subst e
  exact K a.1 a.2 p
theorem Ret_nm {α τ : Type} {e : α} {f : α → Option τ} {P : τ → Prop} (K : Ret (f e) P) : Ret (nm e f) P := K
theorem Ret_chk {τ : Type} {b : Bool} {e : Option τ} {P : τ → Prop} (h : b = true) (K : Ret e P) : Ret (chk b e) P := by
  subst h
  exact K
theorem Ret_ite {τ : Type} {c : Prop} [Decidable c] {A B : Option τ} {P : τ → Prop} (h1 : c → Ret A P) (h2 : ¬ c → Ret B P) : Ret (if c then A else B) P := by
  by_cases h : c
  · rw [if_pos h]; exact h1 h
  · rw [if_neg h]; exact h2 h
theorem Ret_iteT {τ : Type} {c : Prop} [Decidable c] {A B : Option τ} {P : τ → Prop} (h : c) (K : Ret A P) : Ret (if c then A else B) P := by rw [if_pos h]; exact K
theorem Ret_iteF {τ : Type} {c : Prop} [Decidable c] {A B : Option τ} {P : τ → Prop} (h : ¬ c) (K : Ret B P) : Ret (if c then A else B) P := by rw [if_neg h]; exact K
theorem Ret_exi {R S : Type} {o : Option R} {P : R ⊕ S → Prop} (h : Ret o (fun r => P (.inl r))) : Ret (exi o) P := by
  obtain ⟨a, e, p⟩ := h
  subst e
  exact ⟨_, rfl, p⟩
theorem Ret_iter {S R : Type} {body : S → Option (R ⊕ S)} (I : Nat → S → Prop) {P : R → Prop} (hb : ∀ m s, I m s → Ret (body s) (Lp P (fun s' => ∃ m', m' < m ∧ I m' s'))) : ∀ n m s, I m s → m < n → Ret (iter body n s) P := by
  intro n
  induction n with
  | zero => intro m s _ h; omega
  | succ n ih =>
    intro m s hI hm
    obtain ⟨t, e, p⟩ := hb m s hI
    cases t with
    | inl r => exact ⟨r, iter_out e, p⟩
    | inr s' =>
      obtain ⟨m', h1, h2⟩ := p
      rw [iter_in e]
      exact ih m' s' h2 (by omega)
/-- a loop over i, from i to e, in a memory -/
theorem Ret_for {R : Type} {body : Mem × Int32 → Option (R ⊕ (Mem × Int32))} (e : Nat) (Inv : Nat → Mem → Prop) {P : R → Prop} (hs : ∀ i σ, i < e → Inv i σ → Ret (body (σ, nI i)) (Lp P (fun s => ∃ σ', s = (σ', nI (i + 1)) ∧ Inv (i + 1) σ'))) (he : ∀ σ, Inv e σ → Ret (body (σ, nI e)) (Lp P (fun _ => False))) {n i : Nat} {σ : Mem} (hi : i ≤ e) (hn : e < n) (h0 : Inv i σ) : Ret (iter body n (σ, nI i)) P := by
  refine Ret_iter (fun m s => ∃ i σ, m = e - i ∧ i ≤ e ∧ s = (σ, nI i) ∧ Inv i σ) ?_ n (e - i) _ ⟨i, σ, rfl, hi, rfl, h0⟩ (by omega)
  rintro m s ⟨i, σ, rfl, hi, rfl, h⟩
  rcases Nat.lt_or_ge i e with q | q
  · refine Ret_mono (hs i σ q h) ?_
    intro t ht
    cases t with
    | inl r => exact ht
    | inr s' =>
      obtain ⟨σ', e1, e2⟩ := ht
      exact ⟨e - (i + 1), by omega, i + 1, σ', rfl, by omega, e1, e2⟩
  · have : i = e := by omega
    subst this
    refine Ret_mono (he σ h) ?_
    intro t ht
    cases t with
    | inl r => exact ht
    | inr s' => exact ht.elim
/-- a loop over i that writes nothing, with one more number -/
theorem Ret_for1 {R : Type} {body : Int32 × Int32 → Option (R ⊕ (Int32 × Int32))} (e : Nat) (Inv : Nat → Int32 → Prop) {P : R → Prop} (hs : ∀ i v, i < e → Inv i v → Ret (body (v, nI i)) (Lp P (fun s => ∃ v', s = (v', nI (i + 1)) ∧ Inv (i + 1) v'))) (he : ∀ v, Inv e v → Ret (body (v, nI e)) (Lp P (fun _ => False))) {n i : Nat} {v : Int32} (hi : i ≤ e) (hn : e < n) (h0 : Inv i v) : Ret (iter body n (v, nI i)) P := by
  refine Ret_iter (fun m s => ∃ i v, m = e - i ∧ i ≤ e ∧ s = (v, nI i) ∧ Inv i v) ?_ n (e - i) _ ⟨i, v, rfl, hi, rfl, h0⟩ (by omega)
  rintro m s ⟨i, σ, rfl, hi, rfl, h⟩
  rcases Nat.lt_or_ge i e with q | q
  · refine Ret_mono (hs i σ q h) ?_
    intro t ht
    cases t with
    | inl r => exact ht
    | inr s' =>
      obtain ⟨σ', e1, e2⟩ := ht
      exact ⟨e - (i + 1), by omega, i + 1, σ', rfl, by omega, e1, e2⟩
  · have : i = e := by omega
    subst this
    refine Ret_mono (he σ h) ?_
    intro t ht
    cases t with
    | inl r => exact ht
    | inr s' => exact ht.elim
/-- a loop over i that writes nothing -/
theorem Ret_for0 {R : Type} {body : Int32 → Option (R ⊕ Int32)} (e : Nat) (Inv : Nat → Prop) {P : R → Prop} (hs : ∀ i, i < e → Inv i → Ret (body (nI i)) (Lp P (fun s => s = nI (i + 1) ∧ Inv (i + 1)))) (he : Inv e → Ret (body (nI e)) (Lp P (fun _ => False))) {n i : Nat} (hi : i ≤ e) (hn : e < n) (h0 : Inv i) : Ret (iter body n (nI i)) P := by
  refine Ret_iter (fun m s => ∃ i, m = e - i ∧ i ≤ e ∧ s = nI i ∧ Inv i) ?_ n (e - i) _ ⟨i, rfl, hi, rfl, h0⟩ (by omega)
  rintro m s ⟨i, rfl, hi, rfl, h⟩
  rcases Nat.lt_or_ge i e with q | q
  · refine Ret_mono (hs i q h) ?_
    intro t ht
    cases t with
    | inl r => exact ht
    | inr s' =>
      obtain ⟨e1, e2⟩ := ht
      exact ⟨e - (i + 1), by omega, i + 1, rfl, by omega, e1, e2⟩
  · have : i = e := by omega
    subst this
    refine Ret_mono (he h) ?_
    intro t ht
    cases t with
    | inl r => exact ht
    | inr s' => exact ht.elim
/-! reads -/
theorem gst_at (σ : Mem) (k j : Nat) (v : Int32) (a c : Nat) : gst σ k j v a c = if a = k ∧ c = j then v else σ a c := by
  unfold gst gput upd
  by_cases h : a = k
  · subst h; simp
  · simp [h]
theorem gst_row {σ : Mem} {k j : Nat} {v : Int32} {a : Nat} (h : a ≠ k) : gst σ k j v a = σ a := by
  unfold gst
  exact gput_n h
theorem ix_nI {n : Nat} (h : n < 2 ^ 31) : ix (nI n) = n := nI_clamp h
theorem ckI_nI {i N : Nat} (h : i < N) (hN : N < 2 ^ 31) : ckI (nI i) N = true := by
  unfold ckI
  rw [nI_toInt (by omega)]
  exact decide_eq_true ⟨by omega, by omega⟩
theorem toInt_inj {x y : Int32} (h : x.toInt = y.toInt) : x = y := Int32.toInt_inj.mp h
theorem eq_nI {x : Int32} {n : Nat} (h : n < 2 ^ 31) (e : x.toInt = (n : Int)) : x = nI n := toInt_inj (by rw [e, nI_toInt h])
theorem nI_inj {a b : Nat} (ha : a < 2 ^ 31) (hb : b < 2 ^ 31) (h : nI a = nI b) : a = b := (nI_eq ha hb).mp h
/-- every int is a number or less than 0 -/
theorem nI_cases (x : Int32) : x < 0 ∨ ∃ j : Nat, j < 2 ^ 31 ∧ x = nI j := by
  by_cases h : x < 0
  · exact Or.inl h
  · exact Or.inr (nI_of h)
theorem nI_nneg {n : Nat} (h : n < 2 ^ 31) : ¬ nI n < 0 := nI_pos h
/-! pointers of a show at b -/
def SB (b : Nat) : Prop := b = 1 ∨ b = 25 ∨ b = 50 ∨ b = 75
theorem P0_0 {b : Nat} (hb : SB b) : ptr (b) 0 = b + 1 := by rcases hb with h | h | h | h <;> subst h <;> rfl
theorem P0_1 {b : Nat} (hb : SB b) : ptr (b) 1 = b + 3 := by rcases hb with h | h | h | h <;> subst h <;> rfl
theorem P0_2 {b : Nat} (hb : SB b) : ptr (b) 2 = b + 13 := by rcases hb with h | h | h | h <;> subst h <;> rfl
theorem P0_3 {b : Nat} (hb : SB b) : ptr (b) 3 = b + 19 := by rcases hb with h | h | h | h <;> subst h <;> rfl
theorem P0_4 {b : Nat} (hb : SB b) : ptr (b) 4 = b + 20 := by rcases hb with h | h | h | h <;> subst h <;> rfl
theorem P1_0 {b : Nat} (hb : SB b) : ptr (b + 1) 0 = 118 := by rcases hb with h | h | h | h <;> subst h <;> rfl
theorem P1_1 {b : Nat} (hb : SB b) : ptr (b + 1) 1 = 119 := by rcases hb with h | h | h | h <;> subst h <;> rfl
theorem P1_2 {b : Nat} (hb : SB b) : ptr (b + 1) 2 = 120 := by rcases hb with h | h | h | h <;> subst h <;> rfl
theorem P1_4 {b : Nat} (hb : SB b) : ptr (b + 1) 4 = b + 2 := by rcases hb with h | h | h | h <;> subst h <;> rfl
theorem A2 {b : Nat} (hb : SB b) : alen (b + 2) = 6 := by rcases hb with h | h | h | h <;> subst h <;> rfl
theorem P3_0 {b : Nat} (hb : SB b) : ptr (b + 3) 0 = b + 4 := by rcases hb with h | h | h | h <;> subst h <;> rfl
theorem P3_1 {b : Nat} (hb : SB b) : ptr (b + 3) 1 = b + 6 := by rcases hb with h | h | h | h <;> subst h <;> rfl
theorem P3_2 {b : Nat} (hb : SB b) : ptr (b + 3) 2 = b + 7 := by rcases hb with h | h | h | h <;> subst h <;> rfl
theorem P3_3 {b : Nat} (hb : SB b) : ptr (b + 3) 3 = b + 8 := by rcases hb with h | h | h | h <;> subst h <;> rfl
theorem P3_4 {b : Nat} (hb : SB b) : ptr (b + 3) 4 = b + 9 := by rcases hb with h | h | h | h <;> subst h <;> rfl
theorem P3_5 {b : Nat} (hb : SB b) : ptr (b + 3) 5 = b + 10 := by rcases hb with h | h | h | h <;> subst h <;> rfl
theorem P3_6 {b : Nat} (hb : SB b) : ptr (b + 3) 6 = b + 11 := by rcases hb with h | h | h | h <;> subst h <;> rfl
theorem P3_7 {b : Nat} (hb : SB b) : ptr (b + 3) 7 = b + 12 := by rcases hb with h | h | h | h <;> subst h <;> rfl
theorem P4_0 {b : Nat} (hb : SB b) : ptr (b + 4) 0 = 112 := by rcases hb with h | h | h | h <;> subst h <;> rfl
theorem P4_1 {b : Nat} (hb : SB b) : ptr (b + 4) 1 = 113 := by rcases hb with h | h | h | h <;> subst h <;> rfl
theorem P4_2 {b : Nat} (hb : SB b) : ptr (b + 4) 2 = 114 := by rcases hb with h | h | h | h <;> subst h <;> rfl
theorem P4_4 {b : Nat} (hb : SB b) : ptr (b + 4) 4 = b + 5 := by rcases hb with h | h | h | h <;> subst h <;> rfl
theorem A5 {b : Nat} (hb : SB b) : alen (b + 5) = 72 := by rcases hb with h | h | h | h <;> subst h <;> rfl
theorem A6 {b : Nat} (hb : SB b) : alen (b + 6) = 12 := by rcases hb with h | h | h | h <;> subst h <;> rfl
theorem A7 {b : Nat} (hb : SB b) : alen (b + 7) = 12 := by rcases hb with h | h | h | h <;> subst h <;> rfl
theorem A8 {b : Nat} (hb : SB b) : alen (b + 8) = 12 := by rcases hb with h | h | h | h <;> subst h <;> rfl
theorem A9 {b : Nat} (hb : SB b) : alen (b + 9) = 12 := by rcases hb with h | h | h | h <;> subst h <;> rfl
theorem A10 {b : Nat} (hb : SB b) : alen (b + 10) = 12 := by rcases hb with h | h | h | h <;> subst h <;> rfl
theorem A11 {b : Nat} (hb : SB b) : alen (b + 11) = 12 := by rcases hb with h | h | h | h <;> subst h <;> rfl
theorem A12 {b : Nat} (hb : SB b) : alen (b + 12) = 612 := by rcases hb with h | h | h | h <;> subst h <;> rfl
theorem P13_0 {b : Nat} (hb : SB b) : ptr (b + 13) 0 = b + 14 := by rcases hb with h | h | h | h <;> subst h <;> rfl
theorem P13_1 {b : Nat} (hb : SB b) : ptr (b + 13) 1 = b + 16 := by rcases hb with h | h | h | h <;> subst h <;> rfl
theorem P13_2 {b : Nat} (hb : SB b) : ptr (b + 13) 2 = b + 17 := by rcases hb with h | h | h | h <;> subst h <;> rfl
theorem P13_3 {b : Nat} (hb : SB b) : ptr (b + 13) 3 = b + 18 := by rcases hb with h | h | h | h <;> subst h <;> rfl
theorem P14_0 {b : Nat} (hb : SB b) : ptr (b + 14) 0 = 115 := by rcases hb with h | h | h | h <;> subst h <;> rfl
theorem P14_1 {b : Nat} (hb : SB b) : ptr (b + 14) 1 = 116 := by rcases hb with h | h | h | h <;> subst h <;> rfl
theorem P14_2 {b : Nat} (hb : SB b) : ptr (b + 14) 2 = 117 := by rcases hb with h | h | h | h <;> subst h <;> rfl
theorem P14_4 {b : Nat} (hb : SB b) : ptr (b + 14) 4 = b + 15 := by rcases hb with h | h | h | h <;> subst h <;> rfl
theorem A15 {b : Nat} (hb : SB b) : alen (b + 15) = 6 := by rcases hb with h | h | h | h <;> subst h <;> rfl
theorem A16 {b : Nat} (hb : SB b) : alen (b + 16) = 3 := by rcases hb with h | h | h | h <;> subst h <;> rfl
theorem A17 {b : Nat} (hb : SB b) : alen (b + 17) = 3 := by rcases hb with h | h | h | h <;> subst h <;> rfl
theorem A18 {b : Nat} (hb : SB b) : alen (b + 18) = 3 := by rcases hb with h | h | h | h <;> subst h <;> rfl
theorem P20_0 {b : Nat} (hb : SB b) : ptr (b + 20) 0 = b + 21 := by rcases hb with h | h | h | h <;> subst h <;> rfl
theorem P20_1 {b : Nat} (hb : SB b) : ptr (b + 20) 1 = b + 22 := by rcases hb with h | h | h | h <;> subst h <;> rfl
theorem P20_2 {b : Nat} (hb : SB b) : ptr (b + 20) 2 = b + 23 := by rcases hb with h | h | h | h <;> subst h <;> rfl
theorem A21 {b : Nat} (hb : SB b) : alen (b + 21) = 60 := by rcases hb with h | h | h | h <;> subst h <;> rfl
theorem A22 {b : Nat} (hb : SB b) : alen (b + 22) = 60 := by rcases hb with h | h | h | h <;> subst h <;> rfl
theorem A23 {b : Nat} (hb : SB b) : alen (b + 23) = 60 := by rcases hb with h | h | h | h <;> subst h <;> rfl
theorem AS112 : alen 112 = 6 := rfl
theorem AS113 : alen 113 = 6 := rfl
theorem AS114 : alen 114 = 6 := rfl
theorem AS115 : alen 115 = 2 := rfl
theorem AS116 : alen 116 = 2 := rfl
theorem AS117 : alen 117 = 2 := rfl
theorem AS118 : alen 118 = 6 := rfl
theorem AS119 : alen 119 = 6 := rfl
theorem AS120 : alen 120 = 6 := rfl

