/-! the reference's tick -/
theorem Ret_for2 {R : Type} {body : Mem × Int32 × Int32 → Option (R ⊕ (Mem × Int32 × Int32))} (e : Nat) (Inv : Nat → Int32 → Mem → Prop) {P : R → Prop} (hs : ∀ i v σ, i < e → Inv i v σ → Ret (body (σ, v, nI i)) (Lp P (fun s => ∃ v' σ', s = (σ', v', nI (i + 1)) ∧ Inv (i + 1) v' σ'))) (he : ∀ v σ, Inv e v σ → Ret (body (σ, v, nI e)) (Lp P (fun _ => False))) {n i : Nat} {v : Int32} {σ : Mem} (hi : i ≤ e) (hn : e < n) (h0 : Inv i v σ) : Ret (iter body n (σ, v, nI i)) P := by
  refine Ret_iter (fun m s => ∃ i v σ, m = e - i ∧ i ≤ e ∧ s = (σ, v, nI i) ∧ Inv i v σ) ?_ n (e - i) _ ⟨i, v, σ, rfl, hi, rfl, h0⟩ (by omega)
  rintro m s ⟨i, v, σ, rfl, hi, rfl, h⟩
  rcases Nat.lt_or_ge i e with q | q
  · refine Ret_mono (hs i v σ q h) ?_
    intro t ht
    cases t with
    | inl r => exact ht
    | inr s' =>
      obtain ⟨v', σ', e1, e2⟩ := ht
      exact ⟨e - (i + 1), by omega, i + 1, v', σ', rfl, by omega, e1, e2⟩
  · have : i = e := by omega
    subst this
    refine Ret_mono (he v σ h) ?_
    intro t ht
    cases t with
    | inl r => exact ht
    | inr s' => exact ht.elim
def T1 (V : Sh) : Sh := scaV (vrow V 6 (cmdV V)) (filtV V) (windV V).1 (windV V).2
def T2 (V : Sh) : Sh := vrow (T1 V) 7 (openV V)
def T3 (V : Sh) (p : Nat) : Sh := fun r c => if r = 14 ∧ c < p then runV V c else if r = 15 ∧ c < p then demV V c else if r = 16 ∧ c < p then V 16 c + (if runV V c < demV V c then 1 else 0) else T2 V r c
def T4 (V : Sh) (i : Nat) : Sh := fun r c => if r = 8 ∧ c < i then flowV V c else if r = 9 ∧ c < i then highV V c else if r = 10 ∧ c < i then driftV V c else if r = 11 ∧ c < i then max (V 11 c) (highV V c) else T3 V 3 r c
/-- the commands of this tick, kept -/
def Hn (V : Sh) (σ : Mem) (i : Nat) : Prop := ∀ j, j < i → σ 106 (144 + 64 * j + V 18 4 % 64) = nI (cmdV V j)
