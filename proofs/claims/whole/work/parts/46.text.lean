/-! THE TEXT: one machine over it, for both. A state: (phase, number + 1 or 0, time, set, cues so far in the text's order) -/
abbrev Cu : Type := Nat × Nat × Nat
abbrev Tx : Type := Nat × Nat × Nat × Nat × List Cu
/-- one more digit: number + 1 -/
def dig (lim u ch : Nat) : Option Nat := if 48 ≤ ch ∧ ch ≤ 57 ∧ u ≠ 1 ∧ 10 * (u - 1) + (ch - 48) ≤ lim then some (10 * (u - 1) + (ch - 48) + 1) else none
def stp (x : Tx) (ch : Nat) : Option Tx :=
  if x.1 = 0 then (if ch = 58 then (if x.2.1 = 0 then none else some (1, x.2.1, x.2.1 - 1, 0, x.2.2.2.2)) else (match dig 9999 x.2.1 ch with | some u => some (0, u, x.2.2.1, x.2.2.2.1, x.2.2.2.2) | none => none))
  else if x.1 = 1 then (if ch = 61 then (if x.2.2.2.1 = 0 then none else some (2, 0, x.2.2.1, x.2.2.2.1, x.2.2.2.2)) else (if 97 ≤ ch ∧ ch ≤ 108 ∧ x.2.2.2.1 < 2 ^ (ch - 97) then some (1, x.2.1, x.2.2.1, x.2.2.2.1 + 2 ^ (ch - 97), x.2.2.2.2) else none))
  else (if ch = 44 then (if x.2.1 = 0 then none else some (0, 0, x.2.2.1, x.2.2.2.1, x.2.2.2.2 ++ [(x.2.2.1, x.2.2.2.1, x.2.1 - 1)])) else (match dig 1000 x.2.1 ch with | some u => some (2, u, x.2.2.1, x.2.2.2.1, x.2.2.2.2) | none => none))
def fin (x : Tx) : Option (List Cu) := if x.1 = 2 ∧ x.2.1 ≠ 0 then some (x.2.2.2.2 ++ [(x.2.2.1, x.2.2.2.1, x.2.1 - 1)]) else none
def run (c : Nat → Nat) : Nat → Option Tx
  | 0 => some (0, 0, 0, 0, [])
  | p + 1 => match run c p with
    | some x => stp x (c p)
    | none => none
/-- what comes out of the text: a fault at p, or none and its cues -/
def Out (c : Nat → Nat) (L : Nat) (r : Option Nat) (l : List Cu) : Prop := (∃ p x, r = some p ∧ run c p = some x ∧ ((p < L ∧ stp x (c p) = none) ∨ (p = L ∧ fin x = none))) ∨ (r = none ∧ ∃ x, run c L = some x ∧ fin x = some l)
theorem run_none {c : Nat → Nat} {p : Nat} (h : run c p = none) : ∀ d, run c (p + d) = none
  | 0 => h
  | d + 1 => by
    show (match run c (p + d) with | some x => stp x (c (p + d)) | none => none) = none
    rw [run_none h d]
theorem run_s {c : Nat → Nat} {p : Nat} {x : Tx} (h : run c p = some x) : run c (p + 1) = stp x (c p) := by
  show (match run c p with | some x => stp x (c p) | none => none) = _
  rw [h]
theorem out_u {c : Nat → Nat} {L : Nat} {r r' : Option Nat} {l l' : List Cu} (h : Out c L r l) (h' : Out c L r' l') : r = r' ∧ (r = none → l = l') := by
  have stuck : ∀ p x, p < L → run c p = some x → stp x (c p) = none → ∀ q y, p < q → run c q = some y → False := by
    intro p x _ h1 h2 q y h3 h4
    have a := run_s h1
    rw [h2] at a
    have b := run_none a (q - (p + 1))
    rw [show p + 1 + (q - (p + 1)) = q by omega, h4] at b
    cases b
  rcases h with ⟨p, x, rfl, h1, h2⟩ | ⟨rfl, x, h1, h2⟩
  · refine ⟨?_, fun z => by cases z⟩
    rcases h' with ⟨p', x', rfl, h1', h2'⟩ | ⟨rfl, x', h1', h2'⟩
    · congr 1
      rcases Nat.lt_trichotomy p p' with q | q | q
      · rcases h2 with ⟨z1, z2⟩ | ⟨z1, z2⟩
        · exact (stuck p x z1 h1 z2 p' x' q h1').elim
        · rcases h2' with ⟨w1, w2⟩ | ⟨w1, w2⟩ <;> omega
      · exact q
      · rcases h2' with ⟨z1, z2⟩ | ⟨z1, z2⟩
        · exact (stuck p' x' z1 h1' z2 p x q h1).elim
        · rcases h2 with ⟨w1, w2⟩ | ⟨w1, w2⟩ <;> omega
    · rcases h2 with ⟨z1, z2⟩ | ⟨z1, z2⟩
      · exact (stuck p x z1 h1 z2 L x' z1 h1').elim
      · subst z1
        rw [h1] at h1'
        cases h1'
        rw [z2] at h2'
        cases h2'
  · rcases h' with ⟨p', x', rfl, h1', h2'⟩ | ⟨rfl, x', h1', h2'⟩
    · refine ⟨?_, ?_⟩
      · rcases h2' with ⟨z1, z2⟩ | ⟨z1, z2⟩
        · exact (stuck p' x' z1 h1' z2 L x z1 h1).elim
        · subst z1
          rw [h1] at h1'
          cases h1'
          rw [z2] at h2
          cases h2
      · rcases h2' with ⟨z1, z2⟩ | ⟨z1, z2⟩
        · exact (stuck p' x' z1 h1' z2 L x z1 h1).elim
        · subst z1
          rw [h1] at h1'
          cases h1'
          rw [z2] at h2
          cases h2
    · rw [h1] at h1'
      cases h1'
      rw [h2] at h2'
      cases h2'
      exact ⟨rfl, fun _ => rfl⟩
/-! numbers of a state are small, and each cue takes six characters -/
def Xok (p : Nat) (x : Tx) : Prop := x.1 ≤ 2 ∧ (x.1 = 0 → x.2.1 ≤ 10000) ∧ (x.1 = 1 → 1 ≤ x.2.1 ∧ x.2.1 ≤ 10000) ∧ (x.1 = 2 → x.2.1 ≤ 1001 ∧ 1 ≤ x.2.2.2.1) ∧ x.2.2.1 ≤ 9999 ∧ (x.2.2.2.1 ≤ 4095) ∧ 6 * x.2.2.2.2.length + (if x.1 = 0 then (if x.2.1 = 0 then 0 else 1) else if x.1 = 1 then (if x.2.2.2.1 = 0 then 2 else 3) else (if x.2.1 = 0 then 4 else 5)) ≤ p ∧ ∀ y ∈ x.2.2.2.2, y.1 ≤ 9999 ∧ y.2.1 ≤ 4095 ∧ y.2.2 ≤ 1000
theorem dig_s {lim u ch v : Nat} (h : dig lim u ch = some v) : 1 ≤ v ∧ v ≤ lim + 1 := by
  unfold dig at h
  split at h
  · cases h
    omega
  · cases h
theorem letter_le {s ch : Nat} (h1 : 97 ≤ ch) (h2 : ch ≤ 108) (h3 : s < 2 ^ (ch - 97)) : s + 2 ^ (ch - 97) ≤ 4095 := by
  have : 2 ^ (ch - 97) ≤ 2 ^ 11 := Nat.pow_le_pow_right (by decide) (by omega)
  omega
theorem xok_s {p ch : Nat} {x y : Tx} (h : Xok p x) (hs : stp x ch = some y) : Xok (p + 1) y := by
  obtain ⟨ph, u, t, s, l⟩ := x
  unfold Xok at h
  dsimp only at h
  obtain ⟨a1, a2, a3, a4, a5, a6, a7, a8⟩ := h
  unfold stp at hs
  dsimp only at hs
  by_cases e0 : ph = 0
  · subst e0
    rw [if_pos rfl] at hs a7
    have a2 := a2 rfl
    by_cases q : ch = 58
    · rw [if_pos q] at hs
      by_cases q2 : u = 0
      · rw [if_pos q2] at hs; cases hs
      · rw [if_neg q2] at hs a7
        cases hs
        refine ⟨by dsimp only; omega, by dsimp only; omega, by dsimp only; omega, by dsimp only; omega, by dsimp only; omega, by dsimp only; omega, ?_, a8⟩
        dsimp only
        rw [if_neg (by decide), if_pos rfl, if_pos rfl]
        omega
    · rw [if_neg q] at hs
      cases d : dig 9999 u ch with
      | none => rw [d] at hs; cases hs
      | some v =>
        have := dig_s d
        rw [d] at hs
        cases hs
        refine ⟨by dsimp only; omega, by dsimp only; omega, by dsimp only; omega, by dsimp only; omega, a5, a6, ?_, a8⟩
        dsimp only
        rw [if_pos rfl, if_neg (by omega)]
        by_cases z : u = 0
        · rw [if_pos z] at a7; omega
        · rw [if_neg z] at a7; omega
  · by_cases e1 : ph = 1
    · subst e1
      rw [if_neg (by decide), if_pos rfl] at hs
      rw [if_neg (by decide), if_pos rfl] at a7
      have a3 := a3 rfl
      by_cases q : ch = 61
      · rw [if_pos q] at hs
        by_cases q2 : s = 0
        · rw [if_pos q2] at hs; cases hs
        · rw [if_neg q2] at hs a7
          cases hs
          refine ⟨by dsimp only; omega, by dsimp only; omega, by dsimp only; omega, by dsimp only; omega, a5, a6, ?_, a8⟩
          dsimp only
          rw [if_neg (by decide), if_neg (by decide), if_pos rfl]
          omega
      · rw [if_neg q] at hs
        by_cases q2 : 97 ≤ ch ∧ ch ≤ 108 ∧ s < 2 ^ (ch - 97)
        · rw [if_pos q2] at hs
          cases hs
          have := letter_le q2.1 q2.2.1 q2.2.2
          refine ⟨by dsimp only; omega, by dsimp only; omega, by dsimp only; omega, by dsimp only; omega, a5, this, ?_, a8⟩
          dsimp only
          rw [if_neg (by decide), if_pos rfl, if_neg (by omega)]
          by_cases z : s = 0
          · rw [if_pos z] at a7; omega
          · rw [if_neg z] at a7; omega
        · rw [if_neg q2] at hs; cases hs
    · have e2 : ph = 2 := by omega
      subst e2
      rw [if_neg (by decide), if_neg (by decide)] at hs
      rw [if_neg (by decide), if_neg (by decide)] at a7
      have a4 := a4 rfl
      by_cases q : ch = 44
      · rw [if_pos q] at hs
        by_cases q2 : u = 0
        · rw [if_pos q2] at hs; cases hs
        · rw [if_neg q2] at hs a7
          cases hs
          refine ⟨by dsimp only; omega, by dsimp only; omega, by dsimp only; omega, by dsimp only; omega, a5, a6, ?_, ?_⟩
          · dsimp only
            rw [if_pos rfl, if_pos rfl, List.length_append]
            simp
            omega
          · dsimp only
            intro y hy
            rw [List.mem_append] at hy
            rcases hy with hy | hy
            · exact a8 y hy
            · simp at hy
              subst hy
              exact ⟨a5, a6, by dsimp only; omega⟩
      · rw [if_neg q] at hs
        cases d : dig 1000 u ch with
        | none => rw [d] at hs; cases hs
        | some v =>
          have := dig_s d
          rw [d] at hs
          cases hs
          refine ⟨by dsimp only; omega, by dsimp only; omega, by dsimp only; omega, by dsimp only; omega, a5, a6, ?_, a8⟩
          dsimp only
          rw [if_neg (by decide), if_neg (by decide), if_neg (by omega)]
          by_cases z : u = 0
          · rw [if_pos z] at a7; omega
          · rw [if_neg z] at a7; omega
theorem xok_run {c : Nat → Nat} : ∀ {p : Nat} {x : Tx}, run c p = some x → Xok p x
  | 0, x, h => by
    have h : some ((0, 0, 0, 0, []) : Tx) = some x := h
    cases h
    refine ⟨by decide, by decide, by decide, by decide, by decide, by decide, by decide, ?_⟩
    intro y hy
    simp at hy
  | p + 1, x, h => by
    cases e : run c p with
    | none =>
      rw [run_none e 1] at h
      cases h
    | some y =>
      rw [run_s e] at h
      exact xok_s (xok_run e) h
/-! CUES IN ORDER: each behind those of its time -/
def ins (x : Cu) : List Cu → List Cu
  | [] => [x]
  | y :: ys => if y.1 ≤ x.1 then y :: ins x ys else x :: y :: ys
theorem ins_comm {x y : Cu} (h : x.1 ≠ y.1) : ∀ B, ins y (ins x B) = ins x (ins y B)
  | [] => by
    show (if x.1 ≤ y.1 then [x, y] else [y, x]) = (if y.1 ≤ x.1 then [y, x] else [x, y])
    by_cases q : x.1 ≤ y.1
    · rw [if_pos q, if_neg (by omega)]
    · rw [if_neg q, if_pos (by omega)]
  | z :: zs => by
    have ih := ins_comm h zs
    have s : ∀ w : Cu, ins w (z :: zs) = if z.1 ≤ w.1 then z :: ins w zs else w :: z :: zs := fun w => rfl
    have s2 : ∀ (w v : Cu) vs, ins w (v :: vs) = if v.1 ≤ w.1 then v :: ins w vs else w :: v :: vs := fun w v vs => rfl
    rw [s, s]
    by_cases q1 : z.1 ≤ x.1
    · by_cases q2 : z.1 ≤ y.1
      · rw [if_pos q1, if_pos q2, s2, s2, if_pos q2, if_pos q1, ih]
      · rw [if_pos q1, if_neg q2, s2, if_neg q2, s2, if_pos (by omega), s, if_pos q1]
    · by_cases q2 : z.1 ≤ y.1
      · rw [if_neg q1, if_pos q2, s2, if_pos (by omega), s, if_pos q2, s2, if_neg q1]
      · rw [if_neg q1, if_neg q2, s2 y x, s2 x y, s y, s x, if_neg q1, if_neg q2]
        by_cases q3 : x.1 ≤ y.1
        · rw [if_pos q3, if_neg (by omega)]
        · rw [if_neg q3, if_pos (by omega)]
def insAll (B : List Cu) : List Cu → List Cu
  | [] => B
  | x :: xs => insAll (ins x B) xs
theorem insAll_app (B : List Cu) : ∀ l m, insAll B (l ++ m) = insAll (insAll B l) m := by
  intro l
  induction l generalizing B with
  | nil => intro m; rfl
  | cons x xs ih => intro m; exact ih (ins x B) m
theorem insAll_comm {x : Cu} : ∀ {S B : List Cu}, (∀ y ∈ S, x.1 < y.1) → insAll (ins x B) S = ins x (insAll B S)
  | [], B, _ => rfl
  | y :: ys, B, h => by
    have h1 := h y (by simp)
    show insAll (ins y (ins x B)) ys = ins x (insAll (ins y B) ys)
    rw [ins_comm (by omega), insAll_comm (fun z hz => h z (by simp [hz]))]
def Srt : List Cu → Prop
  | [] => True
  | x :: xs => (∀ y ∈ xs, x.1 ≤ y.1) ∧ Srt xs
theorem ins_mem {x y : Cu} : ∀ {S : List Cu}, y ∈ ins x S → y = x ∨ y ∈ S
  | [], h => by
    have h : y ∈ [x] := h
    simp at h
    exact Or.inl h
  | z :: zs, h => by
    have h : y ∈ (if z.1 ≤ x.1 then z :: ins x zs else x :: z :: zs) := h
    by_cases q : z.1 ≤ x.1
    · rw [if_pos q] at h
      simp at h
      rcases h with h | h
      · exact Or.inr (by simp [h])
      · rcases ins_mem h with h | h
        · exact Or.inl h
        · exact Or.inr (by simp [h])
    · rw [if_neg q] at h
      simp at h
      rcases h with h | h | h
      · exact Or.inl h
      · exact Or.inr (by simp [h])
      · exact Or.inr (by simp [h])
theorem srt_ins {x : Cu} : ∀ {S : List Cu}, Srt S → Srt (ins x S)
  | [], _ => ⟨fun y hy => by simp at hy, trivial⟩
  | z :: zs, h => by
    obtain ⟨h1, h2⟩ := h
    show Srt (if z.1 ≤ x.1 then z :: ins x zs else x :: z :: zs)
    by_cases q : z.1 ≤ x.1
    · rw [if_pos q]
      refine ⟨?_, srt_ins h2⟩
      intro y hy
      rcases ins_mem hy with rfl | hy
      · exact q
      · exact h1 y hy
    · rw [if_neg q]
      refine ⟨?_, h1, h2⟩
      intro y hy
      simp at hy
      rcases hy with rfl | hy
      · omega
      · have := h1 y hy
        omega
theorem insAll_ins {x : Cu} : ∀ {S B : List Cu}, Srt S → insAll B (ins x S) = ins x (insAll B S)
  | [], B, _ => rfl
  | z :: zs, B, h => by
    obtain ⟨h1, h2⟩ := h
    show insAll B (if z.1 ≤ x.1 then z :: ins x zs else x :: z :: zs) = _
    by_cases q : z.1 ≤ x.1
    · rw [if_pos q]
      show insAll (ins z B) (ins x zs) = ins x (insAll (ins z B) zs)
      exact insAll_ins h2
    · rw [if_neg q]
      refine insAll_comm (S := z :: zs) ?_
      intro y hy
      simp at hy
      rcases hy with rfl | hy
      · omega
      · have := h1 y hy
        omega
theorem insAll_srt {l : List Cu} : ∀ {S : List Cu}, Srt S → Srt (insAll S l) := by
  induction l with
  | nil => intro S h; exact h
  | cons x xs ih => intro S h; exact ih (srt_ins h)
/-- in the order of their times, or in the text's: the same -/
theorem insAll_two (B : List Cu) : ∀ (l S : List Cu), Srt S → insAll B (insAll S l) = insAll (insAll B S) l := by
  intro l
  induction l with
  | nil => intro S _; rfl
  | cons x xs ih =>
    intro S h
    show insAll B (insAll (ins x S) xs) = insAll (ins x (insAll B S)) xs
    rw [ih _ (srt_ins h), insAll_ins h]
theorem insAll_once (B l : List Cu) : insAll B (insAll [] l) = insAll B l := insAll_two B l [] trivial
def ltr (d : Nat) (x : Cu) : Cu := (x.1 + d, x.2)
theorem ins_map (d : Nat) (x : Cu) : ∀ S, (ins x S).map (ltr d) = ins (ltr d x) (S.map (ltr d))
  | [] => rfl
  | z :: zs => by
    show (if z.1 ≤ x.1 then z :: ins x zs else x :: z :: zs).map (ltr d) = (if z.1 + d ≤ x.1 + d then ltr d z :: ins (ltr d x) (zs.map (ltr d)) else ltr d x :: ltr d z :: zs.map (ltr d))
    by_cases q : z.1 ≤ x.1
    · rw [if_pos q, if_pos (by omega), List.map_cons, ins_map d x zs]
    · rw [if_neg q, if_neg (by omega)]
      rfl
theorem insAll_map (d : Nat) : ∀ (l S : List Cu), (insAll S l).map (ltr d) = insAll (S.map (ltr d)) (l.map (ltr d)) := by
  intro l
  induction l with
  | nil => intro S; rfl
  | cons x xs ih =>
    intro S
    show (insAll (ins x S) xs).map (ltr d) = insAll (ins (ltr d x) (S.map (ltr d))) (xs.map (ltr d))
    rw [ih, ins_map]
/-- inserted in order, later: as in the text's order -/
theorem read_same (d : Nat) (B l : List Cu) : insAll B ((insAll [] l).map (ltr d)) = insAll B (l.map (ltr d)) := by
  rw [insAll_map]
  exact insAll_once B _
