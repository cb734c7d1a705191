/-! ONE SHOW AS NUMBERS: V row place. Rows 0..11 by nozzle (SIZE HEIGHT LAG SPEED PUMP DRIFT, command, opening, flow, height, drift, greatest), 12..16 by pump (CAPACITY RISE flow demand short), 17 the show's settings, 18 (wind, F, stage, calm, time, nozzles, wet, cues, and the class's greatest cut goal), 19..21 the cues (time, set, value), 22 + t the commands behind step 1 of the tick t -/
abbrev Sh : Type := Nat → Nat → Nat
def obeyV (c : Nat → Nat) (s v : Nat) : Nat → Nat := fun i => if s.testBit i then v else c i
def carryV (V : Sh) : Nat → Nat → Nat
  | 0 => V 6
  | k + 1 => if V 19 k = V 18 4 then obeyV (carryV V k) (V 20 k) (V 21 k) else carryV V k
def cmdV (V : Sh) : Nat → Nat := carryV V (V 18 7)
def filtV (V : Sh) : Nat := ((V 18 1 : Int) + ((1024 * V 18 0 : Nat) - (V 18 1 : Int)) / (V 17 0 : Int)).toNat
def measV (V : Sh) : Nat := filtV V / 1024
/-- stage and calm count behind step 2 -/
def windV (V : Sh) : Nat × Nat :=
  if V 17 2 ≤ measV V then (2, 0)
  else if V 17 1 ≤ measV V ∧ V 18 2 = 0 then (1, 0)
  else if 0 < V 18 2 ∧ measV V + 10 < (if V 18 2 = 2 then V 17 2 else V 17 1) then
    (if V 17 4 ≤ V 18 3 + 1 then (V 18 2 - 1, 0) else (V 18 2, V 18 3 + 1))
  else (V 18 2, 0)
def histV (V : Sh) (t : Nat) : Nat → Nat := if t = V 18 4 then cmdV V else V (22 + t)
def goal0 (V : Sh) (i : Nat) : Nat := if V 2 i ≤ V 18 4 then histV V (V 18 4 - V 2 i) i else 0
def goalV (V : Sh) (i : Nat) : Nat := if (windV V).1 = 1 then min (goal0 V i) (V 17 3) else if (windV V).1 = 2 then 0 else goal0 V i
def openV (V : Sh) (i : Nat) : Nat := tow (V 7 i) (goalV V i) (V 3 i)
def sumV (f : Nat → Nat) : Nat → Nat
  | 0 => 0
  | n + 1 => sumV f n + f n
def maxV (f : Nat → Nat) (a : Nat) : Nat → Nat
  | 0 => a
  | n + 1 => max (maxV f a n) (f n)
def ownV (V : Sh) (i : Nat) : Nat := openV V i * V 0 i
def demV (V : Sh) (p : Nat) : Nat := sumV (fun i => if V 4 i = p then ownV V i else 0) (V 18 5)
def runV (V : Sh) (p : Nat) : Nat := tow (V 14 p) (min (demV V p) (1000 * V 12 p)) (1000 * V 13 p)
def flowV (V : Sh) (i : Nat) : Nat := if demV V (V 4 i) ≤ runV V (V 4 i) then ownV V i else ownV V i * runV V (V 4 i) / demV V (V 4 i)
def highV (V : Sh) (i : Nat) : Nat := V 1 i * (flowV V i / V 0 i) * (flowV V i / V 0 i) / 1000000
def driftV (V : Sh) (i : Nat) : Nat := highV V i * measV V * V 5 i / 100000
def anyV (f : Nat → Bool) : Nat → Bool
  | 0 => false
  | n + 1 => anyV f n || f n
def wetV (V : Sh) : Bool := anyV (fun i => decide (V 17 5 < driftV V i)) (V 18 5)
def ggV (V : Sh) : Nat := if (windV V).1 = 1 then maxV (goal0 V) (V 18 8) (V 18 5) else V 18 8
def tickV (V : Sh) : Sh := fun r i =>
  if 22 ≤ r then (if r = 22 + V 18 4 then cmdV V i else V r i)
  else match r with
    | 6 => cmdV V i
    | 7 => openV V i
    | 8 => flowV V i
    | 9 => highV V i
    | 10 => driftV V i
    | 11 => max (V 11 i) (highV V i)
    | 14 => runV V i
    | 15 => demV V i
    | 16 => V 16 i + (if runV V i < demV V i then 1 else 0)
    | 18 => (match i with
      | 1 => filtV V
      | 2 => (windV V).1
      | 3 => (windV V).2
      | 4 => V 18 4 + 1
      | 6 => V 18 6 + (if wetV V = true then 1 else 0)
      | 8 => ggV V
      | j => V 18 j)
    | r => V r i
/-- its numbers are in their ranges -/
def VokN (V : Sh) : Prop := ∀ i, i < V 18 5 → (1 ≤ V 0 i ∧ V 0 i ≤ 100) ∧ (1 ≤ V 1 i ∧ V 1 i ≤ 5000) ∧ V 2 i ≤ 50 ∧ (1 ≤ V 3 i ∧ V 3 i ≤ 1000) ∧ V 4 i ≤ 2 ∧ V 5 i ≤ 100 ∧ V 6 i ≤ 1000 ∧ V 7 i ≤ 1000 ∧ V 8 i ≤ 100000 ∧ V 9 i ≤ 5000 ∧ V 10 i ≤ 2000 ∧ V 11 i ≤ 5000
def VokP (V : Sh) : Prop := ∀ p, p < 3 → V 12 p ≤ 2000 ∧ (1 ≤ V 13 p ∧ V 13 p ≤ 500) ∧ V 14 p ≤ 2000000 ∧ V 15 p ≤ 1200000 ∧ V 16 p ≤ V 18 4
def VokS (V : Sh) : Prop := (1 ≤ V 17 0 ∧ V 17 0 ≤ 64) ∧ V 17 1 ≤ 300 ∧ V 17 2 ≤ 300 ∧ V 17 3 ≤ 1000 ∧ V 17 4 ≤ 600 ∧ V 17 5 ≤ 5000 ∧ V 18 0 ≤ 300 ∧ V 18 1 ≤ 307200 ∧ V 18 2 ≤ 2 ∧ V 18 3 ≤ V 18 4 ∧ V 18 4 ≤ 2000000 ∧ (1 ≤ V 18 5 ∧ V 18 5 ≤ 12) ∧ V 18 6 ≤ V 18 4 ∧ V 18 7 ≤ 60 ∧ V 18 8 ≤ 1000
def VokC (V : Sh) : Prop := (∀ k, k < V 18 7 → V 19 k ≤ 100000 ∧ V 20 k ≤ 4095 ∧ V 21 k ≤ 1000) ∧ ∀ k, k + 1 < V 18 7 → V 19 k ≤ V 19 (k + 1)
def VokH (V : Sh) : Prop := ∀ t i, t < V 18 4 → i < V 18 5 → V (22 + t) i ≤ 1000
def Vok (V : Sh) : Prop := VokN V ∧ VokP V ∧ VokS V ∧ VokC V ∧ VokH V
/-! what a show's cells hold, of the class: a show at b -/
def RcN (b : Nat) (V : Sh) (σ : Mem) : Prop := ∀ i, i < V 18 5 → (∀ j, j < 6 → σ (b + 5) (6 * i + j) = nI (V j i)) ∧ σ (b + 6) i = nI (V 6 i) ∧ σ (b + 7) i = nI (V 7 i) ∧ σ (b + 8) i = nI (V 8 i) ∧ σ (b + 9) i = nI (V 9 i) ∧ σ (b + 10) i = nI (V 10 i) ∧ σ (b + 11) i = nI (V 11 i)
def RcP (b : Nat) (V : Sh) (σ : Mem) : Prop := ∀ p, p < 3 → (∀ j, j < 2 → σ (b + 15) (2 * p + j) = nI (V (12 + j) p)) ∧ σ (b + 16) p = nI (V 14 p) ∧ σ (b + 17) p = nI (V 15 p) ∧ σ (b + 18) p = nI (V 16 p)
def RcS (b : Nat) (V : Sh) (σ : Mem) : Prop := (∀ j, j < 6 → σ (b + 2) j = nI (V 17 j)) ∧ σ (b + 19) 0 = nI (V 18 0) ∧ σ (b + 19) 1 = nI (V 18 1) ∧ σ (b + 19) 2 = nI (V 18 2) ∧ σ (b + 19) 3 = nI (V 18 3) ∧ σ b 5 = nI (V 18 4) ∧ σ (b + 3) 8 = nI (V 18 5) ∧ σ b 6 = nI (V 18 6) ∧ σ (b + 20) 3 = nI (V 18 7) ∧ σ (b + 3) 9 = nI (V 18 8)
def RcC (b : Nat) (V : Sh) (σ : Mem) : Prop := ∀ k, k < V 18 7 → σ (b + 21) k = nI (V 19 k) ∧ σ (b + 22) k = nI (V 20 k) ∧ σ (b + 23) k = nI (V 21 k)
def RcH (b : Nat) (V : Sh) (σ : Mem) : Prop := ∀ i t, i < V 18 5 → t < V 18 4 → V 18 4 ≤ t + 50 → σ (b + 12) (12 * (t % 51) + i) = nI (V (22 + t) i)
def Rc (b : Nat) (V : Sh) (σ : Mem) : Prop := RcN b V σ ∧ RcP b V σ ∧ RcS b V σ ∧ RcC b V σ ∧ RcH b V σ
/-- how many things each Settings has: never written -/
def Th (σ : Mem) : Prop := ∀ b, SB b → σ (b + 1) 3 = 1 ∧ σ (b + 4) 3 = 12 ∧ σ (b + 14) 3 = 3
/-- nothing outside a show's cells is written, nor its Settings' own numbers -/
def Fr (b : Nat) (σ σ' : Mem) : Prop := (∀ a, ¬ (b ≤ a ∧ a < b + 24) → σ' a = σ a) ∧ σ' (b + 1) = σ (b + 1) ∧ σ' (b + 4) = σ (b + 4) ∧ σ' (b + 14) = σ (b + 14)
theorem Fr.rf (b : Nat) (σ : Mem) : Fr b σ σ := ⟨fun _ _ => rfl, rfl, rfl, rfl⟩
theorem Fr.tr {b : Nat} {σ σ1 σ2 : Mem} (h1 : Fr b σ σ1) (h2 : Fr b σ1 σ2) : Fr b σ σ2 := ⟨fun a h => (h2.1 a h).trans (h1.1 a h), h2.2.1.trans h1.2.1, h2.2.2.1.trans h1.2.2.1, h2.2.2.2.trans h1.2.2.2⟩
/-- only these cells are written -/
def Only (ws : List Nat) (σ σ' : Mem) : Prop := ∀ a, a ∉ ws → σ' a = σ a
theorem Only.tr {w1 w2 : List Nat} {σ σ1 σ2 : Mem} (h1 : Only w1 σ σ1) (h2 : Only w2 σ1 σ2) : Only (w1 ++ w2) σ σ2 := fun a h => by
  rw [List.mem_append] at h
  rw [h2 a (fun q => h (Or.inr q)), h1 a (fun q => h (Or.inl q))]

