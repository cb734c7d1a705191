/-! THE LAW'S START: what the tables and the Statement give -/
theorem nw_of {b : Nat} {s : State} (hts : ∀ w ∈ lw_tbl, w.before #[Value.ref b] s = true) : Nw s := fun w hw => by
  have h1 := hts w (List.mem_filter.mp hw).1
  have h2 := (List.mem_filter.mp hw).2
  refine va_tabs (A := #[Value.ref b]) (A' := #[]) (u := s) (U := s) ?_ rfl h1
  cases w <;> first | rfl | (simp [nestWord] at h2)
theorem known_all {b : Nat} {s : State} (htg : ∀ w ∈ lw_g, w.before #[Value.ref b] s = true) : ∃ (D : va_G) (cI : Nat → ClassId), va_K D vwCl (tysI cI) s := by
  obtain ⟨c0, i0, h0⟩ := u_known (C := RX0) (T := TX0) (N := 4) (n := 4) htg kcX0.2.2.1 (htg _ tn_X0)
  obtain ⟨c1, i1, h1⟩ := u_known (C := RX1) (T := TX1) (N := 10) (n := 10) htg kcX1.2.2.1 (htg _ tn_X1)
  obtain ⟨c2, i2, h2⟩ := u_known (C := RX2) (T := TX2) (N := 7) (n := 7) htg kcX2.2.2.1 (htg _ tn_X2)
  obtain ⟨c3, i3, h3⟩ := u_known (C := RX3) (T := TX3) (N := 4) (n := 4) htg kcX3.2.2.1 (htg _ tn_X3)
  obtain ⟨c4, i4, h4⟩ := u_known (C := RX4) (T := TX4) (N := 5) (n := 5) htg kcX4.2.2.1 (htg _ tn_X4)
  obtain ⟨c5, i5, h5⟩ := u_known (C := RX5) (T := TX5) (N := 7) (n := 7) htg kcX5.2.2.1 (htg _ tn_X5)
  obtain ⟨c6, i6, h6⟩ := u_known (C := RX6) (T := TX6) (N := 2) (n := 2) htg kcX6.2.2.1 (htg _ tn_X6)
  obtain ⟨c7, i7, h7⟩ := u_known (C := RX7) (T := TX7) (N := 4) (n := 4) htg kcX7.2.2.1 (htg _ tn_X7)
  obtain ⟨c8, i8, h8⟩ := u_known (C := RX8) (T := TX8) (N := 5) (n := 5) htg kcX8.2.2.1 (htg _ tn_X8)
  have hKn : ∀ c : Nat, ∃ d : ClassId × (Nat → Nat), ∀ q : vw_C, vwCl[c]? = some q → u_Kn s q.1 q.2.1 q.2.2 d.1 d.2 := by
    intro c
    match c with
    | 0 => exact ⟨(c0, i0), fun q hq => by cases hq; exact h0⟩
    | 1 => exact ⟨(c1, i1), fun q hq => by cases hq; exact h1⟩
    | 2 => exact ⟨(c2, i2), fun q hq => by cases hq; exact h2⟩
    | 3 => exact ⟨(c3, i3), fun q hq => by cases hq; exact h3⟩
    | 4 => exact ⟨(c4, i4), fun q hq => by cases hq; exact h4⟩
    | 5 => exact ⟨(c5, i5), fun q hq => by cases hq; exact h5⟩
    | 6 => exact ⟨(c6, i6), fun q hq => by cases hq; exact h6⟩
    | 7 => exact ⟨(c7, i7), fun q hq => by cases hq; exact h7⟩
    | 8 => exact ⟨(c8, i8), fun q hq => by cases hq; exact h8⟩
    | n + 9 => exact ⟨(c0, i0), fun q hq => by simp [vwCl] at hq⟩
  obtain ⟨dd, hdd⟩ := Classical.axiomOfChoice hKn
  obtain ⟨cA, kA, compA, fA, gA, eA⟩ := Cond.arrayClass_spec (htg _ ta_int)
  obtain ⟨cB, kB, compB, fB, gB, eB⟩ := Cond.arrayClass_spec (htg _ ta_long)
  obtain ⟨cC, kC, compC, fC, gC, eC⟩ := Cond.arrayClass_spec (htg _ ta_char)
  refine ⟨(fun c => (dd c).1, fun c => (dd c).2), (fun k => if k = 100 then cA else if k = 104 then cB else cC), fun c q hq => hdd c q hq, fun k q hq => ?_⟩
  match k, hq with
  | 0, hq => cases hq; exact ⟨fun n z => ⟨fun k h => (by cases h), kA, gA, compA, eA⟩, fA⟩
  | 2, hq => cases hq; exact ⟨fun n z => ⟨fun k h => (by cases h), kB, gB, compB, eB⟩, fB⟩
  | 1, hq => cases hq; exact ⟨fun n z => ⟨fun k h => (by cases h), kC, gC, compC, eC⟩, fC⟩
  | n + 3, hq => simp [tysI] at hq
theorem stat_of {b k : Nat} {s : State} {A : Nat → Prop} (hf : ∀ c ∈ flatC (Jvm.Cond.and given_1 narrow_1), c.before #[Value.ref b] s = true) (hN : alen k < 2 ^ 31) (harr : Cond.arrayOf (.static "FountainShow" (zn k) "[I") .int ∈ flatC (Jvm.Cond.and given_1 narrow_1)) (hlen : Cond.eq (.length (.static "FountainShow" (zn k) "[I")) (.int (Int32.ofNat (alen k))) ∈ flatC (Jvm.Cond.and given_1 narrow_1)) (hel : ∀ j, j < alen k → Cond.eq (.elem (.static "FountainShow" (zn k) "[I") (.int (Int32.ofNat j))) (.int (st0 k j)) ∈ flatC (Jvm.Cond.and given_1 narrow_1)) (hA : ∀ a : Nat, a < s.heap.size → ¬ A a) (hl : (Cond.laysStatic "FountainShow" (zn k) "[I").before #[Value.ref b] s = true) (hini : (Cond.initialized "FountainShow").before #[Value.ref b] s = true) : ∃ t : Nat, va_Z "FountainShow" (zn k) "[I" (.ref t) A s s.heap ∧ va_T .int t (alen k) (fun j => .int (st0 k j)) A s s.heap := by
  obtain ⟨t, ht, hT⟩ := va_Tof (f := fun j => .int (st0 k j)) hN (hf _ harr) (va_eqt (hf _ hlen)) (fun j hj => va_eqt (hf _ (hel j hj))) hA
  exact ⟨t, va_Zof hl hini ht hA, hT⟩
theorem stat_k {k : Nat} (h : clsOf k = 103) : k = 112 ∨ k = 113 ∨ k = 114 ∨ k = 115 ∨ k = 116 ∨ k = 117 ∨ k = 118 ∨ k = 119 ∨ k = 120 := by
  have h1 := stat_ge h
  rcases Nat.lt_or_ge k 121 with h2 | h2
  · omega
  · exfalso
    unfold clsOf at h
    rw [List.getD_eq_getElem?_getD, List.getElem?_eq_none (show clsL.length ≤ k from h2)] at h
    exact absurd h (by decide)
theorem stat_all {b : Nat} {s : State} {A : Nat → Prop} (hts : ∀ w ∈ lw_tbl, w.before #[Value.ref b] s = true) (hgv : (Jvm.Cond.and given_1 narrow_1).before #[Value.ref b] s = true) (hA : ∀ a : Nat, a < s.heap.size → ¬ A a) : ∃ sd : Nat → Nat, Sc sd A s s.heap := by
  have hf := flat_of_before _ hgv
  have hini := hts (.initialized "FountainShow") (by decide +kernel)
  have H : ∀ k : Nat, ∃ t : Nat, clsOf k = 103 → va_Z "FountainShow" (zn k) "[I" (.ref t) A s s.heap ∧ va_T .int t (alen k) (fun j => .int (st0 k j)) A s s.heap := by
    intro k
    by_cases h : clsOf k = 103
    · have key : ∃ t : Nat, va_Z "FountainShow" (zn k) "[I" (.ref t) A s s.heap ∧ va_T .int t (alen k) (fun j => .int (st0 k j)) A s s.heap := by
        rcases stat_k h with rfl | rfl | rfl | rfl | rfl | rfl | rfl | rfl | rfl
        · exact stat_of hf (by decide) (by decide +kernel) (by decide +kernel) (by decide +kernel) hA (hts _ (by decide +kernel)) hini
        · exact stat_of hf (by decide) (by decide +kernel) (by decide +kernel) (by decide +kernel) hA (hts _ (by decide +kernel)) hini
        · exact stat_of hf (by decide) (by decide +kernel) (by decide +kernel) (by decide +kernel) hA (hts _ (by decide +kernel)) hini
        · exact stat_of hf (by decide) (by decide +kernel) (by decide +kernel) (by decide +kernel) hA (hts _ (by decide +kernel)) hini
        · exact stat_of hf (by decide) (by decide +kernel) (by decide +kernel) (by decide +kernel) hA (hts _ (by decide +kernel)) hini
        · exact stat_of hf (by decide) (by decide +kernel) (by decide +kernel) (by decide +kernel) hA (hts _ (by decide +kernel)) hini
        · exact stat_of hf (by decide) (by decide +kernel) (by decide +kernel) (by decide +kernel) hA (hts _ (by decide +kernel)) hini
        · exact stat_of hf (by decide) (by decide +kernel) (by decide +kernel) (by decide +kernel) hA (hts _ (by decide +kernel)) hini
        · exact stat_of hf (by decide) (by decide +kernel) (by decide +kernel) (by decide +kernel) hA (hts _ (by decide +kernel)) hini
      obtain ⟨t, ht⟩ := key
      exact ⟨t, fun _ => ht⟩
    · exact ⟨0, fun z => (h z).elim⟩
  obtain ⟨sd, hsd⟩ := Classical.axiomOfChoice H
  exact ⟨sd, fun k hk => (hsd k hk).1, fun k hk => (hsd k hk).2⟩
