/-! THE WHOLE -/
theorem low_105 : ∀ k, k ∈ List.range 105 → k < 105 := fun k hk => List.mem_range.mp hk
theorem whole_start {p : Program} {e : Env} {s : State} {m : MethodId} {below : List Frame} {meth : Method} {c : Code} (l : Launch) (hflags : l.flags = flags0) {b L : Nat} {xs : Nat → Int32} (hL : L ≤ 260) (C0 : lw_At p s m meth c b L xs) : W p l e room_1 s m #[Value.ref b] below meth c s.heap [] 0 0 (lw_Z below #[Value.ref b] s) (entryFrame m ([Value.ref b] : List Value).toArray 6) := by
  obtain ⟨hx, hb, hr, hml, hown, hts, hX, hbl, hlocks, hgv⟩ := id C0
  have htg : ∀ w ∈ lw_g, w.before #[Value.ref b] s = true := fun w hw => hts w (List.mem_filter.mp hw).1
  have hnw : Nw s := nw_of hts
  obtain ⟨D, cI, hK⟩ := known_all htg
  obtain ⟨sd, hsc⟩ := stat_all (A := fun q : Nat => s.heap.size ≤ q) hts hgv (fun a ha h => absurd h (Nat.not_le.mpr ha))
  have hl := lv_entry ([.ref b]) (n := 6) (Nat.le_of_ble_eq_true rfl)
  rw [lg_entry_eq]
  generalize (lg_sl ([.ref b]) ++ List.replicate (6 - (lg_sl ([.ref b])).length) Slot.unset).toArray = ls at hl ⊢
  have hl : lv_has ls 6 [(0, .ref b)] := hl
  have C : CxC (p, l, e, room_1, s, m, #[Value.ref b], below, meth, c, D, cI, sd, (fun q : Nat => s.heap.size ≤ q), 6, lw_Z below #[Value.ref b] s) RL code 6 ret 8 207 600000 7302249 := ⟨hx, hb, hml, rfl, hr, hown, htg, hlocks, hK, hsc, fun _ h => h, Nat.le_of_ble_eq_true rfl, Nat.le_of_ble_eq_true rfl, Nat.le_of_ble_eq_true rfl, Nat.le_of_ble_eq_true rfl, hnw⟩
  have key : JC (p, l, e, room_1, s, m, #[Value.ref b], below, meth, c, D, cI, sd, (fun q : Nat => s.heap.size ≤ q), 6, lw_Z below #[Value.ref b] s) 0 0 0 [(0, .ref b)] [] [] := by
    refine start_walk C (fun ad σ hF => ?_)
    obtain ⟨t0, hf, h1⟩ := law_ok (n := 2100) (w := 62) (first_lv hF) (by decide) (by decide) (cellV L xs)
    have CJ := CxC.toJ (ad := ad) (ks := List.range 105) (cells := 105) (slots := 4284) C cl_all (Nat.le_of_ble_eq_true rfl) (Nat.le_of_ble_eq_true rfl)
    refine m_L_law (sb := b) (SL := L) (xs := xs) hL rfl hf _ CJ cl_all low_105 ⟨hX, hbl, Nat.not_le.mpr hbl⟩ ⟨show 0 ∈ List.range 105 by decide, rfl⟩ ⟨h1, fun q hq => hq, by decide, by decide, rfl, rfl, ?_⟩
    intro pc H locs ls hS hdg
    refine va_forget (fun q hq => hS.2.2 q hq) ?_
    exact W.base (lw_ret (Drawn.sameBut.refl _ _) hx hb hr hlocks hdg)
  exact key s.heap [] ls (fun k q h => by simp at h) ⟨fun i j p q h => by simp at h, fun k q h => by simp at h⟩ va_S.rf hl
