/-! THE WHOLE -/
theorem whole_start {p : Program} {e : Env} {s : State} {m : MethodId} {below : List Frame} {meth : Method} {c : Code} (l : Launch) (hflags : l.flags = flags0) {b L : Nat} {xs : Nat → Int32} (hL : L ≤ 2048) (C0 : lw_At p s m meth c b L xs) : W p l e room_1 s m #[Value.ref b] below meth c s.heap [] 0 0 (lw_Z below #[Value.ref b] s) (entryFrame m ([Value.ref b] : List Value).toArray 8) := by
  obtain ⟨hx, hb, hr, hml, hown, hts, hX, hbl, hlocks, hgv⟩ := id C0
  have htg : ∀ w ∈ lw_g, w.before #[Value.ref b] s = true := fun w hw => hts w (List.mem_filter.mp hw).1
  have hnw : Nw s := nw_of hts
  obtain ⟨D, cI, hK⟩ := known_all htg
  obtain ⟨sd, hsc⟩ := stat_all (A := fun q : Nat => s.heap.size ≤ q) hts hgv (fun a ha h => absurd h (Nat.not_le.mpr ha))
  have hl := lv_entry ([.ref b]) (n := 8) (Nat.le_of_ble_eq_true rfl)
  rw [lg_entry_eq]
  generalize (lg_sl ([.ref b]) ++ List.replicate (8 - (lg_sl ([.ref b])).length) Slot.unset).toArray = ls at hl ⊢
  have hl : lv_has ls 8 [(0, .ref b)] := hl
  have C : CxC (p, l, e, room_1, s, m, #[Value.ref b], below, meth, c, D, cI, sd, (fun q : Nat => s.heap.size ≤ q), 8, lw_Z below #[Value.ref b] s) RL code 8 ret 9 326 600000 7302250 := ⟨hx, hb, hml, rfl, hr, hown, htg, hlocks, hK, hsc, fun _ h => h, Nat.le_of_ble_eq_true rfl, Nat.le_of_ble_eq_true rfl, Nat.le_of_ble_eq_true rfl, Nat.le_of_ble_eq_true rfl, hnw⟩
  have key : JC (p, l, e, room_1, s, m, #[Value.ref b], below, meth, c, D, cI, sd, (fun q : Nat => s.heap.size ≤ q), 8, lw_Z below #[Value.ref b] s) 0 0 0 [(0, .ref b)] [] [] := by
    refine start_walk C (fun ad σ hF => ?_)
    have CJ := CxC.toJ (ad := ad) (cells := 112) (slots := 8920) C cl_all (Nat.le_of_ble_eq_true rfl) (Nat.le_of_ble_eq_true rfl)
    have CC : ∀ d, Dr (toJ (p, l, e, room_1, s, m, #[Value.ref b], below, meth, c, D, cI, sd, (fun q : Nat => s.heap.size ≤ q), 8, lw_Z below #[Value.ref b] s) ad (List.range 112) 112 8920) d → Cx (Xd (toJ (p, l, e, room_1, s, m, #[Value.ref b], below, meth, c, D, cI, sd, (fun q : Nat => s.heap.size ≤ q), 8, lw_Z below #[Value.ref b] s) ad (List.range 112) 112 8920) d) RL code 8 ret 9 326 := fun d _ => Cx.drawn (d0 := s.drawn) (d1 := d) CJ
    have SS : ∀ d, Dr (toJ (p, l, e, room_1, s, m, #[Value.ref b], below, meth, c, D, cI, sd, (fun q : Nat => s.heap.size ≤ q), 8, lw_Z below #[Value.ref b] s) ad (List.range 112) 112 8920) d → Sx (Xd (toJ (p, l, e, room_1, s, m, #[Value.ref b], below, meth, c, D, cI, sd, (fun q : Nat => s.heap.size ≤ q), 8, lw_Z below #[Value.ref b] s) ad (List.range 112) 112 8920) d) b L xs := fun d _ => ⟨hX, hbl, Nat.not_le.mpr hbl⟩
    have H0 : Ok (Xks (toJ (p, l, e, room_1, s, m, #[Value.ref b], below, meth, c, D, cI, sd, (fun q : Nat => s.heap.size ≤ q), 8, lw_Z below #[Value.ref b] s) ad (List.range 112) 112 8920)) 0 8 := ⟨show 0 ∈ List.range 112 by decide, rfl⟩
    have H9 : Ok (Xks (toJ (p, l, e, room_1, s, m, #[Value.ref b], below, meth, c, D, cI, sd, (fun q : Nat => s.heap.size ≤ q), 8, lw_Z below #[Value.ref b] s) ad (List.range 112) 112 8920)) 105 9 := ⟨show 105 ∈ List.range 112 by decide, rfl⟩
    have hd0 : Dr (toJ (p, l, e, room_1, s, m, #[Value.ref b], below, meth, c, D, cI, sd, (fun q : Nat => s.heap.size ≤ q), 8, lw_Z below #[Value.ref b] s) ad (List.range 112) 112 8920) s.drawn := Drawn.sameBut.refl _ _
    exact law_loop (Y := Xd (toJ (p, l, e, room_1, s, m, #[Value.ref b], below, meth, c, D, cI, sd, (fun q : Nat => s.heap.size ≤ q), 8, lw_Z below #[Value.ref b] s) ad (List.range 112) 112 8920)) (G := Dr (toJ (p, l, e, room_1, s, m, #[Value.ref b], below, meth, c, D, cI, sd, (fun q : Nat => s.heap.size ≤ q), 8, lw_Z below #[Value.ref b] s) ad (List.range 112) 112 8920)) CC SS (fun _ _ => H0) (fun _ _ => H9) hL
      (fun pc hpc d τ i hd hI hi KK => by
        rcases hpc with rfl | rfl
        · exact law_14 CC SS hd H0 H9 hI hi hL (fun d1 hd1 => KK d1 τ hd1 hI)
        · exact law_15 CC hd H0 H9 hI (fun d1 hd1 => KK d1 τ hd1 hI))
      (fun d τ i hd hI => law_end hd (Nat.le_of_ble_eq_true rfl) (Nat.le_of_ble_eq_true rfl) (CC d hd))
      L 0 s.drawn (mx σ st0) (by omega) (by omega) hd0 (first_inv hF)
  exact key s.heap [] ls (fun k q h => by simp at h) ⟨fun i j p q h => by simp at h, fun k q h => by simp at h⟩ va_S.rf hl
