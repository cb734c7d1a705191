/-! THE LAW: its end -/
theorem law_end {p : Program} {l : Launch} {e : Env} {s : State} {m : MethodId} {below : List Frame} {meth : Method} {c : Code} {b mc ms : Nat} {D : va_G} {cI : Nat → ClassId} {ad : Nat → Nat} {ks : List Nat} {d : Drawn} {loc : List (Nat × Value)} {σ : Mem} (hd : s.drawn.sameBut d lw_cs) (hmc : mc ≤ 600000) (hms : ms ≤ 7302250) (C : Cx (p, l, e, room_1, s.setDrawn d, m, #[Value.ref b], below, meth, c, D, cI, ad, (fun q : Nat => s.heap.size ≤ q), ks, 8, mc, ms, lw_Z below #[Value.ref b] s) RL code 8 ret 9 326) : J (p, l, e, room_1, s.setDrawn d, m, #[Value.ref b], below, meth, c, D, cI, ad, (fun q : Nat => s.heap.size ≤ q), ks, 8, mc, ms, lw_Z below #[Value.ref b] s) 935 loc [.int 1] σ := by
  obtain ⟨hx, hb, hml, hn0, hr, hown, hts, hlocks, hK, hcl, hfr, hlo, hmc', hms', hnw⟩ := C
  intro H locs ls hP hD hT hS hl
  refine va_forget (fun q hq => hS.2.2 q hq) ?_
  refine W.widen hmc hms ?_
  exact lw_ret hd hx hb hr hlocks dL_935
