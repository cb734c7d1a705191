/-! J OVER RECORDS OF DRAWS -/
def Xd (X : Ctx) (d : Drawn) : Ctx := match X with
  | (p, l, e, R, s, m, args, below, meth, c, D, cI, ad, A0, ks, nL, mc, ms, Q) => (p, l, e, R, s.setDrawn d, m, args, below, meth, c, D, cI, ad, A0, ks, nL, mc, ms, Q)
def Dr (X : Ctx) (d : Drawn) : Prop := match X with
  | (_, _, _, _, s, _) => s.drawn.sameBut d lw_cs
theorem Xd_ad (X : Ctx) (d : Drawn) : Xad (Xd X d) = Xad X := by
  obtain ⟨p, l, e, R, s, m, args, below, meth, c, D, cI, ad, A0, ks, nL, mc, ms, Q⟩ := X
  rfl
theorem Xd_ks (X : Ctx) (d : Drawn) : Xks (Xd X d) = Xks X := by
  obtain ⟨p, l, e, R, s, m, args, below, meth, c, D, cI, ad, A0, ks, nL, mc, ms, Q⟩ := X
  rfl
theorem J.i2f {X : Ctx} {own : String} {cc : ByteArray} {n0 : Nat} {ret0 : Option FieldType} {fr lo pc : Nat} {loc : List (Nat × Value)} {rest : List Value} {σ : Mem} (C : Cx X own cc n0 ret0 fr lo) {x : Int32} (hdg : decode cc pc = .ok (.i2f, 1)) (K : J X (pc + 1) loc (.float (FP.i2f x) :: rest) σ) : J X pc loc (.int x :: rest) σ := by
  obtain ⟨p, l, e, R, s, m, args, below, meth, c, D, cI, ad, A0, ks, nL, mc, ms, Q⟩ := X
  obtain ⟨hx, hb, hml, hn0, hr, hown, hts, hlocks, hK, hcl, hfr, hlo, hmc, hms, hnw⟩ := C
  intro H locs ls hP hD hT hS hl
  exact lv_i2f hx hb hdg (K H locs ls hP hD hT hS hl)
theorem J.i2d {X : Ctx} {own : String} {cc : ByteArray} {n0 : Nat} {ret0 : Option FieldType} {fr lo pc : Nat} {loc : List (Nat × Value)} {rest : List Value} {σ : Mem} (C : Cx X own cc n0 ret0 fr lo) {x : Int32} (hdg : decode cc pc = .ok (.i2d, 1)) (K : J X (pc + 1) loc (.double (FP.i2d x) :: rest) σ) : J X pc loc (.int x :: rest) σ := by
  obtain ⟨p, l, e, R, s, m, args, below, meth, c, D, cI, ad, A0, ks, nL, mc, ms, Q⟩ := X
  obtain ⟨hx, hb, hml, hn0, hr, hown, hts, hlocks, hK, hcl, hfr, hlo, hmc, hms, hnw⟩ := C
  intro H locs ls hP hD hT hS hl
  exact lv_i2d hx hb hdg (K H locs ls hP hD hT hS hl)
theorem J.fconst0 {X : Ctx} {own : String} {cc : ByteArray} {n0 : Nat} {ret0 : Option FieldType} {fr lo pc : Nat} {loc : List (Nat × Value)} {rest : List Value} {σ : Mem} (C : Cx X own cc n0 ret0 fr lo) (hdg : decode cc pc = .ok (.fconst 0, 1)) (K : J X (pc + 1) loc (.float FP.fconst0 :: rest) σ) : J X pc loc rest σ := by
  obtain ⟨p, l, e, R, s, m, args, below, meth, c, D, cI, ad, A0, ks, nL, mc, ms, Q⟩ := X
  obtain ⟨hx, hb, hml, hn0, hr, hown, hts, hlocks, hK, hcl, hfr, hlo, hmc, hms, hnw⟩ := C
  intro H locs ls hP hD hT hS hl
  exact lv_fconst0 hx hb hdg (K H locs ls hP hD hT hS hl)
theorem J.dconst0 {X : Ctx} {own : String} {cc : ByteArray} {n0 : Nat} {ret0 : Option FieldType} {fr lo pc : Nat} {loc : List (Nat × Value)} {rest : List Value} {σ : Mem} (C : Cx X own cc n0 ret0 fr lo) (hdg : decode cc pc = .ok (.dconst 0, 1)) (K : J X (pc + 1) loc (.double FP.dconst0 :: rest) σ) : J X pc loc rest σ := by
  obtain ⟨p, l, e, R, s, m, args, below, meth, c, D, cI, ad, A0, ks, nL, mc, ms, Q⟩ := X
  obtain ⟨hx, hb, hml, hn0, hr, hown, hts, hlocks, hK, hcl, hfr, hlo, hmc, hms, hnw⟩ := C
  intro H locs ls hP hD hT hS hl
  exact lv_dconst0 hx hb hdg (K H locs ls hP hD hT hS hl)
theorem J.dcmp {X : Ctx} {own : String} {cc : ByteArray} {n0 : Nat} {ret0 : Option FieldType} {fr lo pc : Nat} {loc : List (Nat × Value)} {rest : List Value} {σ : Mem} (C : Cx X own cc n0 ret0 fr lo) {x y : UInt64} {op : CmpOp} (hdg : decode cc pc = .ok (.dcmp op, 1)) (K : J X (pc + 1) loc (.int (Op.cmpValue (FP.dcmp x y) op) :: rest) σ) : J X pc loc (.double y :: .double x :: rest) σ := by
  obtain ⟨p, l, e, R, s, m, args, below, meth, c, D, cI, ad, A0, ks, nL, mc, ms, Q⟩ := X
  obtain ⟨hx, hb, hml, hn0, hr, hown, hts, hlocks, hK, hcl, hfr, hlo, hmc, hms, hnw⟩ := C
  intro H locs ls hP hD hT hS hl
  exact lv_dcmp hx hb hdg (K H locs ls hP hD hT hS hl)
theorem J.fdivD {X : Ctx} {d0 : Drawn} {own : String} {cc : ByteArray} {n0 : Nat} {ret0 : Option FieldType} {fr lo pc : Nat} {loc : List (Nat × Value)} {rest : List Value} {σ : Mem} (C : Cx (Xd X d0) own cc n0 ret0 fr lo) (hd0 : Dr X d0) {x y : UInt32} (hdg : decode cc pc = .ok (.fdiv, 1)) (K : ∀ r d1, alike32 r (FP.fdiv x y) = true → Dr X d1 → J (Xd X d1) (pc + 1) loc (.float r :: rest) σ) : J (Xd X d0) pc loc (.float y :: .float x :: rest) σ := by
  obtain ⟨p, l, e, R, s, m, args, below, meth, c, D, cI, ad, A0, ks, nL, mc, ms, Q⟩ := X
  obtain ⟨hx, hb, hml, hn0, hr, hown, hts, hlocks, hK, hcl, hfr, hlo, hmc, hms, hnw⟩ := C
  intro H locs ls hP hD hT hS hl
  exact lv_fdiv_any hd0 lw_bits hx hb hdg (fun r d1 hal hd1 => K r d1 hal hd1 H locs ls hP hD hT hS hl)
theorem J.ddivD {X : Ctx} {d0 : Drawn} {own : String} {cc : ByteArray} {n0 : Nat} {ret0 : Option FieldType} {fr lo pc : Nat} {loc : List (Nat × Value)} {rest : List Value} {σ : Mem} (C : Cx (Xd X d0) own cc n0 ret0 fr lo) (hd0 : Dr X d0) {x y : UInt64} (hdg : decode cc pc = .ok (.ddiv, 1)) (K : ∀ r d1, alike64 r (FP.ddiv x y) = true → Dr X d1 → J (Xd X d1) (pc + 1) loc (.double r :: rest) σ) : J (Xd X d0) pc loc (.double y :: .double x :: rest) σ := by
  obtain ⟨p, l, e, R, s, m, args, below, meth, c, D, cI, ad, A0, ks, nL, mc, ms, Q⟩ := X
  obtain ⟨hx, hb, hml, hn0, hr, hown, hts, hlocks, hK, hcl, hfr, hlo, hmc, hms, hnw⟩ := C
  intro H locs ls hP hD hT hS hl
  exact lv_ddiv_any hd0 lw_bits hx hb hdg (fun r d1 hal hd1 => K r d1 hal hd1 H locs ls hP hD hT hS hl)
theorem J.f2dD {X : Ctx} {d0 : Drawn} {own : String} {cc : ByteArray} {n0 : Nat} {ret0 : Option FieldType} {fr lo pc : Nat} {loc : List (Nat × Value)} {rest : List Value} {σ : Mem} (C : Cx (Xd X d0) own cc n0 ret0 fr lo) (hd0 : Dr X d0) {x : UInt32} (hdg : decode cc pc = .ok (.f2d, 1)) (K : ∀ r d1, alike64 r (FP.f2d x) = true → Dr X d1 → J (Xd X d1) (pc + 1) loc (.double r :: rest) σ) : J (Xd X d0) pc loc (.float x :: rest) σ := by
  obtain ⟨p, l, e, R, s, m, args, below, meth, c, D, cI, ad, A0, ks, nL, mc, ms, Q⟩ := X
  obtain ⟨hx, hb, hml, hn0, hr, hown, hts, hlocks, hK, hcl, hfr, hlo, hmc, hms, hnw⟩ := C
  intro H locs ls hP hD hT hS hl
  exact lv_f2d_any hd0 lw_bits hx hb hdg (fun r d1 hal hd1 => K r d1 hal hd1 H locs ls hP hD hT hS hl)
theorem Cx.drawn {X : Ctx} {d0 d1 : Drawn} {own : String} {cc : ByteArray} {n0 : Nat} {ret0 : Option FieldType} {fr lo : Nat} (C : Cx (Xd X d0) own cc n0 ret0 fr lo) : Cx (Xd X d1) own cc n0 ret0 fr lo := by
  obtain ⟨p, l, e, R, s, m, args, below, meth, c, D, cI, ad, A0, ks, nL, mc, ms, Q⟩ := X
  obtain ⟨hx, hb, hml, hn0, hr, hown, hts, hlocks, hK, hcl, hfr, hlo, hmc, hms, hnw⟩ := C
  exact ⟨hx, hb, hml, hn0, hr, hown, dr_words hts d1, hlocks, hK, hcl, hfr, hlo, hmc, hms, Nw.same (u := s.setDrawn d0) (U := s.setDrawn d1) rfl hnw⟩
theorem J.dstore {X : Ctx} {own : String} {cc : ByteArray} {n0 : Nat} {ret0 : Option FieldType} {fr lo pc : Nat} {loc loc' : List (Nat × Value)} {rest : List Value} {σ : Mem} (C : Cx X own cc n0 ret0 fr lo) {i : Nat} {x : UInt64} (hdg : decode cc pc = .ok (.dstore i, 2)) (hn : i + 1 < n0) (hl' : (i, Value.double x) :: loc.filter (fun q => !(q.1 == i) && (!(q.1 == i + 1) && !(q.1 + 1 == i && q.2.category == 2))) = loc') (K : J X (pc + 2) loc' rest σ) : J X pc loc (.double x :: rest) σ := by
  obtain ⟨p, l, e, R, s, m, args, below, meth, c, D, cI, ad, A0, ks, nL, mc, ms, Q⟩ := X
  obtain ⟨hx, hb, hml, hn0, hr, hown, hts, hlocks, hK, hcl, hfr, hlo, hmc, hms, hnw⟩ := C
  subst hn0
  intro H locs ls hP hD hT hS hl
  exact lv_dstore hx hb hdg hl hn hl' (fun ls' hl2 => K H locs ls' hP hD hT hS hl2)
theorem J.ldcf {X : Ctx} {own : String} {cc : ByteArray} {n0 : Nat} {ret0 : Option FieldType} {fr lo pc : Nat} {loc : List (Nat × Value)} {rest : List Value} {σ : Mem} (C : Cx X own cc n0 ret0 fr lo) {i : Nat} {v : UInt32} (hdg : decode cc pc = .ok (.ldc i, 2)) (hw : Cond.constantFloat own i v ∈ lw_g) (K : J X (pc + 2) loc (.float v :: rest) σ) : J X pc loc rest σ := by
  obtain ⟨p, l, e, R, s, m, args, below, meth, c, D, cI, ad, A0, ks, nL, mc, ms, Q⟩ := X
  obtain ⟨hx, hb, hml, hn0, hr, hown, hts, hlocks, hK, hcl, hfr, hlo, hmc, hms, hnw⟩ := C
  intro H locs ls hP hD hT hS hl
  exact lv_ldcf hx hb hown (hts _ hw) hdg (K H locs ls hP hD hT hS hl)
