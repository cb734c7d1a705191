/-! RAW WORLDS: the judgement JC over any list of cells, for the constructors and the law's first steps -/
def tabI (l : List Nat) (j : Nat) : Int32 := nI (l.getD j 0)
def st0 (k : Nat) : Nat → Int32 := match k with
  | 112 => fun j => nI (loN j)
  | 113 => fun j => nI (hiN j)
  | 114 => fun j => nI (inN j)
  | 115 => fun j => nI (loP j)
  | 116 => fun j => nI (hiP j)
  | 117 => fun j => nI (inP j)
  | 118 => fun j => nI (loS j)
  | 119 => fun j => nI (hiS j)
  | _ => fun j => nI (inS j)
def zn (k : Nat) : String := match k with
  | 112 => "NOZZLE_LEAST"
  | 113 => "NOZZLE_MOST"
  | 114 => "NOZZLE_INITIAL"
  | 115 => "PUMP_LEAST"
  | 116 => "PUMP_MOST"
  | 117 => "PUMP_INITIAL"
  | 118 => "SHOW_LEAST"
  | 119 => "SHOW_MOST"
  | _ => "SHOW_INITIAL"
/-- below 112 the one, from there the other -/
def mx {α : Type} (f g : Nat → α) : Nat → α := fun k => if k < 112 then f k else g k
def Sc (sd : Nat → Nat) (A : Nat → Prop) (U : State) (H : Heap) : Prop := (∀ k, clsOf k = 103 → va_Z "FountainShow" (zn k) "[I" (.ref (sd k)) A U H) ∧ ∀ k, clsOf k = 103 → va_T .int (sd k) (alen k) (fun j => .int (st0 k j)) A U H
theorem Sc.out {sd : Nat → Nat} {A A' : Nat → Prop} {s U : State} {H H1 : Heap} (h : Sc sd A s H) (hvm : s.vm.Alike U.vm) (hq : ∀ a : Nat, a < H.size → ¬ A a → H1[a]? = H[a]?) (hA : ∀ q, A' q → A q) : Sc sd A' U H1 :=
  ⟨fun k hk => va_Z.moved hvm (((h.1 k hk).kept hq).narrow hA), fun k hk => va_T.moved hvm (((h.2 k hk).kept hq).narrow hA)⟩
abbrev CtxC : Type := Program × Launch × Env × Room × State × MethodId × Array Value × List Frame × Method × Code × va_G × (Nat → ClassId) × (Nat → Nat) × (Nat → Prop) × Nat × (State → Prop)
def Yl (X : CtxC) : Launch := match X with | (_, l, _) => l
def Ycl (X : CtxC) : Nat → ClassId := match X with | (_, _, _, _, _, _, _, _, _, _, _, cI, _) => cI
def Ysd (X : CtxC) : Nat → Nat := match X with | (_, _, _, _, _, _, _, _, _, _, _, _, sd, _) => sd
def JC (X : CtxC) (cells slots pc : Nat) (loc : List (Nat × Value)) (stk : List Value) (ws : va_W) : Prop := match X with
  | (p, l, e, R, s, m, args, below, meth, c, D, cI, sd, A, nL, Q) => ∀ (H : Heap) (locs : List Loc) (ls : Array Slot), va_P D vwCl ws H → va_D A ws → va_S A s.heap H locs → lv_has ls nL loc → W p l e R s m args below meth c H locs cells slots Q (F0 m pc ls stk)
def CxC (X : CtxC) (own : String) (cc : ByteArray) (n0 : Nat) (ret : Option FieldType) (fr lo mc ms : Nat) : Prop := match X with
  | (p, _, _, R, s, m, args, _, meth, c, D, cI, sd, A, nL, _) => p.tables.exec = Jvm.exec ∧ c.code = cc ∧ c.maxLocals = nL ∧ n0 = nL ∧ meth.sig.returnType = ret ∧ s.vm.findClass own = some m.cls ∧ (∀ w ∈ lw_g, w.before args s = true) ∧ meth.locks = false ∧ va_K D vwCl (tysI cI) s ∧ Sc sd A s s.heap ∧ (∀ q, s.heap.size ≤ q → A q) ∧ fr ≤ R.frames ∧ lo ≤ R.locals ∧ mc ≤ R.cells ∧ ms ≤ R.slots ∧ Nw s
def inC (X : CtxC) : Prop := match X with | (_, _, _, _, _, _, _, _, meth, _) => meth.name = "<init>"
section JCR
variable {X : CtxC} {own : String} {cc : ByteArray} {n0 : Nat} {ret : Option FieldType} {fr lo mc ms cells slots pc : Nat} {loc : List (Nat × Value)} {stk rest : List Value} {ws : va_W}
theorem JC.aload_n (C : CxC X own cc n0 ret fr lo mc ms) {k : Fin 4} {i : Nat} {x : Nat} (hdg : decode cc pc = .ok (.aload_n k, 1)) (hi : (k : Nat) = i) (q : Nat) (hq : loc[q]? = some (i, .ref x)) (K : JC X cells slots (pc + 1) loc (.ref x :: rest) ws) : JC X cells slots pc loc rest ws := by
  obtain ⟨p, l, e, R, s, m, args, below, meth, c, D, cI, sd, A, nL, Q⟩ := X
  obtain ⟨hx, hb, hml, hn0, hr, hown, hts, hlocks, hK, hsc, hA, hfr, hlo, hmc, hms, hnw⟩ := C
  intro H locs ls hP hD hS hl
  exact lv_aload_n hx hb hdg hi (lv_at hl q hq) (K H locs ls hP hD hS hl)
theorem JC.aload (C : CxC X own cc n0 ret fr lo mc ms) {i : Nat} {x : Nat} (hdg : decode cc pc = .ok (.aload i, 2)) (q : Nat) (hq : loc[q]? = some (i, .ref x)) (K : JC X cells slots (pc + 2) loc (.ref x :: rest) ws) : JC X cells slots pc loc rest ws := by
  obtain ⟨p, l, e, R, s, m, args, below, meth, c, D, cI, sd, A, nL, Q⟩ := X
  obtain ⟨hx, hb, hml, hn0, hr, hown, hts, hlocks, hK, hsc, hA, hfr, hlo, hmc, hms, hnw⟩ := C
  intro H locs ls hP hD hS hl
  exact lv_aload hx hb hdg (lv_at hl q hq) (K H locs ls hP hD hS hl)
theorem JC.iload_n (C : CxC X own cc n0 ret fr lo mc ms) {k : Fin 4} {i : Nat} {x : Int32} (hdg : decode cc pc = .ok (.iload_n k, 1)) (hi : (k : Nat) = i) (q : Nat) (hq : loc[q]? = some (i, .int x)) (K : JC X cells slots (pc + 1) loc (.int x :: rest) ws) : JC X cells slots pc loc rest ws := by
  obtain ⟨p, l, e, R, s, m, args, below, meth, c, D, cI, sd, A, nL, Q⟩ := X
  obtain ⟨hx, hb, hml, hn0, hr, hown, hts, hlocks, hK, hsc, hA, hfr, hlo, hmc, hms, hnw⟩ := C
  intro H locs ls hP hD hS hl
  exact lv_iload_n hx hb hdg hi (lv_at hl q hq) (K H locs ls hP hD hS hl)
theorem JC.iconst (C : CxC X own cc n0 ret fr lo mc ms) {n : Int} {v : Int32} (hdg : decode cc pc = .ok (.iconst n, 1)) (hv : Int32.ofInt n = v) (K : JC X cells slots (pc + 1) loc (.int v :: rest) ws) : JC X cells slots pc loc rest ws := by
  obtain ⟨p, l, e, R, s, m, args, below, meth, c, D, cI, sd, A, nL, Q⟩ := X
  obtain ⟨hx, hb, hml, hn0, hr, hown, hts, hlocks, hK, hsc, hA, hfr, hlo, hmc, hms, hnw⟩ := C
  intro H locs ls hP hD hS hl
  exact lv_iconst hx hb hdg hv (K H locs ls hP hD hS hl)
theorem JC.bipush (C : CxC X own cc n0 ret fr lo mc ms) {n : Int} {v : Int32} (hdg : decode cc pc = .ok (.bipush n, 2)) (hv : (Int8.ofInt n).toInt32 = v) (K : JC X cells slots (pc + 2) loc (.int v :: rest) ws) : JC X cells slots pc loc rest ws := by
  obtain ⟨p, l, e, R, s, m, args, below, meth, c, D, cI, sd, A, nL, Q⟩ := X
  obtain ⟨hx, hb, hml, hn0, hr, hown, hts, hlocks, hK, hsc, hA, hfr, hlo, hmc, hms, hnw⟩ := C
  intro H locs ls hP hD hS hl
  exact lv_bipush hx hb hdg hv (K H locs ls hP hD hS hl)
theorem JC.sipush (C : CxC X own cc n0 ret fr lo mc ms) {n : Int} {v : Int32} (hdg : decode cc pc = .ok (.sipush n, 3)) (hv : (Int16.ofInt n).toInt32 = v) (K : JC X cells slots (pc + 3) loc (.int v :: rest) ws) : JC X cells slots pc loc rest ws := by
  obtain ⟨p, l, e, R, s, m, args, below, meth, c, D, cI, sd, A, nL, Q⟩ := X
  obtain ⟨hx, hb, hml, hn0, hr, hown, hts, hlocks, hK, hsc, hA, hfr, hlo, hmc, hms, hnw⟩ := C
  intro H locs ls hP hD hS hl
  exact lv_sipush hx hb hdg hv (K H locs ls hP hD hS hl)
theorem JC.imul (C : CxC X own cc n0 ret fr lo mc ms) {x y : Int32} (hdg : decode cc pc = .ok (.imul, 1)) (K : JC X cells slots (pc + 1) loc (.int (x * y) :: rest) ws) : JC X cells slots pc loc (.int y :: .int x :: rest) ws := by
  obtain ⟨p, l, e, R, s, m, args, below, meth, c, D, cI, sd, A, nL, Q⟩ := X
  obtain ⟨hx, hb, hml, hn0, hr, hown, hts, hlocks, hK, hsc, hA, hfr, hlo, hmc, hms, hnw⟩ := C
  intro H locs ls hP hD hS hl
  exact lv_imul hx hb hdg (K H locs ls hP hD hS hl)
theorem JC.dup (C : CxC X own cc n0 ret fr lo mc ms) {v : Value} (hdg : decode cc pc = .ok (.dup, 1)) (hv : v.category = 1) (K : JC X cells slots (pc + 1) loc (v :: v :: rest) ws) : JC X cells slots pc loc (v :: rest) ws := by
  obtain ⟨p, l, e, R, s, m, args, below, meth, c, D, cI, sd, A, nL, Q⟩ := X
  obtain ⟨hx, hb, hml, hn0, hr, hown, hts, hlocks, hK, hsc, hA, hfr, hlo, hmc, hms, hnw⟩ := C
  intro H locs ls hP hD hS hl
  exact lv_dup hx hb hdg hv (K H locs ls hP hD hS hl)
theorem JC.astore_n (C : CxC X own cc n0 ret fr lo mc ms) {k : Fin 4} {i : Nat} {x : Nat} {loc' : List (Nat × Value)} (hdg : decode cc pc = .ok (.astore_n k, 1)) (hi : (k : Nat) = i) (hn : i < n0) (hl' : (i, Value.ref x) :: loc.filter (fun q => !(q.1 == i) && !(q.1 + 1 == i && q.2.category == 2)) = loc') (K : JC X cells slots (pc + 1) loc' rest ws) : JC X cells slots pc loc (.ref x :: rest) ws := by
  obtain ⟨p, l, e, R, s, m, args, below, meth, c, D, cI, sd, A, nL, Q⟩ := X
  obtain ⟨hx, hb, hml, hn0, hr, hown, hts, hlocks, hK, hsc, hA, hfr, hlo, hmc, hms, hnw⟩ := C
  subst hn0
  intro H locs ls hP hD hS hl
  exact lv_astore_n hx hb hdg hi hl hn hl' (fun ls hl => K H locs ls hP hD hS hl)
theorem JC.istore_n (C : CxC X own cc n0 ret fr lo mc ms) {k : Fin 4} {i : Nat} {x : Int32} {loc' : List (Nat × Value)} (hdg : decode cc pc = .ok (.istore_n k, 1)) (hi : (k : Nat) = i) (hn : i < n0) (hl' : (i, Value.int x) :: loc.filter (fun q => !(q.1 == i) && !(q.1 + 1 == i && q.2.category == 2)) = loc') (K : JC X cells slots (pc + 1) loc' rest ws) : JC X cells slots pc loc (.int x :: rest) ws := by
  obtain ⟨p, l, e, R, s, m, args, below, meth, c, D, cI, sd, A, nL, Q⟩ := X
  obtain ⟨hx, hb, hml, hn0, hr, hown, hts, hlocks, hK, hsc, hA, hfr, hlo, hmc, hms, hnw⟩ := C
  subst hn0
  intro H locs ls hP hD hS hl
  exact lv_istore_n hx hb hdg hi hl hn hl' (fun ls hl => K H locs ls hP hD hS hl)
theorem JC.objInit (C : CxC X own cc n0 ret fr lo mc ms) {idx a : Nat} (hlink : Cond.methodLink own idx Lib.objectInit ∈ lw_g) (h2 : Cond.instanceMethod Lib.objectInit ∈ lw_g) (h3 : Cond.code Lib.objectInit ⟨#[0xb1]⟩ 1 none ∈ lw_g) (hdg : decode cc pc = .ok (.invokespecial idx, 3)) (hf : 1 ≤ fr) (hlo2 : 12 ≤ lo) (K : JC X cells slots (pc + 3) loc [] ws) : JC X cells slots pc loc [.ref a] ws := by
  obtain ⟨p, l, e, R, s, m, args, below, meth, c, D, cI, sd, A, nL, Q⟩ := X
  obtain ⟨hx, hb, hml, hn0, hr, hown, hts, hlocks, hK, hsc, hA, hfr, hlo, hmc, hms, hnw⟩ := C
  intro H locs ls hP hD hS hl
  refine W.objInit hx hb hown (hts _ hlink) (hts _ h2) (hts _ h3) rfl (by rw [hml]; exact hl.1) rfl hdg (Nat.le_trans hf hfr) (Nat.le_trans hlo2 hlo) ?_
  exact W.eq (g2 := F0 m (pc + 3) ls []) rfl (K H locs ls hP hD hS hl)
theorem cA_is {D : va_G} {cI : Nat → ClassId} {s : State} {cA : ClassId} {ty : FieldType} {c : Nat} (hK : va_K D vwCl (tysI cI ++ [(cA, ty)]) s) (hc : (c = 100 ∧ ty = .int) ∨ (c = 104 ∧ ty = .long) ∨ (c = 102 ∧ ty = .char)) : cA = cI c := by
  have h1 := (hK.2 3 (cA, ty) rfl).2
  rcases hc with ⟨rfl, rfl⟩ | ⟨rfl, rfl⟩ | ⟨rfl, rfl⟩
  · have h2 := (hK.2 0 (cI 100, .int) rfl).2
    exact Option.some.inj (h1.symm.trans h2)
  · have h2 := (hK.2 2 (cI 104, .long) rfl).2
    exact Option.some.inj (h1.symm.trans h2)
  · have h2 := (hK.2 1 (cI 102, .char) rfl).2
    exact Option.some.inj (h1.symm.trans h2)
theorem JC.newa (C : CxC X own cc n0 ret fr lo mc ms) {atype : ArrayType} {ty : FieldType} {cn : Nat} (hc : (cn = 100 ∧ ty = .int) ∨ (cn = 104 ∧ ty = .long) ∨ (cn = 102 ∧ ty = .char)) (hty : newarray.typeOf atype = ty) (harr : Cond.arrayClass (newarray.typeOf atype) ∈ lw_g) {n : Int32} {N : Nat} (ha : ∀ cA : ClassId, vp_cell cA (N, .inl (fun _ => 0)) = arrV cA N (fun _ => defaultValue ty)) (hn : ¬ n < 0) (hN : n.toNatClampNeg = N) (hbytes : N * componentBytes ty ≤ 536870912) (h1 : cells + 1 ≤ mc) (h2 : slots + N ≤ ms) (hdg : decode cc pc = .ok (.newarray atype, 2)) (K : ∀ q : Nat, JC X (cells + 1) (slots + N) (pc + 2) loc (.ref q :: rest) (ws ++ [(q, .inl (Ycl X cn, N, .inl (fun _ => 0)))])) : JC X cells slots pc loc (.int n :: rest) ws := by
  obtain ⟨p, l, e, R, s, m, args, below, meth, c, D, cI, sd, A, nL, Q⟩ := X
  obtain ⟨hx, hb, hml, hn0, hr, hown, hts, hlocks, hK, hsc, hA, hfr, hlo, hmc, hms, hnw⟩ := C
  intro H locs ls hP hD hS hl
  refine va_newa hx hb (hts _ harr) hty hK hP hD hS hA ha hn hN hbytes (Nat.le_trans h1 hmc) (Nat.le_trans h2 hms) hdg (fun q cA H1 hK1 hP1 hD1 hS1 => ?_)
  have hcA := cA_is hK1 hc
  subst hcA
  exact K q H1 locs ls hP1 hD1 hS1 hl
theorem JC.new (C : CxC X own cc n0 ret fr lo mc ms) {ci N idx : Nat} {Cn : String} {T : u_T} {ty : Nat → FieldType} (hk : Kc ci Cn T N ty) (hcl : Cond.classLink own idx Cn ∈ lw_g) (hinst : Cond.instantiable Cn N ∈ lw_g) (hini : Cond.initialized Cn ∈ lw_g) (fs : List Value) (hfs : ∀ j, j < N → defaultValue (ty j) = vp_V fs j) (h1 : cells + 1 ≤ mc) (h2 : slots + N ≤ ms) (hdg : decode cc pc = .ok (.new idx, 3)) (K : ∀ q : Nat, JC X (cells + 1) (slots + N) (pc + 3) loc (.ref q :: rest) (ws ++ [(q, .inr (ci, fs))])) : JC X cells slots pc loc rest ws := by
  obtain ⟨p, l, e, R, s, m, args, below, meth, c, D, cI, sd, A, nL, Q⟩ := X
  obtain ⟨hx, hb, hml, hn0, hr, hown, hts, hlocks, hK, hsc, hA, hfr, hlo, hmc, hms, hnw⟩ := C
  obtain ⟨k1, k2, k3, k4, k5, k6⟩ := hk
  intro H locs ls hP hD hS hl
  exact va_new hx hb hts k3 ty k4 hown (hts _ hcl) (hts _ hinst) (hts _ hini) hK hP hD hS hA k1 hfs (Nat.le_trans h1 hmc) (Nat.le_trans h2 hms) hdg (fun q H1 hP1 hD1 hS1 => K q H1 locs ls hP1 hD1 hS1 hl)
theorem JC.putF (C : CxC X own cc n0 ret fr lo mc ms) (hin : inC X) {ci N idx : Nat} {T : u_T} {ty : Nat → FieldType} (hk : Kc ci own T N ty) (j : Nat) (hj : j < N) (hw : Cond.fieldLink own idx own (T j).2.1 (T j).2.2.1 ∈ lw_g) (href : (T j).1 = own) (hfin : (T j).2.2.2 = true) {v : Value} (hn : narrow (ty j) v = v) (hfit : fits (ty j) v = true) (hdg : decode cc pc = .ok (.putfield idx, 3)) {a : Nat} {fs fs' : List Value} {W0 : va_W} (hl0 : j < fs.length) (hset : fs.set j v = fs') (K : JC X cells slots (pc + 3) loc rest ((a, .inr (ci, fs')) :: W0)) : JC X cells slots pc loc (v :: .ref a :: rest) ((a, .inr (ci, fs)) :: W0) := by
  obtain ⟨p, l, e, R, s, m, args, below, meth, c, D, cI, sd, A, nL, Q⟩ := X
  obtain ⟨hx, hb, hml, hn0, hr, hown, hts, hlocks, hK, hsc, hA, hfr, hlo, hmc, hms, hnw⟩ := C
  obtain ⟨k1, k2, k3, k4, k5, k6⟩ := hk
  subst hset
  intro H locs ls hP hD hS hl
  exact va_putF hx hb hts k3 ty k4 k5 hown hK hP hD hS 0 rfl k1 j hj (hts _ hw) (fun x hx => by rw [← href]; exact hx) hfin hin href (k4 j hj) hn hfit hl0 hdg (fun H1 locs1 hP1 hD1 hS1 => K H1 locs1 ls hP1 hD1 hS1 hl)
theorem JC.put (C : CxC X own cc n0 ret fr lo mc ms) {ci N idx : Nat} {T : u_T} {ty : Nat → FieldType} (hk : Kc ci own T N ty) (j : Nat) (hj : j < N) (hw : Cond.fieldLink own idx own (T j).2.1 (T j).2.2.1 ∈ lw_g) (href : (T j).1 = own) (hfin : (T j).2.2.2 = false) {v : Value} (hn : narrow (ty j) v = v) (hfit : fits (ty j) v = true) (hdg : decode cc pc = .ok (.putfield idx, 3)) {a : Nat} {fs fs' : List Value} {W0 : va_W} (hl0 : j < fs.length) (hset : fs.set j v = fs') (K : JC X cells slots (pc + 3) loc rest ((a, .inr (ci, fs')) :: W0)) : JC X cells slots pc loc (v :: .ref a :: rest) ((a, .inr (ci, fs)) :: W0) := by
  obtain ⟨p, l, e, R, s, m, args, below, meth, c, D, cI, sd, A, nL, Q⟩ := X
  obtain ⟨hx, hb, hml, hn0, hr, hown, hts, hlocks, hK, hsc, hA, hfr, hlo, hmc, hms, hnw⟩ := C
  obtain ⟨k1, k2, k3, k4, k5, k6⟩ := hk
  subst hset
  intro H locs ls hP hD hS hl
  exact va_put hx hb hts k3 ty k4 k5 hown hK hP hD hS 0 rfl k1 j hj (hts _ hw) (fun x hx => by rw [← href]; exact hx) hfin (k4 j hj) hn hfit hl0 hdg (fun H1 locs1 hP1 hD1 hS1 => K H1 locs1 ls hP1 hD1 hS1 hl)
theorem JC.get (C : CxC X own cc n0 ret fr lo mc ms) {ci N idx : Nat} {T : u_T} {ty : Nat → FieldType} (hk : Kc ci own T N ty) (j : Nat) (hj : j < N) (hw : Cond.fieldLink own idx own (T j).2.1 (T j).2.2.1 ∈ lw_g) (href : (T j).1 = own) {v : Value} (hdg : decode cc pc = .ok (.getfield idx, 3)) {a : Nat} {fs : List Value} {W0 : va_W} (hv : fs[j]? = some v) (K : JC X cells slots (pc + 3) loc (v :: rest) ((a, .inr (ci, fs)) :: W0)) : JC X cells slots pc loc (.ref a :: rest) ((a, .inr (ci, fs)) :: W0) := by
  obtain ⟨p, l, e, R, s, m, args, below, meth, c, D, cI, sd, A, nL, Q⟩ := X
  obtain ⟨hx, hb, hml, hn0, hr, hown, hts, hlocks, hK, hsc, hA, hfr, hlo, hmc, hms, hnw⟩ := C
  obtain ⟨k1, k2, k3, k4, k5, k6⟩ := hk
  intro H locs ls hP hD hS hl
  exact va_get (D := D) hx hb hts k3 hown hK hP 0 rfl k1 j hj (hts _ hw) (fun x hx => by rw [← href]; exact hx) hv hdg (K H locs ls hP hD hS hl)
theorem JC.slen (C : CxC X own cc n0 ret fr lo mc ms) {k : Nat} (hok : clsOf k = 103) (hdg : decode cc pc = .ok (.arraylength, 1)) (K : JC X cells slots (pc + 1) loc (.int (Int32.ofNat (alen k)) :: rest) ws) : JC X cells slots pc loc (.ref (Ysd X k) :: rest) ws := by
  obtain ⟨p, l, e, R, s, m, args, below, meth, c, D, cI, sd, A, nL, Q⟩ := X
  obtain ⟨hx, hb, hml, hn0, hr, hown, hts, hlocks, hK, hsc, hA, hfr, hlo, hmc, hms, hnw⟩ := C
  intro H locs ls hP hD hS hl
  exact va_tlen hx hb (hsc.2 k hok) hS rfl hdg (K H locs ls hP hD hS hl)
theorem JC.getsN (C : CxC X own cc n0 ret fr lo mc ms) {k idx : Nat} (hok : clsOf k = 103) {nm : String} (hnm : zn k = nm) (hw : Cond.fieldLinkNest own idx "FountainShow" nm "[I" "FountainShow" ∈ lw_n) (hdg : decode cc pc = .ok (.getstatic idx, 3)) (K : JC X cells slots (pc + 3) loc (.ref (Ysd X k) :: rest) ws) : JC X cells slots pc loc rest ws := by
  obtain ⟨p, l, e, R, s, m, args, below, meth, c, D, cI, sd, A, nL, Q⟩ := X
  obtain ⟨hx, hb, hml, hn0, hr, hown, hts, hlocks, hK, hsc, hA, hfr, hlo, hmc, hms, hnw⟩ := C
  subst hnm
  intro H locs ls hP hD hS hl
  exact va_getsN hx hb (hsc.1 k hok) hS hown (va_Nw.use rfl (hnw _ hw)) (fun _ h => h) hdg (K H locs ls hP hD hS hl)
theorem JC.mmax (C : CxC X own cc n0 ret fr lo mc ms) {idx : Nat} (hlink : Cond.methodLink own idx Lib.Math.max.name ∈ lw_g) (h2 : Cond.static Lib.Math.max.name ∈ lw_g) (h3 : Cond.initialized "java/lang/Math" ∈ lw_g) (h4 : Cond.code Lib.Math.max.name Lib.Math.max.code 2 (some .int) ∈ lw_g) (hcat : (rest.map fun v => v.category).sum + 13 ≤ lo) (hf1 : 1 ≤ fr) {x y : Int32} (hc1 : cells ≤ mc) (hs1 : slots ≤ ms) (hdg : decode cc pc = .ok (.invokestatic idx, 3)) (K : JC X cells slots (pc + 3) loc (.int (if x < y then y else x) :: rest) ws) : JC X cells slots pc loc (.int y :: .int x :: rest) ws := by
  obtain ⟨p, l, e, R, s, m, args, below, meth, c, D, cI, sd, A, nL, Q⟩ := X
  obtain ⟨hx, hb, hml, hn0, hr, hown, hts, hlocks, hK, hsc, hA, hfr, hlo, hmc, hms, hnw⟩ := C
  intro H locs ls hP hD hS hl
  exact va_mmax hx hb (hml.trans hl.1.symm) hown (hts _ hlink) (hts _ h2) (hts _ h3) (hts _ h4) (Nat.le_trans hf1 hfr) (Nat.le_trans hcat hlo) (Nat.le_trans hc1 hmc) (Nat.le_trans hs1 hms) hdg (K H locs ls hP hD hS hl)
end JCR
