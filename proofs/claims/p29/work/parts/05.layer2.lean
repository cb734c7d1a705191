/-! names, checks and binds of the functions; the rows over them -/
def nm {α τ : Type} (e : α) (f : α → Option τ) : Option τ := f e
theorem nm_some {α τ : Type} {e : α} {f : α → Option τ} {t : τ} (h : nm e f = some t) : ∃ v, v = e ∧ f v = some t := ⟨e, rfl, h⟩
def bnd {α τ : Type} (c : Option α) (f : α → Option τ) : Option τ := match c with
  | none => none
  | some a => f a
theorem bnd_some {α τ : Type} {c : Option α} {f : α → Option τ} {t : τ} (h : bnd c f = some t) : ∃ v, c = some v ∧ f v = some t := by
  cases c with
  | none => cases h
  | some a => exact ⟨a, rfl, h⟩
def bnd2 {α β τ : Type} (c : Option (α × β)) (f : α → β → Option τ) : Option τ := match c with
  | none => none
  | some a => f a.1 a.2
theorem bnd2_some {α β τ : Type} {c : Option (α × β)} {f : α → β → Option τ} {t : τ} (h : bnd2 c f = some t) : ∃ v w, c = some (v, w) ∧ f v w = some t := by
  cases c with
  | none => cases h
  | some a => exact ⟨a.1, a.2, rfl, h⟩
def exi {R S : Type} (o : Option R) : Option (R ⊕ S) := match o with
  | none => none
  | some r => some (.inl r)
theorem exi_some {R S : Type} {o : Option R} {t : R ⊕ S} (h : exi o = some t) : ∃ r, o = some r ∧ t = .inl r := by
  cases o with
  | none => cases h
  | some r => cases h; exact ⟨r, rfl, rfl⟩
def mtc {τ : Type} (r : Option Nat) (A : Option τ) (B : Nat → Option τ) : Option τ := match r with
  | none => A
  | some c => B c
theorem mtc_none {τ : Type} {A : Option τ} {B : Nat → Option τ} {t : τ} (h : mtc none A B = some t) : A = some t := h
theorem mtc_some {τ : Type} {A : Option τ} {B : Nat → Option τ} {q : Nat} {t : τ} (h : mtc (some q) A B = some t) : B q = some t := h
def bit (v : Int32) : Bool := decide (v = 0 ∨ v = 1)
theorem bit_nar {v : Int32} (h : bit v = true) : narrow .boolean (.int v) = .int v := by
  rcases of_decide_eq_true h with e | e <;> subst e <;> rfl
theorem bit_fit {v : Int32} (h : bit v = true) : fits .boolean (.int v) = true := by
  rcases of_decide_eq_true h with e | e <;> subst e <;> rfl
def gst (σ : Mem) (k j : Nat) (v : Int32) : Mem := gput σ k (upd (σ k) j v)
def mxI (x y : Int32) : Int32 := if x < y then y else x
def mnI (x y : Int32) : Int32 := if y < x then y else x
def irm (x y : Int32) : Int32 := x - x / y * y
section JR2
variable {X : Ctx} {own : String} {cc : ByteArray} {n0 : Nat} {ret : Option FieldType} {fr lo pc : Nat} {loc : List (Nat × Value)} {stk rest : List Value} {σ : Mem}
theorem J.nmI {τ : Type} {e : Int32} {f : Int32 → Option τ} {t : τ} (hf : nm e f = some t) (K : ∀ v, f v = some t → J X pc loc (.int v :: rest) σ) : J X pc loc (.int e :: rest) σ := K e hf
theorem J.nmJ {τ : Type} {e : Int64} {f : Int64 → Option τ} {t : τ} (hf : nm e f = some t) (K : ∀ v, f v = some t → J X pc loc (.long v :: rest) σ) : J X pc loc (.long e :: rest) σ := K e hf
theorem J.putM (C : Cx X own cc n0 ret fr lo) {ci N index : Nat} {Cn ref : String} {T : u_T} {ty : Nat → FieldType} (hk : Kc ci Cn T N ty) {k : Nat} (hok : Ok (Xks X) k ci) (j : Nat) (hj : (fpat ci)[j]? = some false) (hw : Cond.fieldLink own index ref (T j).2.1 (T j).2.2.1 ∈ lw_g) (href : (T j).1 = ref) (hfin : (T j).2.2.2 = false) {v : Int32} (hn : narrow (ty j) (.int v) = .int v) (hfit : fits (ty j) (.int v) = true) {τ : Type} {f : Mem → Option τ} {t : τ} (hf : nm (gst σ k j v) f = some t) (hdg : decode cc pc = .ok (.putfield index, 3)) (K : ∀ σ', f σ' = some t → J X (pc + 3) loc rest σ') : J X pc loc (.int v :: .ref (Xad X k) :: rest) σ :=
  J.putI C hk hok j hj hw href hfin hn hfit hdg (K _ hf)
theorem J.iastM (C : Cx X own cc n0 ret fr lo) {τ : Type} {f : Mem → Option τ} {t : τ} {k : Nat} (hok : Ok (Xks X) k 100) {i x : Int32} (hf : chk (ckI i (alen k)) (nm (gst σ k (ix i) x) f) = some t) (hdg : decode cc pc = .ok (.iastore, 1)) (K : ∀ σ', f σ' = some t → J X (pc + 1) loc rest σ') : J X pc loc (.int x :: .int i :: .ref (Xad X k) :: rest) σ :=
  J.iast C hok hf hdg (fun h => K _ h)
theorem J.castM (C : Cx X own cc n0 ret fr lo) {τ : Type} {f : Mem → Option τ} {t : τ} {k : Nat} (hok : Ok (Xks X) k 102) {i x : Int32} (hf : chk (ckI i (alen k)) (nm (gst σ k (ix i) (vp_nar .char x)) f) = some t) (hdg : decode cc pc = .ok (.castore, 1)) (K : ∀ σ', f σ' = some t → J X (pc + 1) loc rest σ') : J X pc loc (.int x :: .int i :: .ref (Xad X k) :: rest) σ :=
  J.cast C hok hf hdg (fun h => K _ h)
theorem J.acopyM (C : Cx X own cc n0 ret fr lo) {τ : Type} {f : Mem → Option τ} {t : τ} {idx : Nat} (hlink : Cond.methodLink own idx arraycopyName ∈ lw_g) (h2 : Cond.native arraycopyName ∈ lw_g) (h3 : Cond.static arraycopyName ∈ lw_g) (h4 : Cond.initialized "java/lang/System" ∈ lw_g) (hcat : (rest.map fun v => v.category).sum + 18 ≤ lo) (hf1 : 1 ≤ fr) {a b : Nat} (ha : Ok (Xks X) a 100) (hbk : Ok (Xks X) b 100) {sp dp n : Int32} (hf : chk (ckC sp dp n (alen a) (alen b)) (nm (gput σ b (va_cpy (σ a) (σ b) (ix sp) (ix dp) (ix n))) f) = some t) (hdg : decode cc pc = .ok (.invokestatic idx, 3))
    (K : ∀ σ', f σ' = some t → J X (pc + 3) loc rest σ') : J X pc loc (.int n :: .int dp :: .ref (Xad X b) :: .int sp :: .ref (Xad X a) :: rest) σ := J.acopy C hlink h2 h3 h4 hcat hf1 ha hbk hf hdg (fun h => K _ h)
theorem J.scopyM (C : Cx X own cc n0 ret fr lo) {τ : Type} {f : Mem → Option τ} {t : τ} {idx : Nat} (hlink : Cond.methodLink own idx arraycopyName ∈ lw_g) (h2 : Cond.native arraycopyName ∈ lw_g) (h3 : Cond.static arraycopyName ∈ lw_g) (h4 : Cond.initialized "java/lang/System" ∈ lw_g) (hcat : (rest.map fun v => v.category).sum + 18 ≤ lo) (hf1 : 1 ≤ fr) {a b : Nat} (ha : clsOf a = 103) (hbk : Ok (Xks X) b 100) {sp dp n : Int32} (hf : chk (ckC sp dp n (alen a) (alen b)) (nm (gput σ b (va_cpy (σ a) (σ b) (ix sp) (ix dp) (ix n))) f) = some t) (hdg : decode cc pc = .ok (.invokestatic idx, 3))
    (K : ∀ σ', f σ' = some t → J X (pc + 3) loc rest σ') : J X pc loc (.int n :: .int dp :: .ref (Xad X b) :: .int sp :: .ref (Xad X a) :: rest) σ := J.scopy C hlink h2 h3 h4 hcat hf1 ha hbk hf hdg (fun h => K _ h)
theorem J.mmaxI (C : Cx X own cc n0 ret fr lo) {idx : Nat} (hlink : Cond.methodLink own idx Lib.Math.max.name ∈ lw_g) (h2 : Cond.static Lib.Math.max.name ∈ lw_g) (h3 : Cond.initialized "java/lang/Math" ∈ lw_g) (h4 : Cond.code Lib.Math.max.name Lib.Math.max.code 2 (some .int) ∈ lw_g) (hcat : (rest.map fun v => v.category).sum + 13 ≤ lo) (hf1 : 1 ≤ fr) {x y : Int32} (hdg : decode cc pc = .ok (.invokestatic idx, 3)) (K : J X (pc + 3) loc (.int (mxI x y) :: rest) σ) : J X pc loc (.int y :: .int x :: rest) σ := J.mmax C hlink h2 h3 h4 hcat hf1 hdg K
theorem J.mminI (C : Cx X own cc n0 ret fr lo) {idx : Nat} (hlink : Cond.methodLink own idx Lib.Math.min.name ∈ lw_g) (h2 : Cond.static Lib.Math.min.name ∈ lw_g) (h3 : Cond.initialized "java/lang/Math" ∈ lw_g) (h4 : Cond.code Lib.Math.min.name Lib.Math.min.code 2 (some .int) ∈ lw_g) (hcat : (rest.map fun v => v.category).sum + 13 ≤ lo) (hf1 : 1 ≤ fr) {x y : Int32} (hdg : decode cc pc = .ok (.invokestatic idx, 3)) (K : J X (pc + 3) loc (.int (mnI x y) :: rest) σ) : J X pc loc (.int y :: .int x :: rest) σ := J.mmin C hlink h2 h3 h4 hcat hf1 hdg K
theorem J.iremM (C : Cx X own cc n0 ret fr lo) {x y : Int32} (hdg : decode cc pc = .ok (.irem, 1)) (hne : ¬ y = 0) (K : J X (pc + 1) loc (.int (irm x y) :: rest) σ) : J X pc loc (.int y :: .int x :: rest) σ := J.irem C hdg hne K
theorem J.iretM (C : Cx X own cc n0 (some .int) fr lo) {v : Int32} {t0 : Int32 × Mem} (hR : Rt X (some (.int t0.1)) t0.2) (h : (v, σ) = t0) (hdg : decode cc pc = .ok (.ireturn, 1)) : J X pc loc [.int v] σ := by
  subst h
  exact J.iret C hR rfl rfl hdg
theorem J.iretP (C : Cx X own cc n0 (some .int) fr lo) {v t0 : Int32} (hR : Rt X (some (.int t0)) σ) (h : v = t0) (hdg : decode cc pc = .ok (.ireturn, 1)) : J X pc loc [.int v] σ := J.iret C hR h rfl hdg
theorem J.zretM {rt : FieldType} (C : Cx X own cc n0 (some rt) fr lo) {v : Int32} (hn : narrow rt (.int v) = .int v) {t0 : Int32 × Mem} (hR : Rt X (some (.int t0.1)) t0.2) (h : (v, σ) = t0) (hdg : decode cc pc = .ok (.ireturn, 1)) : J X pc loc [.int v] σ := by
  subst h
  exact J.zret C hn hR rfl rfl hdg
theorem J.zretP {rt : FieldType} (C : Cx X own cc n0 (some rt) fr lo) {v t0 : Int32} (hn : narrow rt (.int v) = .int v) (hR : Rt X (some (.int t0)) σ) (h : v = t0) (hdg : decode cc pc = .ok (.ireturn, 1)) : J X pc loc [.int v] σ := J.zret C hn hR h rfl hdg
theorem J.lretP (C : Cx X own cc n0 (some .long) fr lo) {v t0 : Int64} (hR : Rt X (some (.long t0)) σ) (h : v = t0) (hdg : decode cc pc = .ok (.lreturn, 1)) : J X pc loc [.long v] σ := J.lret C hR h rfl hdg
theorem J.vretM (C : Cx X own cc n0 none fr lo) {t0 : Mem} (hR : Rt X none t0) (h : σ = t0) (hdg : decode cc pc = .ok (.return_, 1)) : J X pc loc [] σ := J.vret C hR h hdg
theorem J.vretP (C : Cx X own cc n0 none fr lo) {t0 : Unit} (hR : Rt X none σ) (_ : () = t0) (hdg : decode cc pc = .ok (.return_, 1)) : J X pc loc [] σ := J.vret C hR rfl hdg
theorem J.aretV {nt : String} (C : Cx X own cc n0 (some (.object nt)) fr lo) {v : Value} (hv : v = .null ∨ ∃ a, v = .ref a) (hR : Rt X (some v) σ) (hdg : decode cc pc = .ok (.areturn, 1)) : J X pc loc [v] σ := by
  obtain ⟨p, l, e, R, s, m, args, below, meth, c, D, cI, ad, A0, ks, nL, mc, ms, Q⟩ := X
  obtain ⟨hx, hb, hml, hn0, hr, hown, hts, hlocks, hK, hcl, hfr, hlo, hmc, hms, hnw⟩ := C
  intro H locs ls hP hD hT hS hl
  show W _ _ _ _ _ _ _ _ _ _ _ _ _ _ Q _
  rw [show Q = _ from hR]
  exact W.aret hx hb hr (Or.inl ⟨_, rfl⟩) hv (fun t ht hW => ⟨rfl, ⟨va_K.moved hW.alike hK, by rw [ht]; exact hP, hD, hT.out hS ht hW.alike⟩, hS.F ht⟩) hS.2.2 hdg hlocks
theorem J.aretN {nt : String} (C : Cx X own cc n0 (some (.object nt)) fr lo) {t0 : Option Nat} (hR : Rt X (some (va_rf (Option.map (Xad X) t0))) σ) (h : none = t0) (hdg : decode cc pc = .ok (.areturn, 1)) : J X pc loc [.null] σ := by
  subst h
  exact J.aretV C (Or.inl rfl) hR hdg
theorem J.aretS {nt : String} (C : Cx X own cc n0 (some (.object nt)) fr lo) {t0 : Option Nat} {k : Nat} (hR : Rt X (some (va_rf (Option.map (Xad X) t0))) σ) (h : some k = t0) (hdg : decode cc pc = .ok (.areturn, 1)) : J X pc loc [.ref (Xad X k)] σ := by
  subst h
  exact J.aretV C (Or.inr ⟨_, rfl⟩) hR hdg
theorem J.aconst_null (C : Cx X own cc n0 ret fr lo) (hdg : decode cc pc = .ok (.aconst_null, 1)) (K : J X (pc + 1) loc (.null :: rest) σ) : J X pc loc rest σ := by
  obtain ⟨p, l, e, R, s, m, args, below, meth, c, D, cI, ad, A0, ks, nL, mc, ms, Q⟩ := X
  obtain ⟨hx, hb, hml, hn0, hr, hown, hts, hlocks, hK, hcl, hfr, hlo, hmc, hms, hnw⟩ := C
  intro H locs ls hP hD hT hS hl
  exact lv_null hx hb hdg (K H locs ls hP hD hT hS hl)
theorem J.astoreN_n (C : Cx X own cc n0 ret fr lo) {k : Fin 4} {i : Nat} {loc' : List (Nat × Value)} (hdg : decode cc pc = .ok (.astore_n k, 1)) (hi : (k : Nat) = i) (hn : i < n0) (hl' : (i, Value.null) :: loc.filter (fun q => !(q.1 == i) && !(q.1 + 1 == i && q.2.category == 2)) = loc') (K : J X (pc + 1) loc' rest σ) : J X pc loc (.null :: rest) σ := by
  obtain ⟨p, l, e, R, s, m, args, below, meth, c, D, cI, ad, A0, ks, nL, mc, ms, Q⟩ := X
  obtain ⟨hx, hb, hml, hn0, hr, hown, hts, hlocks, hK, hcl, hfr, hlo, hmc, hms, hnw⟩ := C
  subst hn0
  intro H locs ls hP hD hT hS hl
  exact lv_astore_nN hx hb hdg hi hl hn hl' (fun ls hl => K H locs ls hP hD hT hS hl)
theorem J.aloadN_n (C : Cx X own cc n0 ret fr lo) {k : Fin 4} {i : Nat} (hdg : decode cc pc = .ok (.aload_n k, 1)) (hi : (k : Nat) = i) (q : Nat) (hq : loc[q]? = some (i, .null)) (K : J X (pc + 1) loc (.null :: rest) σ) : J X pc loc rest σ := by
  obtain ⟨p, l, e, R, s, m, args, below, meth, c, D, cI, ad, A0, ks, nL, mc, ms, Q⟩ := X
  obtain ⟨hx, hb, hml, hn0, hr, hown, hts, hlocks, hK, hcl, hfr, hlo, hmc, hms, hnw⟩ := C
  intro H locs ls hP hD hT hS hl
  exact lv_aload_nN hx hb hdg hi (lv_at hl q hq) (K H locs ls hP hD hT hS hl)
theorem J.ifnonnullN (C : Cx X own cc n0 ret fr lo) {off : Int} (hdg : decode cc pc = .ok (.ifnonnull off, 3)) (K : J X (pc + 3) loc rest σ) : J X pc loc (.null :: rest) σ := by
  obtain ⟨p, l, e, R, s, m, args, below, meth, c, D, cI, ad, A0, ks, nL, mc, ms, Q⟩ := X
  obtain ⟨hx, hb, hml, hn0, hr, hown, hts, hlocks, hK, hcl, hfr, hlo, hmc, hms, hnw⟩ := C
  intro H locs ls hP hD hT hS hl
  exact lv_ifnonnullN hx hb hdg (K H locs ls hP hD hT hS hl)
theorem J.look2 (C : Cx X own cc n0 ret fr lo) {dflt : Int} {ps : Array (Int × Int)} {len : Nat} {x : Int32} (hdg : decode cc pc = .ok (.lookupswitch dflt ps, len)) {a0 a1 o0 o1 : Int} {v0 v1 : Int32} (hps : ps = #[(a0, o0), (a1, o1)]) (hlt : a0 < a1) (h0 : v0.toInt = a0) (h1 : v1.toInt = a1) {tgt0 tgt1 tgtd : Nat} (e0 : (pc : Int) + o0 = (tgt0 : Int)) (e1 : (pc : Int) + o1 = (tgt1 : Int)) (ed : (pc : Int) + dflt = (tgtd : Int)) {τ : Type} {A B E t : τ} (hf : (if x = v0 then A else (if x = v1 then B else E)) = t)
    (k0 : A = t → J X tgt0 loc rest σ) (k1 : B = t → J X tgt1 loc rest σ) (kd : E = t → J X tgtd loc rest σ) : J X pc loc (.int x :: rest) σ := by
  subst hps
  have hp : ((#[(a0, o0), (a1, o1)] : Array (Int × Int)).toList.zip ((#[(a0, o0), (a1, o1)] : Array (Int × Int)).toList.drop 1)).all (fun (a, next) => a.1 < next.1) = true := by simp [hlt]
  by_cases g0 : x = v0
  · rw [if_pos g0] at hf
    subst g0
    refine J.lookup C hdg hp (off := o0) ?_ e0 (k0 hf)
    show Op.lookupswitch.offset [(a0, o0), (a1, o1)] dflt x.toInt = o0
    rw [Op.lookupswitch.offset_cons, if_pos h0.symm]
  · rw [if_neg g0] at hf
    by_cases g1 : x = v1
    · rw [if_pos g1] at hf
      subst g1
      refine J.lookup C hdg hp (off := o1) ?_ e1 (k1 hf)
      show Op.lookupswitch.offset [(a0, o0), (a1, o1)] dflt x.toInt = o1
      rw [lv_osw g0 h0, Op.lookupswitch.offset_cons, if_pos h1.symm]
    · rw [if_neg g1] at hf
      refine J.lookup C hdg hp (off := dflt) ?_ ed (kd hf)
      show Op.lookupswitch.offset [(a0, o0), (a1, o1)] dflt x.toInt = dflt
      rw [lv_osw g0 h0, lv_osw g1 h1]
      rfl
end JR2
