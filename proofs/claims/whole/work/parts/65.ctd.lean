/-! CONTRACTS THAT MAY DRAW: of a method that answers a double (a float), writes nothing -/
def CtDd (l : Launch) (y : MethodName) (cc : ByteArray) (nL fr lo : Nat) (ok : List Nat → Prop) (as : (Nat → Nat) → List Value) (σ : Mem) (post : UInt64 → Prop) : Prop :=
  ∀ (D : va_G) (cI : Nat → ClassId) (ad : Nat → Nat) (A0 : Nat → Prop) (ks : List Nat), Cl ks → ok ks → MetD lw_cs l y (Cond.code y cc nL (some .double) :: lw_g) ({ frames := fr, cells := 0, slots := 0, locals := lo }) (va_Pc (as ad) (fun U => Wx D cI ad A0 ks σ U ∧ Nw U)) (va_Qd (fun (r : UInt64) (_ : Unit) => post r) (fun _ U => Wx D cI ad A0 ks σ U) A0) 0 0 A0
def CtDf (l : Launch) (y : MethodName) (cc : ByteArray) (nL fr lo : Nat) (ok : List Nat → Prop) (as : (Nat → Nat) → List Value) (σ : Mem) (post : UInt32 → Prop) : Prop :=
  ∀ (D : va_G) (cI : Nat → ClassId) (ad : Nat → Nat) (A0 : Nat → Prop) (ks : List Nat), Cl ks → ok ks → MetD lw_cs l y (Cond.code y cc nL (some .float) :: lw_g) ({ frames := fr, cells := 0, slots := 0, locals := lo }) (va_Pc (as ad) (fun U => Wx D cI ad A0 ks σ U ∧ Nw U)) (va_Qf (fun (r : UInt32) (_ : Unit) => post r) (fun _ U => Wx D cI ad A0 ks σ U) A0) 0 0 A0
def RtDd (X : Ctx) (post : UInt64 → Prop) (σ : Mem) : Prop := match X with
  | (_, _, _, _, s, _, args, below, _, _, D, cI, ad, A0, ks, _, mc, ms, Q) => Q = MQD lw_cs below (va_Qd (fun (r : UInt64) (_ : Unit) => post r) (fun _ U => Wx D cI ad A0 ks σ U) A0) args s mc ms A0
def RtDf (X : Ctx) (post : UInt32 → Prop) (σ : Mem) : Prop := match X with
  | (_, _, _, _, s, _, args, below, _, _, D, cI, ad, A0, ks, _, mc, ms, Q) => Q = MQD lw_cs below (va_Qf (fun (r : UInt32) (_ : Unit) => post r) (fun _ U => Wx D cI ad A0 ks σ U) A0) args s mc ms A0
theorem CtDd.of {l : Launch} {y : MethodName} {cc : ByteArray} {nL fr lo : Nat} {ok : List Nat → Prop} {as : (Nat → Nat) → List Value} {σ : Mem} {post : UInt64 → Prop} (hy : plainName y.cls = true) (hlen : ∀ ad, (lg_sl (as ad)).length ≤ nL)
    (body : ∀ (X : Ctx) (d0 : Drawn), Cx (Xd X d0) y.cls cc nL (some .double) fr lo → Dr X d0 → Xl X = l → ok (Xks X) → Cl (Xks X) → RtDd X post σ → J (Xd X d0) 0 (lv_args 0 (as (Xad X))) [] σ) : CtDd l y cc nL fr lo ok as σ post := by
  intro D cI ad A0 ks hcl hok
  refine MetD.ofW (cc := cc) (maxL := nL) (ret := some .double) hy rfl ?_
  intro p e s m args below meth c s₁ B hml hv hd0
  obtain ⟨rfl, ⟨hK, hP, hD, hT⟩, hnw⟩ := hv
  have hts := atoms_spec (ws := Cond.code y cc nL (some .double) :: lw_g) B.pre
  have K := body (p, l, e, (headSpec (Cond.code y cc nL (some .double) :: lw_g) ({ frames := fr, cells := 0, slots := 0, locals := lo })).room, s, m, (as ad).toArray, below, meth, c, D, cI, ad, A0, ks, nL, 0, 0, MQD lw_cs below (va_Qd (fun (r : UInt64) (_ : Unit) => post r) (fun _ U => Wx D cI ad A0 ks σ U) A0) (as ad).toArray s 0 0 A0) s.drawn
    ⟨B.exec, B.bytes, hml, rfl, B.returns, findClass_of_methodNamed B.named, dr_words (fun w hw => hts w (List.mem_cons_of_mem _ hw)) s.drawn, B.notSynchronized, hK, hcl, Nat.le_refl _, Nat.le_refl _, Nat.le_refl _, Nat.le_refl _, Nw.same (u := s) (U := s.setDrawn s.drawn) rfl hnw⟩ hd0 rfl hok hcl rfl
  have hl := lv_entry (as ad) (n := nL) (hlen ad)
  rw [lg_entry_eq]
  exact K s.heap [] _ hP hD hT va_S.rf hl
theorem CtDf.of {l : Launch} {y : MethodName} {cc : ByteArray} {nL fr lo : Nat} {ok : List Nat → Prop} {as : (Nat → Nat) → List Value} {σ : Mem} {post : UInt32 → Prop} (hy : plainName y.cls = true) (hlen : ∀ ad, (lg_sl (as ad)).length ≤ nL)
    (body : ∀ (X : Ctx) (d0 : Drawn), Cx (Xd X d0) y.cls cc nL (some .float) fr lo → Dr X d0 → Xl X = l → ok (Xks X) → Cl (Xks X) → RtDf X post σ → J (Xd X d0) 0 (lv_args 0 (as (Xad X))) [] σ) : CtDf l y cc nL fr lo ok as σ post := by
  intro D cI ad A0 ks hcl hok
  refine MetD.ofW (cc := cc) (maxL := nL) (ret := some .float) hy rfl ?_
  intro p e s m args below meth c s₁ B hml hv hd0
  obtain ⟨rfl, ⟨hK, hP, hD, hT⟩, hnw⟩ := hv
  have hts := atoms_spec (ws := Cond.code y cc nL (some .float) :: lw_g) B.pre
  have K := body (p, l, e, (headSpec (Cond.code y cc nL (some .float) :: lw_g) ({ frames := fr, cells := 0, slots := 0, locals := lo })).room, s, m, (as ad).toArray, below, meth, c, D, cI, ad, A0, ks, nL, 0, 0, MQD lw_cs below (va_Qf (fun (r : UInt32) (_ : Unit) => post r) (fun _ U => Wx D cI ad A0 ks σ U) A0) (as ad).toArray s 0 0 A0) s.drawn
    ⟨B.exec, B.bytes, hml, rfl, B.returns, findClass_of_methodNamed B.named, dr_words (fun w hw => hts w (List.mem_cons_of_mem _ hw)) s.drawn, B.notSynchronized, hK, hcl, Nat.le_refl _, Nat.le_refl _, Nat.le_refl _, Nat.le_refl _, Nw.same (u := s) (U := s.setDrawn s.drawn) rfl hnw⟩ hd0 rfl hok hcl rfl
  have hl := lv_entry (as ad) (n := nL) (hlen ad)
  rw [lg_entry_eq]
  exact K s.heap [] _ hP hD hT va_S.rf hl
theorem J.dretD {X : Ctx} {d0 : Drawn} {own : String} {cc : ByteArray} {n0 : Nat} {fr lo pc : Nat} {loc : List (Nat × Value)} {σ : Mem} (C : Cx (Xd X d0) own cc n0 (some .double) fr lo) (hd0 : Dr X d0) {post : UInt64 → Prop} (hR : RtDd X post σ) {v : UInt64} (hv : post v) (hdg : decode cc pc = .ok (.dreturn, 1)) : J (Xd X d0) pc loc [.double v] σ := by
  obtain ⟨p, l, e, R, s, m, args, below, meth, c, D, cI, ad, A0, ks, nL, mc, ms, Q⟩ := X
  obtain ⟨hx, hb, hml, hn0, hr, hown, hts, hlocks, hK, hcl, hfr, hlo, hmc, hms, hnw⟩ := C
  intro H locs ls hP hD hT hS hl
  show W _ _ _ _ _ _ _ _ _ _ _ _ _ _ Q _
  rw [show Q = _ from hR]
  refine W.endD hd0 ?_
  exact W.dret hx hb hr (fun t ht hW => ⟨⟨v, (), rfl, hv, ⟨va_K.moved hW.alike hK, by rw [ht]; exact hP, hD, hT.out hS ht hW.alike⟩⟩, hS.F ht⟩) hS.2.2 hdg hlocks
theorem J.fretD {X : Ctx} {d0 : Drawn} {own : String} {cc : ByteArray} {n0 : Nat} {fr lo pc : Nat} {loc : List (Nat × Value)} {σ : Mem} (C : Cx (Xd X d0) own cc n0 (some .float) fr lo) (hd0 : Dr X d0) {post : UInt32 → Prop} (hR : RtDf X post σ) {v : UInt32} (hv : post v) (hdg : decode cc pc = .ok (.freturn, 1)) : J (Xd X d0) pc loc [.float v] σ := by
  obtain ⟨p, l, e, R, s, m, args, below, meth, c, D, cI, ad, A0, ks, nL, mc, ms, Q⟩ := X
  obtain ⟨hx, hb, hml, hn0, hr, hown, hts, hlocks, hK, hcl, hfr, hlo, hmc, hms, hnw⟩ := C
  intro H locs ls hP hD hT hS hl
  show W _ _ _ _ _ _ _ _ _ _ _ _ _ _ Q _
  rw [show Q = _ from hR]
  refine W.endD hd0 ?_
  exact W.fret hx hb hr (fun t ht hW => ⟨⟨v, (), rfl, hv, ⟨va_K.moved hW.alike hK, by rw [ht]; exact hP, hD, hT.out hS ht hW.alike⟩⟩, hS.F ht⟩) hS.2.2 hdg hlocks
