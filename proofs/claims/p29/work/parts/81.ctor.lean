/-! CONTRACTS OF CONSTRUCTORS: from one raw object to the list of its cells -/
def PreC (D : va_G) (cI : Nat → ClassId) (sd : Nat → Nat) (h0 sz ci : Nat) (fs0 : List Value) (U : State) : Prop := U.heap.size = sz ∧ va_P D vwCl [(h0, .inr (ci, fs0))] U.heap ∧ va_K D vwCl (tysI cI) U ∧ va_D (fun _ => True) [(h0, .inr (ci, fs0))] ∧ Sc sd (va_A [(h0, .inr (ci, fs0))] sz) U U.heap ∧ Nw U
def CtC (l : Launch) (y : MethodName) (cc : ByteArray) (nL fr lo mc ms ci : Nat) (fs0 : List Value) (as : (Nat → Nat) → List Value) (B : (Nat → ClassId) → (Nat → Nat) → Nat → va_W → Prop) : Prop :=
  ∀ (D : va_G) (cI : Nat → ClassId) (sd : Nat → Nat) (h0 sz : Nat), Met l y (Cond.code y cc nL none :: lw_g) ({ frames := fr, cells := mc, slots := ms, locals := lo }) (va_Pc (.ref h0 :: as sd) (PreC D cI sd h0 sz ci fs0)) (va_Qv (fun ws : va_W => B cI sd h0 ws) (fun ws t => va_P D vwCl ws t.heap ∧ va_D (va_A [(h0, .inr (ci, fs0))] sz) ws) (va_A [(h0, .inr (ci, fs0))] sz)) mc ms (va_A [(h0, .inr (ci, fs0))] sz)
def RtC (X : CtxC) (mc ms h0 : Nat) (B : (Nat → ClassId) → (Nat → Nat) → Nat → va_W → Prop) : Prop := match X with
  | (_, _, _, _, s, _, args, below, _, _, D, cI, sd, A, _, Q) => Q = MQ below (va_Qv (fun ws : va_W => B cI sd h0 ws) (fun ws t => va_P D vwCl ws t.heap ∧ va_D A ws) A) args s mc ms A
theorem PreC_blind {D : va_G} {cI : Nat → ClassId} {sd : Nat → Nat} {h0 sz ci : Nat} {fs0 : List Value} {av : List Value} : FrameBlind (va_Pc av (PreC D cI sd h0 sz ci fs0)) := fun a U g mk h => by
  obtain ⟨h1, q0, qP, qK, qD, qS, qN⟩ := h
  exact ⟨h1, q0, qP, va_K.moved (u := U) (U := U.calling g mk a) (Vm.Alike.refl U.vm) qK, qD, Sc.out (s := U) (U := U.calling g mk a) qS (Vm.Alike.refl U.vm) (fun _ _ _ => rfl) (fun _ h => h), Nw.same (u := U) (U := U.calling g mk a) rfl qN⟩
theorem CtC.of {l : Launch} {y : MethodName} {cc : ByteArray} {nL fr lo mc ms ci : Nat} {fs0 : List Value} {as : (Nat → Nat) → List Value} {B : (Nat → ClassId) → (Nat → Nat) → Nat → va_W → Prop} (hy : plainName y.cls = true) (hyn : y.name = "<init>") (hlen : ∀ (h0 : Nat) sd, (lg_sl (.ref h0 :: as sd)).length ≤ nL)
    (body : ∀ (X : CtxC) (h0 : Nat), CxC X y.cls cc nL none fr lo mc ms → inC X → Yl X = l → RtC X mc ms h0 B → JC X 0 0 0 (lv_args 0 (.ref h0 :: as (Ysd X))) [] [(h0, .inr (ci, fs0))]) : CtC l y cc nL fr lo mc ms ci fs0 as B := by
  intro D cI sd h0 sz
  refine Met.ofW (cc := cc) (maxL := nL) (ret := none) hy rfl ?_
  intro p e s m args below meth c s₁ Bd hml hv
  obtain ⟨rfl, hsz, hP, hK, hD, hsc, hnw⟩ := hv
  subst hsz
  have hts := atoms_spec (ws := Cond.code y cc nL none :: lw_g) Bd.pre
  have K := body (p, l, e, (headSpec (Cond.code y cc nL none :: lw_g) ({ frames := fr, cells := mc, slots := ms, locals := lo })).room, s, m, (.ref h0 :: as sd).toArray, below, meth, c, D, cI, sd, va_A [(h0, .inr (ci, fs0))] s.heap.size, nL, MQ below (va_Qv (fun ws : va_W => B cI sd h0 ws) (fun ws t => va_P D vwCl ws t.heap ∧ va_D (va_A [(h0, .inr (ci, fs0))] s.heap.size) ws) (va_A [(h0, .inr (ci, fs0))] s.heap.size)) (.ref h0 :: as sd).toArray s mc ms (va_A [(h0, .inr (ci, fs0))] s.heap.size)) h0
    ⟨Bd.exec, Bd.bytes, hml, rfl, Bd.returns, findClass_of_methodNamed Bd.named, fun w hw => hts w (List.mem_cons_of_mem _ hw), Bd.notSynchronized, hK, hsc, fun q h => Or.inr h, Nat.le_refl _, Nat.le_refl _, Nat.le_refl _, Nat.le_refl _, hnw⟩ ((name_of_methodNamed Bd.named Bd.method).1.trans hyn) rfl rfl
  have hl := lv_entry (.ref h0 :: as sd) (n := nL) (hlen h0 sd)
  rw [lg_entry_eq]
  exact K s.heap [] _ hP hD.self va_S.rf hl
section JCR2
variable {X : CtxC} {own : String} {cc : ByteArray} {n0 : Nat} {ret : Option FieldType} {fr lo mc ms cells slots pc : Nat} {loc : List (Nat × Value)} {stk rest : List Value} {ws : va_W}
theorem JC.vret {B : (Nat → ClassId) → (Nat → Nat) → Nat → va_W → Prop} {h0 : Nat} (C : CxC X own cc n0 none fr lo mc ms) (hR : RtC X mc ms h0 B) (hB : B (Ycl X) (Ysd X) h0 ws) (h1 : cells ≤ mc) (h2 : slots ≤ ms) (hdg : decode cc pc = .ok (.return_, 1)) : JC X cells slots pc loc [] ws := by
  obtain ⟨p, l, e, R, s, m, args, below, meth, c, D, cI, sd, A, nL, Q⟩ := X
  obtain ⟨hx, hb, hml, hn0, hr, hown, hts, hlocks, hK, hsc, hA, hfr, hlo, hmc, hms, hnw⟩ := C
  intro H locs ls hP hD hS hl
  show W _ _ _ _ _ _ _ _ _ _ _ _ _ _ Q _
  rw [show Q = _ from hR]
  refine W.widen (k := mc) (n := ms) h1 h2 ?_
  exact W.vret hx hb hr (fun t ht hW => ⟨⟨ws, rfl, hB, by rw [ht]; exact hP, hD⟩, hS.F ht⟩) hS.2.2 hdg hlocks
theorem nd_range (n k : Nat) : va_nd (List.range' k n) = true := by
  induction n generalizing k with
  | zero => rfl
  | succ n ih =>
    rw [List.range'_succ]
    unfold va_nd
    rw [ih (k + 1), Bool.and_true]
    refine decide_eq_true ?_
    intro h
    have := (List.mem_range'_1.mp h).1
    omega
theorem range_get (ws0 w1 : va_W) : (List.range' 0 ws0.length).map (fun i => (ws0 ++ w1)[i]?) = ws0.map some := by
  apply List.ext_getElem?
  intro i
  rw [List.getElem?_map, List.getElem?_map]
  by_cases h : i < ws0.length
  · rw [List.getElem?_eq_getElem (l := List.range' 0 ws0.length) (by simpa using h), List.getElem?_eq_getElem h]
    simp [h]
    rw [List.getElem?_append_left h]
    exact List.getElem?_eq_getElem h
  · rw [List.getElem?_eq_none (l := List.range' 0 ws0.length) (by simpa using Nat.le_of_not_lt h), List.getElem?_eq_none (l := ws0) (by omega)]
    rfl
theorem JC_run {p : Program} {l : Launch} {e : Env} {R : Room} {s : State} {m : MethodId} {args : Array Value} {below : List Frame} {meth : Method} {c : Code} {D : va_G} {cI : Nat → ClassId} {sd : Nat → Nat} {A : Nat → Prop} {nL : Nat} {Q : State → Prop} {H : Heap} {locs : List Loc} {ls : Array Slot} {q ci mc' ms' : Nat} {fs0 : List Value} {ws0 : va_W} {a : Array Value} {B : (Nat → ClassId) → (Nat → Nat) → Nat → va_W → Prop} (hA : ∀ q, s.heap.size ≤ q → A q) (hP : va_P D vwCl (ws0 ++ [(q, .inr (ci, fs0))]) H) (hD : va_D A (ws0 ++ [(q, .inr (ci, fs0))])) (hS : va_S A s.heap H locs) (hl : lv_has ls nL loc)
    (hr : (∀ q', va_A [(q, .inr (ci, fs0))] H.size q' → A q') → va_Run p l e R s m args below meth c H locs cells slots mc' ms' (F0 m pc ls stk) rest (va_Qv (fun ws : va_W => B cI sd q ws) (fun ws t => va_P D vwCl ws t.heap ∧ va_D (va_A [(q, .inr (ci, fs0))] H.size) ws) (va_A [(q, .inr (ci, fs0))] H.size) a) (va_A [(q, .inr (ci, fs0))] H.size))
    (K : ∀ blk, B cI sd q blk → JC (p, l, e, R, s, m, args, below, meth, c, D, cI, sd, A, nL, Q) (cells + mc') (slots + ms') (pc + 3) loc rest (ws0 ++ blk)) : W p l e R s m args below meth c H locs cells slots Q (F0 m pc ls stk) := by
  have hFc := va_free (wc := [(q, .inr (ci, fs0))]) hD hS hA [ws0.length] (by simp)
  refine va_callv (hr hFc) hS (fun q _ h => hFc q h) hFc (fun w1 t H1 locs1 ht hvm hB hB2 hsz hkept hS1 => ?_)
  obtain ⟨hP1, hD1⟩ := hB2
  rw [ht] at hP1
  obtain ⟨hP2, hD2⟩ := va_join (wr := ws0) (w1 := w1) hP hD [ws0.length] (List.range' 0 ws0.length) (by simp) (range_get ws0 _) (nd_range _ _) (fun i hi h => by
    have h1 := (List.mem_range'_1.mp hi).2
    rw [List.mem_singleton] at h
    omega) hkept hFc hP1 hD1
  exact K w1 hB H1 locs1 ls hP2 hD2 hS1 hl
theorem JC.mkN (C : CxC X own cc n0 ret fr lo mc ms) {y : MethodName} {cc' : ByteArray} {nL' fr' lo' mc' ms' ci n : Nat} {fs0 : List Value} {as : (Nat → Nat) → List Value} {B : (Nat → ClassId) → (Nat → Nat) → Nat → va_W → Prop} (hM : CtC (Yl X) y cc' nL' fr' lo' mc' ms' ci fs0 as B) (wy : Wy y cc' nL' none n) (hin : Cond.instanceMethod y ∈ lw_g) (hy : y.name = "<init>") {idx : Nat} {host : String} (hlink : Cond.methodLinkNest own idx y host ∈ lw_n) {q : Nat} (As rest : List Value) (has : as (Ysd X) = As) (hn : As.length = n) (hcat : (rest.map fun v => v.category).sum ≤ 8) (hfr' : fr' + 1 ≤ fr) (hlo' : 8 + (nL' + 11) + lo' ≤ lo) (h1 : cells + mc' ≤ mc) (h2 : slots + ms' ≤ ms) {stk : List Value} (hst : stk = As.reverse ++ .ref q :: rest) (hdg : decode cc pc = .ok (.invokespecial idx, 3)) {ws0 : va_W} (K : ∀ blk, B (Ycl X) (Ysd X) q blk → JC X (cells + mc') (slots + ms') (pc + 3) loc rest (ws0 ++ blk)) : JC X cells slots pc loc stk (ws0 ++ [(q, .inr (ci, fs0))]) := by
  obtain ⟨p, l, e, R, s, m, args, below, meth, c, D, cI, sd, A, nL, Q⟩ := X
  obtain ⟨hx, hb, hml, hn0, hr, hown, hts, hlocks, hK, hsc, hA, hfr, hlo, hmc, hms, hnw⟩ := C
  intro H locs ls hP hD hS hl
  have hPc := hP.sub (ws' := [(q, .inr (ci, fs0))]) [ws0.length] (by simp)
  have hDc := hD.sub (ws' := [(q, .inr (ci, fs0))]) [ws0.length] rfl (by simp)
  refine JC_run hA hP hD hS hl (fun hFc => va_runIN ⟨hx, hb, hml, hown, hts⟩ (hM D cI sd q H.size) ⟨⟨⟨rfl, rfl, Nat.le_trans hfr' hfr, Nat.le_trans hlo' hlo, pay_in hts (tblIn wy.1), List.mem_cons_self⟩, hts _ wy.1, hts _ wy.2.1, ⟨wy.2.2.1, wy.2.2.2.1⟩, fun sig h => by have h2 := wy.2.2.2.2; rw [h] at h2; exact (Option.some.inj h2).symm, va_Nw.use rfl (hnw _ hlink)⟩, hy, hts _ hin⟩ ⟨PreC_blind, fun U hU hW => ⟨by have := has; dsimp only [Ysd] at this; rw [this], by rw [hU], by rw [hU]; exact hPc, va_K.moved hW.alike hK, hDc.weaken (fun _ _ _ _ => trivial), ?_, hnw.warm hW⟩⟩ rfl hn hl.1 hst (lv_room hcat) hdg ⟨Nat.le_trans h1 hmc, Nat.le_trans h2 hms⟩) K
  rw [hU]
  exact Sc.out hsc hW.alike (fun a h1 h2 => hS.2.1 a h1 h2) hFc
theorem JC.mkI (C : CxC X own cc n0 ret fr lo mc ms) {y : MethodName} {cc' : ByteArray} {nL' fr' lo' mc' ms' ci n : Nat} {fs0 : List Value} {as : (Nat → Nat) → List Value} {B : (Nat → ClassId) → (Nat → Nat) → Nat → va_W → Prop} (hM : CtC (Yl X) y cc' nL' fr' lo' mc' ms' ci fs0 as B) (wy : Wy y cc' nL' none n) (hin : Cond.instanceMethod y ∈ lw_g) (hy : y.name = "<init>") {idx : Nat} (hlink : Cond.methodLink own idx y ∈ lw_g) {q : Nat} (As rest : List Value) (has : as (Ysd X) = As) (hn : As.length = n) (hcat : (rest.map fun v => v.category).sum ≤ 8) (hfr' : fr' + 1 ≤ fr) (hlo' : 8 + (nL' + 11) + lo' ≤ lo) (h1 : cells + mc' ≤ mc) (h2 : slots + ms' ≤ ms) {stk : List Value} (hst : stk = As.reverse ++ .ref q :: rest) (hdg : decode cc pc = .ok (.invokespecial idx, 3)) {ws0 : va_W} (K : ∀ blk, B (Ycl X) (Ysd X) q blk → JC X (cells + mc') (slots + ms') (pc + 3) loc rest (ws0 ++ blk)) : JC X cells slots pc loc stk (ws0 ++ [(q, .inr (ci, fs0))]) := by
  obtain ⟨p, l, e, R, s, m, args, below, meth, c, D, cI, sd, A, nL, Q⟩ := X
  obtain ⟨hx, hb, hml, hn0, hr, hown, hts, hlocks, hK, hsc, hA, hfr, hlo, hmc, hms, hnw⟩ := C
  intro H locs ls hP hD hS hl
  have hPc := hP.sub (ws' := [(q, .inr (ci, fs0))]) [ws0.length] (by simp)
  have hDc := hD.sub (ws' := [(q, .inr (ci, fs0))]) [ws0.length] rfl (by simp)
  refine JC_run hA hP hD hS hl (fun hFc => va_runI ⟨hx, hb, hml, hown, hts⟩ (hM D cI sd q H.size) ⟨⟨rfl, rfl, Nat.le_trans hfr' hfr, Nat.le_trans hlo' hlo, pay_in hts (tblIn wy.1), List.mem_cons_self, hts _ wy.1, hts _ wy.2.1, ⟨wy.2.2.1, wy.2.2.2.1⟩, fun sig h => by have h2 := wy.2.2.2.2; rw [h] at h2; exact (Option.some.inj h2).symm, hts _ hlink⟩, hy, hts _ hin⟩ ⟨PreC_blind, fun U hU hW => ⟨by have := has; dsimp only [Ysd] at this; rw [this], by rw [hU], by rw [hU]; exact hPc, va_K.moved hW.alike hK, hDc.weaken (fun _ _ _ _ => trivial), ?_, hnw.warm hW⟩⟩ rfl hn hl.1 hst (lv_room hcat) hdg ⟨Nat.le_trans h1 hmc, Nat.le_trans h2 hms⟩) K
  rw [hU]
  exact Sc.out hsc hW.alike (fun a h1 h2 => hS.2.1 a h1 h2) hFc
end JCR2
