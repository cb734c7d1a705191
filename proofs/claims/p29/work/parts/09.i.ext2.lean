/-! THE SCRIPT, the law's own end, the load of no pump -/
def Sx (X : Ctx) (b L : Nat) (xs : Nat → Int32) : Prop := match X with
  | (_, _, _, _, s, _, _, _, _, _, _, _, _, A0, _, _, _, _, _) => va_X b L xs s s.heap ∧ b < s.heap.size ∧ ¬ A0 b
theorem Sx.add {X : Ctx} {b L mc' ms' : Nat} {xs : Nat → Int32} (h : Sx X b L xs) : Sx (Xadd X mc' ms') b L xs := by
  obtain ⟨p, l, e, R, s, m, args, below, meth, c, D, cI, ad, A0, ks, nL, mc, ms, Q⟩ := X
  obtain ⟨S1, S2, S3⟩ := h
  exact ⟨S1, S2, S3⟩
/-- what is left of the law -/
def RtW (X : Ctx) (a b : Nat) (t0 : Int32 × Mem) : Prop := match X with
  | (p, l, e, R, s, m, args, below, meth, c, _, _, _, A, _, _, mc, ms, Q) => t0.1 = 1 ∧ (∀ q, s.heap.size ≤ q → A q) ∧ mc + a ≤ 600000 ∧ ms + b ≤ 7302249 ∧ R.cells = 600000 ∧ R.slots = 7302249 ∧ ∀ (pc : Nat) (H : Heap) (locs : List Loc) (ls : Array Slot), va_S A s.heap H locs → decode cL_law pc = .ok (.ireturn, 1) → W p l e R s m args below meth c H locs 600000 7302249 Q (F0 m pc ls [.int 1])
theorem RtW.mono {X : Ctx} {a b a' b' : Nat} {t0 : Int32 × Mem} (h : RtW X a b t0) (h1 : a' ≤ a) (h2 : b' ≤ b) : RtW X a' b' t0 := by
  obtain ⟨p, l, e, R, s, m, args, below, meth, c, D, cI, ad, A0, ks, nL, mc, ms, Q⟩ := X
  obtain ⟨e1, e2, e3, e4, e5⟩ := h
  exact ⟨e1, e2, by omega, by omega, e5⟩
theorem RtW.add {X : Ctx} {a b mc' ms' : Nat} {t0 : Int32 × Mem} (h : RtW X (a + mc') (b + ms') t0) : RtW (Xadd X mc' ms') a b t0 := by
  obtain ⟨p, l, e, R, s, m, args, below, meth, c, D, cI, ad, A0, ks, nL, mc, ms, Q⟩ := X
  obtain ⟨e1, e2, e3, e4, e5⟩ := h
  exact ⟨e1, e2, by omega, by omega, e5⟩
theorem RtW.rm {X : Ctx} {a b mc' ms' : Nat} {t0 : Int32 × Mem} (h : RtW X a b t0) (h1 : mc' ≤ a) (h2 : ms' ≤ b) : Rm X mc' ms' := by
  obtain ⟨p, l, e, R, s, m, args, below, meth, c, D, cI, ad, A0, ks, nL, mc, ms, Q⟩ := X
  obtain ⟨e1, e2, e3, e4, e5, e6, e7⟩ := h
  exact ⟨by omega, by omega, e2⟩
def cellV (L : Nat) (xs : Nat → Int32) (k : Int32) : Int32 := if Int32.ofNat L ≤ k then 73244475 * (k + 1481) else xs k.toNatClampNeg
section JE2
variable {X : Ctx} {own : String} {cc : ByteArray} {n0 : Nat} {ret : Option FieldType} {fr lo pc : Nat} {loc : List (Nat × Value)} {stk rest : List Value} {σ : Mem}
theorem J.zretW {rt : FieldType} (C : Cx X own cc n0 (some rt) fr lo) {v : Int32} (_ : narrow rt (.int v) = .int v) {a b : Nat} {t0 : Int32 × Mem} (hR : RtW X a b t0) (h : (v, σ) = t0) (hdg : decode cL_law pc = .ok (.ireturn, 1)) : J X pc loc [.int v] σ := by
  subst h
  obtain ⟨p, l, e, R, s, m, args, below, meth, c0, D, cI, ad, A0, ks, nL, mc, ms, Q⟩ := X
  obtain ⟨e1, e2, e3, e4, e5, e6, e7⟩ := hR
  have e1 : v = 1 := e1
  subst e1
  intro H locs ls hP hD hT hS hl
  exact W.widen (k := 600000) (n := 7302249) (by omega) (by omega) (e7 pc H locs ls hS hdg)
theorem J.sld (C : Cx X own cc n0 ret fr lo) {b L : Nat} {xs : Nat → Int32} (S : Sx X b L xs) {i : Int32} (hin : vp_in i L) (hdg : decode cc pc = .ok (.iaload, 1)) (K : J X (pc + 1) loc (.int (xs i.toNatClampNeg) :: rest) σ) : J X pc loc (.int i :: .ref b :: rest) σ := by
  obtain ⟨p, l, e, R, s, m, args, below, meth, c, D, cI, ad, A0, ks, nL, mc, ms, Q⟩ := X
  obtain ⟨hx, hb, hml, hn0, hr, hown, hts, hlocks, hK, hcl, hfr, hlo, hmc, hms, hnw⟩ := C
  obtain ⟨S1, S2, S3⟩ := S
  intro H locs ls hP hD hT hS hl
  exact va_sld hx hb S1 S2 S3 hS hin hdg (K H locs ls hP hD hT hS hl)
theorem J.slen (C : Cx X own cc n0 ret fr lo) {b L : Nat} {xs : Nat → Int32} (S : Sx X b L xs) (hdg : decode cc pc = .ok (.arraylength, 1)) (K : J X (pc + 1) loc (.int (Int32.ofNat L) :: rest) σ) : J X pc loc (.ref b :: rest) σ := by
  obtain ⟨p, l, e, R, s, m, args, below, meth, c, D, cI, ad, A0, ks, nL, mc, ms, Q⟩ := X
  obtain ⟨hx, hb, hml, hn0, hr, hown, hts, hlocks, hK, hcl, hfr, hlo, hmc, hms, hnw⟩ := C
  obtain ⟨S1, S2, S3⟩ := S
  intro H locs ls hP hD hT hS hl
  exact va_slen hx hb S1 S2 S3 hS hdg (K H locs ls hP hD hT hS hl)
theorem J.ldcF (C : Cx X own cc n0 ret fr lo) {i : Nat} {v : UInt32} (hdg : decode cc pc = .ok (.ldc i, 2)) (hw : Cond.constantFloat own i v ∈ lw_g) (K : J X (pc + 2) loc (.float v :: rest) σ) : J X pc loc rest σ := by
  obtain ⟨p, l, e, R, s, m, args, below, meth, c, D, cI, ad, A0, ks, nL, mc, ms, Q⟩ := X
  obtain ⟨hx, hb, hml, hn0, hr, hown, hts, hlocks, hK, hcl, hfr, hlo, hmc, hms, hnw⟩ := C
  intro H locs ls hP hD hT hS hl
  exact lv_ldcf hx hb hown (hts _ hw) hdg (K H locs ls hP hD hT hS hl)
theorem fcmp_1 (op : CmpOp) : Op.cmpValue (FP.fcmp 3212836864 3212836864) op = 0 := by cases op <;> decide
theorem J.fcmpM1 (C : Cx X own cc n0 ret fr lo) {op : CmpOp} (hdg : decode cc pc = .ok (.fcmp op, 1)) (K : J X (pc + 1) loc (.int 0 :: rest) σ) : J X pc loc (.float 3212836864 :: .float 3212836864 :: rest) σ := by
  obtain ⟨p, l, e, R, s, m, args, below, meth, c, D, cI, ad, A0, ks, nL, mc, ms, Q⟩ := X
  obtain ⟨hx, hb, hml, hn0, hr, hown, hts, hlocks, hK, hcl, hfr, hlo, hmc, hms, hnw⟩ := C
  intro H locs ls hP hD hT hS hl
  refine lv_fcmp hx hb hdg ?_
  rw [fcmp_1]
  exact K H locs ls hP hD hT hS hl
theorem J.fretP (C : Cx X own cc n0 (some .float) fr lo) {v : UInt32} (hR : Rt X (some (.float v)) σ) (hdg : decode cc pc = .ok (.freturn, 1)) : J X pc loc [.float v] σ := by
  obtain ⟨p, l, e, R, s, m, args, below, meth, c, D, cI, ad, A0, ks, nL, mc, ms, Q⟩ := X
  obtain ⟨hx, hb, hml, hn0, hr, hown, hts, hlocks, hK, hcl, hfr, hlo, hmc, hms, hnw⟩ := C
  intro H locs ls hP hD hT hS hl
  show W _ _ _ _ _ _ _ _ _ _ _ _ _ _ Q _
  rw [show Q = _ from hR]
  exact W.fret hx hb hr (fun t ht hW => ⟨rfl, ⟨va_K.moved hW.alike hK, by rw [ht]; exact hP, hD, hT.out hS ht hW.alike⟩, hS.F ht⟩) hS.2.2 hdg hlocks
/-- a call of one that makes rows; what is held of the context behind it: P -/
theorem J.callSX (C : Cx X own cc n0 ret fr lo) {y : MethodName} {cc' : ByteArray} {nL' fr' lo' mc' ms' n : Nat} {ret' : Option FieldType} {ok : List Nat → Prop} {as : (Nat → Nat) → List Value} {o : (Nat → Nat) → Option Value} {σ' : Mem} (hM : CtA (Xl X) y cc' nL' ret' fr' lo' mc' ms' ok as σ o σ') (hlow : ∀ k, k ∈ Xks X → k < 105) (hok : ok (Xks X)) (hRm : Rm X mc' ms') (wy : Wy y cc' nL' ret' n) (hin : Cond.static y ∈ lw_g) {idx : Nat} (hlink : Cond.methodLink own idx y ∈ lw_g) (As rest : List Value) (has : as (Xad X) = As) (hn : As.length = n) (hcat : (rest.map fun v => v.category).sum ≤ 8) (hfr' : fr' + 1 ≤ fr) (hlo' : 8 + (nL' + 11) + lo' ≤ lo) {stk stk' : List Value} (hst : stk = As.reverse ++ rest) (hdg : decode cc pc = .ok (.invokestatic idx, 3)) (hst' : (o (Xad X)).toList ++ rest = stk') {P : Ctx → Prop} (hP : P (Xadd X mc' ms')) (K : ∀ X' : Ctx, Cx X' own cc n0 ret fr lo → Xks X' = Xks X → Xad X' = Xad X → P X' → J X' (pc + 3) loc stk' σ') : J X pc loc stk σ :=
  J.callSA C hM hlow hok hRm wy hin hlink As rest has hn hcat hfr' hlo' hst hdg hst' (K (Xadd X mc' ms') (C.add hRm) (Xadd_ks X mc' ms') (Xadd_ad X mc' ms') hP)
end JE2
/-! cell -/
def CtS (l : Launch) (fr lo sb SL : Nat) (xs : Nat → Int32) (k : Int32) (σ : Mem) : Prop :=
  ∀ (D : va_G) (cI : Nat → ClassId) (ad : Nat → Nat) (A0 : Nat → Prop) (ks : List Nat), Cl ks → Met l yL_cell (Cond.code yL_cell cL_cell 2 (some .int) :: lw_g) ({ frames := fr, cells := 0, slots := 0, locals := lo }) (va_Pc [.ref sb, .int k] (fun U => (Wx D cI ad A0 ks σ U ∧ Nw U) ∧ va_X sb SL xs U U.heap ∧ sb < U.heap.size ∧ ¬ A0 sb)) (QcOf D cI ad A0 ks (some (.int (cellV SL xs k))) σ) 0 0 A0
theorem m_L_cell {l : Launch} {sb SL : Nat} {xs : Nat → Int32} {k : Int32} {σ : Mem} (hk : 0 ≤ k) (hSL : SL ≤ 260) : CtS l 0 15 sb SL xs k σ := by
  intro D cI ad A0 ks hcl
  refine Met.ofWF (cc := cL_cell) (maxL := 2) (ret := some .int) (plainFor_of_name (by decide)) rfl ?_
  intro p e s m args below meth c s₁ B hml hv
  obtain ⟨rfl, ⟨⟨hK, hP, hD, hT⟩, hnw⟩, hX, hsz, hnA⟩ := hv
  have hts := atoms_spec (ws := Cond.code yL_cell cL_cell 2 (some .int) :: lw_g) B.pre
  have C : Cx (p, l, e, (headSpec (Cond.code yL_cell cL_cell 2 (some .int) :: lw_g) ({ frames := 0, cells := 0, slots := 0, locals := 15 })).room, s, m, ([.ref sb, .int k] : List Value).toArray, below, meth, c, D, cI, ad, A0, ks, 2, 0, 0, MQ below (QcOf D cI ad A0 ks (some (.int (cellV SL xs k))) σ) ([.ref sb, .int k] : List Value).toArray s 0 0 A0) RL cL_cell 2 (some .int) 0 15 :=
    ⟨B.exec, B.bytes, hml, rfl, B.returns, findClass_of_methodNamed B.named, fun w hw => hts w (List.mem_cons_of_mem _ hw), B.notSynchronized, hK, hcl, Nat.le_refl _, Nat.le_refl _, Nat.le_refl _, Nat.le_refl _, hnw⟩
  have hR : Rt (p, l, e, (headSpec (Cond.code yL_cell cL_cell 2 (some .int) :: lw_g) ({ frames := 0, cells := 0, slots := 0, locals := 15 })).room, s, m, ([.ref sb, .int k] : List Value).toArray, below, meth, c, D, cI, ad, A0, ks, 2, 0, 0, MQ below (QcOf D cI ad A0 ks (some (.int (cellV SL xs k))) σ) ([.ref sb, .int k] : List Value).toArray s 0 0 A0) (some (.int (cellV SL xs k))) σ := rfl
  have S : Sx (p, l, e, (headSpec (Cond.code yL_cell cL_cell 2 (some .int) :: lw_g) ({ frames := 0, cells := 0, slots := 0, locals := 15 })).room, s, m, ([.ref sb, .int k] : List Value).toArray, below, meth, c, D, cI, ad, A0, ks, 2, 0, 0, MQ below (QcOf D cI ad A0 ks (some (.int (cellV SL xs k))) σ) ([.ref sb, .int k] : List Value).toArray s 0 0 A0) sb SL xs := ⟨hX, hsz, hnA⟩
  have key : J (p, l, e, (headSpec (Cond.code yL_cell cL_cell 2 (some .int) :: lw_g) ({ frames := 0, cells := 0, slots := 0, locals := 15 })).room, s, m, ([.ref sb, .int k] : List Value).toArray, below, meth, c, D, cI, ad, A0, ks, 2, 0, 0, MQ below (QcOf D cI ad A0 ks (some (.int (cellV SL xs k))) σ) ([.ref sb, .int k] : List Value).toArray s 0 0 A0) 0 [(0, .ref sb), (1, .int k)] [] σ := by
    refine J.iload_n (pc := 0) C dL_cell_0 rfl 1 rfl ?_
    refine J.aload_n (pc := 1) C dL_cell_1 rfl 0 rfl ?_
    refine J.slen (pc := 2) C S dL_cell_2 ?_
    refine J.icmp_ge (pc := 3) (A := true) (B := false) (t := decide (Int32.ofNat SL ≤ k)) C (tgt := 12) dL_cell_3 (by decide) (by by_cases q : Int32.ofNat SL ≤ k <;> simp [q]) (fun h => ?_) (fun h => ?_)
    · have q := of_decide_eq_true h.symm
      refine J.ldc (pc := 12) C (v := 73244475) dL_cell_12 tw_cell_c ?_
      refine J.iload_n (pc := 14) C dL_cell_14 rfl 1 rfl ?_
      refine J.sipush (pc := 15) C (v := 1481) dL_cell_15 (by decide) ?_
      refine J.iadd (pc := 18) C dL_cell_18 ?_
      refine J.imul (pc := 19) C dL_cell_19 ?_
      exact J.iretP (pc := 20) C hR (by unfold cellV; rw [if_pos q]) dL_cell_20
    · have q := of_decide_eq_false h.symm
      refine J.aload_n (pc := 6) C dL_cell_6 rfl 0 rfl ?_
      refine J.iload_n (pc := 7) C dL_cell_7 rfl 1 rfl ?_
      have hin : vp_in k SL := by
        rw [vp_in_iff]
        rw [Int32.le_iff_toInt_le] at hk q
        have e1 : (Int32.ofNat SL).toInt = SL := nI_toInt (by omega)
        have e0 : (0 : Int32).toInt = 0 := rfl
        omega
      refine J.sld (pc := 8) C S hin dL_cell_8 ?_
      refine J.goto (pc := 9) C (tgt := 20) dL_cell_9 (by decide) ?_
      exact J.iretP (pc := 20) C hR (by unfold cellV; rw [if_neg q]) dL_cell_20
  have hl := lv_entry ([.ref sb, .int k] : List Value) (n := 2) (Nat.le_of_ble_eq_true rfl)
  rw [lg_entry_eq]
  exact key s.heap [] _ hP hD hT va_S.rf hl
theorem J.callCell {X : Ctx} {own : String} {cc : ByteArray} {n0 : Nat} {ret : Option FieldType} {fr lo pc : Nat} {loc : List (Nat × Value)} {rest : List Value} {σ : Mem} {cv : Int32 → Int32} {sb SL : Nat} {xs : Nat → Int32} {k : Int32} (C : Cx X own cc n0 ret fr lo) (S : Sx X sb SL xs) (hSL : SL ≤ 260) (hcv : cv = cellV SL xs) (hk : 0 ≤ k) {idx : Nat} (hlink : Cond.methodLink own idx yL_cell ∈ lw_g) (hcat : (rest.map fun v => v.category).sum ≤ 8) (hfr' : 1 ≤ fr) (hlo' : 36 ≤ lo) (hdg : decode cc pc = .ok (.invokestatic idx, 3)) (K : J X (pc + 3) loc (.int (cv k) :: rest) σ) : J X pc loc (.int k :: .ref sb :: rest) σ := by
  subst hcv
  obtain ⟨p, l, e, R, s, m, args, below, meth, c, D, cI, ad, A0, ks, nL, mc, ms, Q⟩ := X
  obtain ⟨hx, hb, hml, hn0, hr, hown, hts, hlocks, hK, hcl, hfr, hlo, hmc, hms, hnw⟩ := C
  obtain ⟨S1, S2, S3⟩ := S
  have wy := wyL_cell
  intro H locs ls hP hD hT hS hl
  refine J_run (va_runS ⟨hx, hb, hml, hown, hts⟩ (m_L_cell (xs := xs) (SL := SL) (sb := sb) (σ := σ) hk hSL D cI ad A0 ks hcl) ⟨⟨rfl, rfl, Nat.le_trans hfr' hfr, Nat.le_trans (by decide : 8 + (2 + 11) + 15 ≤ 36) (Nat.le_trans hlo' hlo), pay_in hts (tbl_in wy.1), List.mem_cons_self, hts _ wy.1, hts _ wy.2.1, ⟨wy.2.2.1, wy.2.2.2.1⟩, fun sig h => by have h2 := wy.2.2.2.2; rw [h] at h2; exact (Option.some.inj h2).symm, hts _ hlink⟩, hts _ tsL_cell⟩ ⟨fun a U g mk h => ⟨h.1, ⟨Wx.moved (u := U) (U := U.calling g mk a) (Vm.Alike.refl U.vm) rfl h.2.1.1, Nw.same (u := U) (U := U.calling g mk a) rfl h.2.1.2⟩, h.2.2⟩, fun U hU hW => ⟨rfl, ⟨⟨va_K.moved hW.alike hK, by rw [hU]; exact hP, hD, hT.out hS hU hW.alike⟩, hnw.warm hW⟩, ?_, ?_, S3⟩⟩ rfl rfl hl.1 rfl (lv_room hcat) hdg ⟨hmc, hms⟩) hT hS hl rfl K
  · rw [hU]
    exact va_X.moved hW.alike (S1.kept (hS.2.1 sb S2 S3))
  · rw [hU]
    exact Nat.lt_of_lt_of_le S2 hS.1
/-! load, of no pump -/
theorem m_X8_loadF {l : Launch} {σ : Mem} {k : Nat} {x : Int32} (hx : isFar x = true) : Ct l yX8_load cX8_load 3 (some .float) 1 40 (fun ks => Ok ks k 8) (fun ad => [.ref (ad k), .int x]) σ (fun _ => some (.float 3212836864)) σ := by
  have hx := of_decide_eq_true hx
  have hw : f_X8_within x 0 2 = some 0 := by
    unfold f_X8_within
    by_cases h1 : x < 0
    · rw [if_pos h1]
    · rw [if_neg h1]
      by_cases h2 : 2 < x
      · rw [if_pos h2]
      · exfalso
        rw [Int32.lt_iff_toInt_lt] at h1 h2
        exact hx ⟨Int32.le_iff_toInt_le.mpr (by omega), Int32.le_iff_toInt_le.mpr (by omega)⟩
  refine Ct.of (plainFor_of_name (by decide)) (fun _ => Nat.le_of_ble_eq_true rfl) ?_
  intro X C _ hk hcl hR
  have C : Cx X RX8 cX8_load 3 (some .float) 1 40 := C
  show J X 0 [(0, .ref (Xad X k)), (1, .int x)] [] σ
  refine J.iload_n (pc := 0) C dX8_load_0 rfl 1 rfl ?_
  refine J.iconst (pc := 1) C (v := 0) dX8_load_1 (by decide) ?_
  refine J.iconst (pc := 2) C (v := 2) dX8_load_2 (by decide) ?_
  refine J.callS (pc := 3) C (m_X8_within hw) trivial wyX8_within tsX8_within tw_load_w [.int x, .int 0, .int 2] [] rfl rfl (Nat.le_of_ble_eq_true rfl) (Nat.le_of_ble_eq_true rfl) (Nat.le_of_ble_eq_true rfl) (stk' := [.int 0]) rfl dX8_load_3 rfl ?_
  refine J.if_ne (A := true) (B := false) (t := true) (pc := 6) C (tgt := 12) dX8_load_6 (by decide) (if_pos rfl) (fun h => Bool.noConfusion h) (fun _ => ?_)
  refine J.ldcF (pc := 9) C (v := 3212836864) dX8_load_9 tw_load_f ?_
  exact J.fretP (pc := 11) C hR dX8_load_11
