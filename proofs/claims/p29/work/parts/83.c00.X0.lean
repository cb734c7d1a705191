/-! THE CONSTRUCTORS: X0 (written by wip/p29/gen/cgen.py) -/
theorem tcX0_3 : Cond.methodLink RX0 3 Lib.objectInit ∈ lw_g := in_g 199 (by decide +kernel) (by decide +kernel)
theorem ti_obj : Cond.instanceMethod Lib.objectInit ∈ lw_g := in_g 37 (by decide +kernel) (by decide +kernel)
theorem tk_obj : Cond.code Lib.objectInit ⟨#[0xb1]⟩ 1 none ∈ lw_g := in_g 38 (by decide +kernel) (by decide +kernel)
theorem tpX0_9 : Cond.fieldLink RX0 9 RX0 (TX0 0).2.1 (TX0 0).2.2.1 ∈ lw_g := in_g 200 (by decide +kernel) (by decide +kernel)
theorem tpX0_15 : Cond.fieldLink RX0 15 RX0 (TX0 1).2.1 (TX0 1).2.2.1 ∈ lw_g := in_g 202 (by decide +kernel) (by decide +kernel)
theorem tpX0_18 : Cond.fieldLink RX0 18 RX0 (TX0 2).2.1 (TX0 2).2.2.1 ∈ lw_g := in_g 204 (by decide +kernel) (by decide +kernel)
theorem tpX0_21 : Cond.fieldLink RX0 21 RX0 (TX0 3).2.1 (TX0 3).2.2.1 ∈ lw_g := in_g 206 (by decide +kernel) (by decide +kernel)
set_option maxRecDepth 20000 in
theorem kX0 (l : Launch) : CtC l yX0_init cX0_init 1 1 12 3 180 0 [.null, .null, .null, .int 0] (fun _ => []) (Blk 21 4 CuF) := by
  refine CtC.of (by decide) rfl (fun _ _ => Nat.le_of_ble_eq_true rfl) ?_
  intro X h0 C hin hXl hR
  have C : CxC X RX0 cX0_init 1 none 1 12 3 180 := C
  show JC X 0 0 0 [(0, .ref h0)] [] [(h0, .inr (0, [.null, .null, .null, .int 0]))]
  refine JC.aload_n (pc := 0) C dX0_init_0 rfl 0 rfl ?_
  refine JC.objInit (pc := 1) C tcX0_3 ti_obj tk_obj dX0_init_1 (Nat.le_of_ble_eq_true rfl) (Nat.le_of_ble_eq_true rfl) ?_
  refine JC.aload_n (pc := 4) C dX0_init_4 rfl 0 rfl ?_
  refine JC.bipush (pc := 5) (v := 60) C dX0_init_5 (by decide) ?_
  refine JC.newa (pc := 7) (ty := .int) (cn := 100) (N := 60) C (Or.inl ⟨rfl, rfl⟩) rfl ta_int (fun _ => rfl) (by decide) rfl (Nat.le_of_ble_eq_true rfl) (Nat.le_of_ble_eq_true rfl) (Nat.le_of_ble_eq_true rfl) dX0_init_7 (fun q7 => ?_)
  refine JC.wsEq (ws' := (h0, .inr (0, [.null, .null, .null, .int 0])) :: ([] ++ [(q7, .inl (Ycl X 100, 60, .inl (fun _ => 0)))])) rfl ?_
  refine JC.putF (pc := 9) C hin kcX0 0 (Nat.le_of_ble_eq_true rfl) tpX0_9 rfl rfl rfl rfl dX0_init_9 (Nat.le_of_ble_eq_true rfl) (fs' := [.ref q7, .null, .null, .int 0]) rfl ?_
  refine JC.aload_n (pc := 12) C dX0_init_12 rfl 0 rfl ?_
  refine JC.bipush (pc := 13) (v := 60) C dX0_init_13 (by decide) ?_
  refine JC.newa (pc := 15) (ty := .int) (cn := 100) (N := 60) C (Or.inl ⟨rfl, rfl⟩) rfl ta_int (fun _ => rfl) (by decide) rfl (Nat.le_of_ble_eq_true rfl) (Nat.le_of_ble_eq_true rfl) (Nat.le_of_ble_eq_true rfl) dX0_init_15 (fun q15 => ?_)
  refine JC.wsEq (ws' := (h0, .inr (0, [.ref q7, .null, .null, .int 0])) :: (([] ++ [(q7, .inl (Ycl X 100, 60, .inl (fun _ => 0)))]) ++ [(q15, .inl (Ycl X 100, 60, .inl (fun _ => 0)))])) rfl ?_
  refine JC.putF (pc := 17) C hin kcX0 1 (Nat.le_of_ble_eq_true rfl) tpX0_15 rfl rfl rfl rfl dX0_init_17 (Nat.le_of_ble_eq_true rfl) (fs' := [.ref q7, .ref q15, .null, .int 0]) rfl ?_
  refine JC.aload_n (pc := 20) C dX0_init_20 rfl 0 rfl ?_
  refine JC.bipush (pc := 21) (v := 60) C dX0_init_21 (by decide) ?_
  refine JC.newa (pc := 23) (ty := .int) (cn := 100) (N := 60) C (Or.inl ⟨rfl, rfl⟩) rfl ta_int (fun _ => rfl) (by decide) rfl (Nat.le_of_ble_eq_true rfl) (Nat.le_of_ble_eq_true rfl) (Nat.le_of_ble_eq_true rfl) dX0_init_23 (fun q23 => ?_)
  refine JC.wsEq (ws' := (h0, .inr (0, [.ref q7, .ref q15, .null, .int 0])) :: ((([] ++ [(q7, .inl (Ycl X 100, 60, .inl (fun _ => 0)))]) ++ [(q15, .inl (Ycl X 100, 60, .inl (fun _ => 0)))]) ++ [(q23, .inl (Ycl X 100, 60, .inl (fun _ => 0)))])) rfl ?_
  refine JC.putF (pc := 25) C hin kcX0 2 (Nat.le_of_ble_eq_true rfl) tpX0_18 rfl rfl rfl rfl dX0_init_25 (Nat.le_of_ble_eq_true rfl) (fs' := [.ref q7, .ref q15, .ref q23, .int 0]) rfl ?_
  refine JC.aload_n (pc := 28) C dX0_init_28 rfl 0 rfl ?_
  refine JC.iconst (pc := 29) (v := 0) C dX0_init_29 (by decide) ?_
  refine JC.put (pc := 30) C kcX0 3 (Nat.le_of_ble_eq_true rfl) tpX0_21 rfl rfl rfl rfl dX0_init_30 (Nat.le_of_ble_eq_true rfl) (fs' := [.ref q7, .ref q15, .ref q23, .int 0]) rfl ?_
  refine JC.vret (pc := 33) C hR ⟨(fun k => if k < 22 then h0 else if k < 23 then q7 else if k < 24 then q15 else q23), (fun k => if k < 22 then (fun j => 0) else if k < 23 then (fun _ => 0) else if k < 24 then (fun _ => 0) else (fun _ => 0)), rfl, rfl, ?_⟩ (Nat.le_of_ble_eq_true rfl) (Nat.le_of_ble_eq_true rfl) dX0_init_33
  exact (show _ = _ from rfl)
