/-! THE CONSTRUCTORS: X3 (written by wip/p29/gen/cgen.py) -/
theorem tcX3_3 : Cond.methodLink RX3 3 Lib.objectInit ∈ lw_g := in_g 143 (by decide +kernel) (by decide +kernel)
theorem tlX3_9 : Cond.classLink RX3 9 RX4 ∈ lw_g := in_g 144 (by decide +kernel) (by decide +kernel)
theorem tsX3_11 : Cond.fieldLinkNest RX3 11 "FountainShow" "PUMP_LEAST" "[I" "FountainShow" ∈ lw_n := in_n 145 (by decide +kernel) (by decide +kernel)
theorem tsX3_15 : Cond.fieldLinkNest RX3 15 "FountainShow" "PUMP_MOST" "[I" "FountainShow" ∈ lw_n := in_n 147 (by decide +kernel) (by decide +kernel)
theorem tsX3_18 : Cond.fieldLinkNest RX3 18 "FountainShow" "PUMP_INITIAL" "[I" "FountainShow" ∈ lw_n := in_n 149 (by decide +kernel) (by decide +kernel)
theorem tmX3_21 : Cond.methodLink RX3 21 yX4_init ∈ lw_g := in_g 151 (by decide +kernel) (by decide +kernel)
theorem tpX3_24 : Cond.fieldLink RX3 24 RX3 (TX3 0).2.1 (TX3 0).2.2.1 ∈ lw_g := in_g 152 (by decide +kernel) (by decide +kernel)
theorem tpX3_30 : Cond.fieldLink RX3 30 RX3 (TX3 1).2.1 (TX3 1).2.2.1 ∈ lw_g := in_g 155 (by decide +kernel) (by decide +kernel)
theorem tpX3_33 : Cond.fieldLink RX3 33 RX3 (TX3 2).2.1 (TX3 2).2.2.1 ∈ lw_g := in_g 157 (by decide +kernel) (by decide +kernel)
theorem tpX3_36 : Cond.fieldLink RX3 36 RX3 (TX3 3).2.1 (TX3 3).2.2.1 ∈ lw_g := in_g 159 (by decide +kernel) (by decide +kernel)
set_option maxRecDepth 20000 in
theorem kX3 (l : Launch) : CtC l yX3_init cX3_init 1 3 63 5 20 3 [.null, .null, .null, .null] (fun _ => []) (Blk 14 6 PuF) := by
  refine CtC.of (by decide) rfl (fun _ _ => Nat.le_of_ble_eq_true rfl) ?_
  intro X h0 C hin hXl hR
  have C : CxC X RX3 cX3_init 1 none 3 63 5 20 := C
  show JC X 0 0 0 [(0, .ref h0)] [] [(h0, .inr (3, [.null, .null, .null, .null]))]
  refine JC.aload_n (pc := 0) C dX3_init_0 rfl 0 rfl ?_
  refine JC.objInit (pc := 1) C tcX3_3 ti_obj tk_obj dX3_init_1 (Nat.le_of_ble_eq_true rfl) (Nat.le_of_ble_eq_true rfl) ?_
  refine JC.aload_n (pc := 4) C dX3_init_4 rfl 0 rfl ?_
  refine JC.new (pc := 5) C kcX4 tlX3_9 tn_X4 tz_X4 [.null, .null, .null, .int 0, .null] (fun j hj => by rcases (show j = 0 ∨ j = 1 ∨ j = 2 ∨ j = 3 ∨ j = 4 by omega) with rfl | rfl | rfl | rfl | rfl <;> rfl) (Nat.le_of_ble_eq_true rfl) (Nat.le_of_ble_eq_true rfl) dX3_init_5 (fun q5 => ?_)
  refine JC.dup (pc := 8) C dX3_init_8 rfl ?_
  refine JC.iconst (pc := 9) (v := 3) C dX3_init_9 (by decide) ?_
  refine JC.getsN (pc := 10) (k := 115) C rfl rfl tsX3_11 dX3_init_10 ?_
  refine JC.getsN (pc := 13) (k := 116) C rfl rfl tsX3_15 dX3_init_13 ?_
  refine JC.getsN (pc := 16) (k := 117) C rfl rfl tsX3_18 dX3_init_16 ?_
  refine JC.mkI (pc := 19) C (kX4c (Yl X)) wyX4_init tiX4_init rfl tmX3_21 [.int 3, .ref (Ysd X 115), .ref (Ysd X 116), .ref (Ysd X 117)] [.ref q5, .ref h0] rfl rfl (Nat.le_of_ble_eq_true rfl) (Nat.le_of_ble_eq_true rfl) (Nat.le_of_ble_eq_true rfl) (Nat.le_of_ble_eq_true rfl) (Nat.le_of_ble_eq_true rfl) rfl dX3_init_19 (fun blk hB => ?_)
  obtain ⟨a1, s1, ha1, hw1, hP1⟩ := hB
  subst hw1
  subst ha1
  refine JC.wsEq (ws' := (h0, .inr (3, [.null, .null, .null, .null])) :: ([] ++ wl (Ycl X) (mx a1 (Ysd X)) (mx s1 st0) (List.range' 15 2))) rfl ?_
  refine JC.putF (pc := 22) C hin kcX3 0 (Nat.le_of_ble_eq_true rfl) tpX3_24 rfl rfl rfl rfl dX3_init_22 (Nat.le_of_ble_eq_true rfl) (fs' := [.ref (a1 15), .null, .null, .null]) rfl ?_
  refine JC.aload_n (pc := 25) C dX3_init_25 rfl 0 rfl ?_
  refine JC.iconst (pc := 26) (v := 3) C dX3_init_26 (by decide) ?_
  refine JC.newa (pc := 27) (ty := .int) (cn := 100) (N := 3) C (Or.inl ⟨rfl, rfl⟩) rfl ta_int (fun _ => rfl) (by decide) rfl (Nat.le_of_ble_eq_true rfl) (Nat.le_of_ble_eq_true rfl) (Nat.le_of_ble_eq_true rfl) dX3_init_27 (fun q27 => ?_)
  refine JC.wsEq (ws' := (h0, .inr (3, [.ref (a1 15), .null, .null, .null])) :: (([] ++ wl (Ycl X) (mx a1 (Ysd X)) (mx s1 st0) (List.range' 15 2)) ++ [(q27, .inl (Ycl X 100, 3, .inl (fun _ => 0)))])) rfl ?_
  refine JC.putF (pc := 29) C hin kcX3 1 (Nat.le_of_ble_eq_true rfl) tpX3_30 rfl rfl rfl rfl dX3_init_29 (Nat.le_of_ble_eq_true rfl) (fs' := [.ref (a1 15), .ref q27, .null, .null]) rfl ?_
  refine JC.aload_n (pc := 32) C dX3_init_32 rfl 0 rfl ?_
  refine JC.iconst (pc := 33) (v := 3) C dX3_init_33 (by decide) ?_
  refine JC.newa (pc := 34) (ty := .int) (cn := 100) (N := 3) C (Or.inl ⟨rfl, rfl⟩) rfl ta_int (fun _ => rfl) (by decide) rfl (Nat.le_of_ble_eq_true rfl) (Nat.le_of_ble_eq_true rfl) (Nat.le_of_ble_eq_true rfl) dX3_init_34 (fun q34 => ?_)
  refine JC.wsEq (ws' := (h0, .inr (3, [.ref (a1 15), .ref q27, .null, .null])) :: ((([] ++ wl (Ycl X) (mx a1 (Ysd X)) (mx s1 st0) (List.range' 15 2)) ++ [(q27, .inl (Ycl X 100, 3, .inl (fun _ => 0)))]) ++ [(q34, .inl (Ycl X 100, 3, .inl (fun _ => 0)))])) rfl ?_
  refine JC.putF (pc := 36) C hin kcX3 2 (Nat.le_of_ble_eq_true rfl) tpX3_33 rfl rfl rfl rfl dX3_init_36 (Nat.le_of_ble_eq_true rfl) (fs' := [.ref (a1 15), .ref q27, .ref q34, .null]) rfl ?_
  refine JC.aload_n (pc := 39) C dX3_init_39 rfl 0 rfl ?_
  refine JC.iconst (pc := 40) (v := 3) C dX3_init_40 (by decide) ?_
  refine JC.newa (pc := 41) (ty := .int) (cn := 100) (N := 3) C (Or.inl ⟨rfl, rfl⟩) rfl ta_int (fun _ => rfl) (by decide) rfl (Nat.le_of_ble_eq_true rfl) (Nat.le_of_ble_eq_true rfl) (Nat.le_of_ble_eq_true rfl) dX3_init_41 (fun q41 => ?_)
  refine JC.wsEq (ws' := (h0, .inr (3, [.ref (a1 15), .ref q27, .ref q34, .null])) :: (((([] ++ wl (Ycl X) (mx a1 (Ysd X)) (mx s1 st0) (List.range' 15 2)) ++ [(q27, .inl (Ycl X 100, 3, .inl (fun _ => 0)))]) ++ [(q34, .inl (Ycl X 100, 3, .inl (fun _ => 0)))]) ++ [(q41, .inl (Ycl X 100, 3, .inl (fun _ => 0)))])) rfl ?_
  refine JC.putF (pc := 43) C hin kcX3 3 (Nat.le_of_ble_eq_true rfl) tpX3_36 rfl rfl rfl rfl dX3_init_43 (Nat.le_of_ble_eq_true rfl) (fs' := [.ref (a1 15), .ref q27, .ref q34, .ref q41]) rfl ?_
  refine JC.vret (pc := 46) C hR ⟨(fun k => if k < 15 then h0 else if k < 17 then a1 k else if k < 18 then q27 else if k < 19 then q34 else q41), (fun k => if k < 15 then (fun j => 0) else if k < 17 then s1 k else if k < 18 then (fun _ => 0) else if k < 19 then (fun _ => 0) else (fun _ => 0)), rfl, rfl, ?_⟩ (Nat.le_of_ble_eq_true rfl) (Nat.le_of_ble_eq_true rfl) dX3_init_46
  exact ⟨hP1, fun _ _ => ⟨rfl, rfl, rfl⟩⟩
