/-! THE CONSTRUCTORS: X1 (written by wip/p29/gen/cgen.py) -/
theorem tcX1_3 : Cond.methodLink RX1 3 Lib.objectInit ∈ lw_g := in_g 89 (by decide +kernel) (by decide +kernel)
theorem tlX1_9 : Cond.classLink RX1 9 RX4 ∈ lw_g := in_g 90 (by decide +kernel) (by decide +kernel)
theorem tn_X4 : Cond.instantiable RX4 5 ∈ lw_g := in_g 46 (by decide +kernel) (by decide +kernel)
theorem tz_X4 : Cond.initialized RX4 ∈ lw_g := in_g 22 (by decide +kernel) (by decide +kernel)
theorem tsX1_11 : Cond.fieldLinkNest RX1 11 "FountainShow" "NOZZLE_LEAST" "[I" "FountainShow" ∈ lw_n := in_n 91 (by decide +kernel) (by decide +kernel)
theorem tsX1_15 : Cond.fieldLinkNest RX1 15 "FountainShow" "NOZZLE_MOST" "[I" "FountainShow" ∈ lw_n := in_n 93 (by decide +kernel) (by decide +kernel)
theorem tsX1_18 : Cond.fieldLinkNest RX1 18 "FountainShow" "NOZZLE_INITIAL" "[I" "FountainShow" ∈ lw_n := in_n 95 (by decide +kernel) (by decide +kernel)
theorem wyX4_init : Wy yX4_init cX4_init 5 none 4 := ⟨in_g 55 (by decide +kernel) (by decide +kernel), in_g 22 (by decide +kernel) (by decide +kernel), by decide +kernel, by decide +kernel, by decide +kernel⟩
theorem tiX4_init : Cond.instanceMethod yX4_init ∈ lw_g := in_g 54 (by decide +kernel) (by decide +kernel)
theorem tmX1_21 : Cond.methodLink RX1 21 yX4_init ∈ lw_g := in_g 97 (by decide +kernel) (by decide +kernel)
theorem tpX1_24 : Cond.fieldLink RX1 24 RX1 (TX1 0).2.1 (TX1 0).2.2.1 ∈ lw_g := in_g 98 (by decide +kernel) (by decide +kernel)
theorem tpX1_30 : Cond.fieldLink RX1 30 RX1 (TX1 1).2.1 (TX1 1).2.2.1 ∈ lw_g := in_g 100 (by decide +kernel) (by decide +kernel)
theorem tpX1_33 : Cond.fieldLink RX1 33 RX1 (TX1 2).2.1 (TX1 2).2.2.1 ∈ lw_g := in_g 102 (by decide +kernel) (by decide +kernel)
theorem tpX1_36 : Cond.fieldLink RX1 36 RX1 (TX1 3).2.1 (TX1 3).2.2.1 ∈ lw_g := in_g 104 (by decide +kernel) (by decide +kernel)
theorem tpX1_39 : Cond.fieldLink RX1 39 RX1 (TX1 4).2.1 (TX1 4).2.2.1 ∈ lw_g := in_g 106 (by decide +kernel) (by decide +kernel)
theorem tpX1_42 : Cond.fieldLink RX1 42 RX1 (TX1 5).2.1 (TX1 5).2.2.1 ∈ lw_g := in_g 108 (by decide +kernel) (by decide +kernel)
theorem tpX1_45 : Cond.fieldLink RX1 45 RX1 (TX1 6).2.1 (TX1 6).2.2.1 ∈ lw_g := in_g 110 (by decide +kernel) (by decide +kernel)
theorem tpX1_48 : Cond.fieldLink RX1 48 RX1 (TX1 7).2.1 (TX1 7).2.2.1 ∈ lw_g := in_g 112 (by decide +kernel) (by decide +kernel)
theorem tpX1_51 : Cond.fieldLink RX1 51 RX1 (TX1 8).2.1 (TX1 8).2.2.1 ∈ lw_g := in_g 113 (by decide +kernel) (by decide +kernel)
theorem tpX1_55 : Cond.fieldLink RX1 55 RX1 (TX1 9).2.1 (TX1 9).2.2.1 ∈ lw_g := in_g 115 (by decide +kernel) (by decide +kernel)
set_option maxRecDepth 20000 in
theorem kX1 (l : Launch) : CtC l yX1_init cX1_init 1 3 63 9 761 1 [.null, .null, .null, .null, .null, .null, .null, .null, .int 0, .int 0] (fun _ => []) (Blk 4 10 NzF) := by
  refine CtC.of (by decide) rfl (fun _ _ => Nat.le_of_ble_eq_true rfl) ?_
  intro X h0 C hin hXl hR
  have C : CxC X RX1 cX1_init 1 none 3 63 9 761 := C
  show JC X 0 0 0 [(0, .ref h0)] [] [(h0, .inr (1, [.null, .null, .null, .null, .null, .null, .null, .null, .int 0, .int 0]))]
  refine JC.aload_n (pc := 0) C dX1_init_0 rfl 0 rfl ?_
  refine JC.objInit (pc := 1) C tcX1_3 ti_obj tk_obj dX1_init_1 (Nat.le_of_ble_eq_true rfl) (Nat.le_of_ble_eq_true rfl) ?_
  refine JC.aload_n (pc := 4) C dX1_init_4 rfl 0 rfl ?_
  refine JC.new (pc := 5) C kcX4 tlX1_9 tn_X4 tz_X4 [.null, .null, .null, .int 0, .null] (fun j hj => by rcases (show j = 0 ∨ j = 1 ∨ j = 2 ∨ j = 3 ∨ j = 4 by omega) with rfl | rfl | rfl | rfl | rfl <;> rfl) (Nat.le_of_ble_eq_true rfl) (Nat.le_of_ble_eq_true rfl) dX1_init_5 (fun q5 => ?_)
  refine JC.dup (pc := 8) C dX1_init_8 rfl ?_
  refine JC.bipush (pc := 9) (v := 12) C dX1_init_9 (by decide) ?_
  refine JC.getsN (pc := 11) (k := 112) C rfl rfl tsX1_11 dX1_init_11 ?_
  refine JC.getsN (pc := 14) (k := 113) C rfl rfl tsX1_15 dX1_init_14 ?_
  refine JC.getsN (pc := 17) (k := 114) C rfl rfl tsX1_18 dX1_init_17 ?_
  refine JC.mkI (pc := 20) C (kX4b (Yl X)) wyX4_init tiX4_init rfl tmX1_21 [.int 12, .ref (Ysd X 112), .ref (Ysd X 113), .ref (Ysd X 114)] [.ref q5, .ref h0] rfl rfl (Nat.le_of_ble_eq_true rfl) (Nat.le_of_ble_eq_true rfl) (Nat.le_of_ble_eq_true rfl) (Nat.le_of_ble_eq_true rfl) (Nat.le_of_ble_eq_true rfl) rfl dX1_init_20 (fun blk hB => ?_)
  obtain ⟨a1, s1, ha1, hw1, hP1⟩ := hB
  subst hw1
  subst ha1
  refine JC.wsEq (ws' := (h0, .inr (1, [.null, .null, .null, .null, .null, .null, .null, .null, .int 0, .int 0])) :: ([] ++ wl (Ycl X) (mx a1 (Ysd X)) (mx s1 st0) (List.range' 5 2))) rfl ?_
  refine JC.putF (pc := 23) C hin kcX1 0 (Nat.le_of_ble_eq_true rfl) tpX1_24 rfl rfl rfl rfl dX1_init_23 (Nat.le_of_ble_eq_true rfl) (fs' := [.ref (a1 5), .null, .null, .null, .null, .null, .null, .null, .int 0, .int 0]) rfl ?_
  refine JC.aload_n (pc := 26) C dX1_init_26 rfl 0 rfl ?_
  refine JC.bipush (pc := 27) (v := 12) C dX1_init_27 (by decide) ?_
  refine JC.newa (pc := 29) (ty := .int) (cn := 100) (N := 12) C (Or.inl ⟨rfl, rfl⟩) rfl ta_int (fun _ => rfl) (by decide) rfl (Nat.le_of_ble_eq_true rfl) (Nat.le_of_ble_eq_true rfl) (Nat.le_of_ble_eq_true rfl) dX1_init_29 (fun q29 => ?_)
  refine JC.wsEq (ws' := (h0, .inr (1, [.ref (a1 5), .null, .null, .null, .null, .null, .null, .null, .int 0, .int 0])) :: (([] ++ wl (Ycl X) (mx a1 (Ysd X)) (mx s1 st0) (List.range' 5 2)) ++ [(q29, .inl (Ycl X 100, 12, .inl (fun _ => 0)))])) rfl ?_
  refine JC.putF (pc := 31) C hin kcX1 1 (Nat.le_of_ble_eq_true rfl) tpX1_30 rfl rfl rfl rfl dX1_init_31 (Nat.le_of_ble_eq_true rfl) (fs' := [.ref (a1 5), .ref q29, .null, .null, .null, .null, .null, .null, .int 0, .int 0]) rfl ?_
  refine JC.aload_n (pc := 34) C dX1_init_34 rfl 0 rfl ?_
  refine JC.bipush (pc := 35) (v := 12) C dX1_init_35 (by decide) ?_
  refine JC.newa (pc := 37) (ty := .int) (cn := 100) (N := 12) C (Or.inl ⟨rfl, rfl⟩) rfl ta_int (fun _ => rfl) (by decide) rfl (Nat.le_of_ble_eq_true rfl) (Nat.le_of_ble_eq_true rfl) (Nat.le_of_ble_eq_true rfl) dX1_init_37 (fun q37 => ?_)
  refine JC.wsEq (ws' := (h0, .inr (1, [.ref (a1 5), .ref q29, .null, .null, .null, .null, .null, .null, .int 0, .int 0])) :: ((([] ++ wl (Ycl X) (mx a1 (Ysd X)) (mx s1 st0) (List.range' 5 2)) ++ [(q29, .inl (Ycl X 100, 12, .inl (fun _ => 0)))]) ++ [(q37, .inl (Ycl X 100, 12, .inl (fun _ => 0)))])) rfl ?_
  refine JC.putF (pc := 39) C hin kcX1 2 (Nat.le_of_ble_eq_true rfl) tpX1_33 rfl rfl rfl rfl dX1_init_39 (Nat.le_of_ble_eq_true rfl) (fs' := [.ref (a1 5), .ref q29, .ref q37, .null, .null, .null, .null, .null, .int 0, .int 0]) rfl ?_
  refine JC.aload_n (pc := 42) C dX1_init_42 rfl 0 rfl ?_
  refine JC.bipush (pc := 43) (v := 12) C dX1_init_43 (by decide) ?_
  refine JC.newa (pc := 45) (ty := .int) (cn := 100) (N := 12) C (Or.inl ⟨rfl, rfl⟩) rfl ta_int (fun _ => rfl) (by decide) rfl (Nat.le_of_ble_eq_true rfl) (Nat.le_of_ble_eq_true rfl) (Nat.le_of_ble_eq_true rfl) dX1_init_45 (fun q45 => ?_)
  refine JC.wsEq (ws' := (h0, .inr (1, [.ref (a1 5), .ref q29, .ref q37, .null, .null, .null, .null, .null, .int 0, .int 0])) :: (((([] ++ wl (Ycl X) (mx a1 (Ysd X)) (mx s1 st0) (List.range' 5 2)) ++ [(q29, .inl (Ycl X 100, 12, .inl (fun _ => 0)))]) ++ [(q37, .inl (Ycl X 100, 12, .inl (fun _ => 0)))]) ++ [(q45, .inl (Ycl X 100, 12, .inl (fun _ => 0)))])) rfl ?_
  refine JC.putF (pc := 47) C hin kcX1 3 (Nat.le_of_ble_eq_true rfl) tpX1_36 rfl rfl rfl rfl dX1_init_47 (Nat.le_of_ble_eq_true rfl) (fs' := [.ref (a1 5), .ref q29, .ref q37, .ref q45, .null, .null, .null, .null, .int 0, .int 0]) rfl ?_
  refine JC.aload_n (pc := 50) C dX1_init_50 rfl 0 rfl ?_
  refine JC.bipush (pc := 51) (v := 12) C dX1_init_51 (by decide) ?_
  refine JC.newa (pc := 53) (ty := .int) (cn := 100) (N := 12) C (Or.inl ⟨rfl, rfl⟩) rfl ta_int (fun _ => rfl) (by decide) rfl (Nat.le_of_ble_eq_true rfl) (Nat.le_of_ble_eq_true rfl) (Nat.le_of_ble_eq_true rfl) dX1_init_53 (fun q53 => ?_)
  refine JC.wsEq (ws' := (h0, .inr (1, [.ref (a1 5), .ref q29, .ref q37, .ref q45, .null, .null, .null, .null, .int 0, .int 0])) :: ((((([] ++ wl (Ycl X) (mx a1 (Ysd X)) (mx s1 st0) (List.range' 5 2)) ++ [(q29, .inl (Ycl X 100, 12, .inl (fun _ => 0)))]) ++ [(q37, .inl (Ycl X 100, 12, .inl (fun _ => 0)))]) ++ [(q45, .inl (Ycl X 100, 12, .inl (fun _ => 0)))]) ++ [(q53, .inl (Ycl X 100, 12, .inl (fun _ => 0)))])) rfl ?_
  refine JC.putF (pc := 55) C hin kcX1 4 (Nat.le_of_ble_eq_true rfl) tpX1_39 rfl rfl rfl rfl dX1_init_55 (Nat.le_of_ble_eq_true rfl) (fs' := [.ref (a1 5), .ref q29, .ref q37, .ref q45, .ref q53, .null, .null, .null, .int 0, .int 0]) rfl ?_
  refine JC.aload_n (pc := 58) C dX1_init_58 rfl 0 rfl ?_
  refine JC.bipush (pc := 59) (v := 12) C dX1_init_59 (by decide) ?_
  refine JC.newa (pc := 61) (ty := .int) (cn := 100) (N := 12) C (Or.inl ⟨rfl, rfl⟩) rfl ta_int (fun _ => rfl) (by decide) rfl (Nat.le_of_ble_eq_true rfl) (Nat.le_of_ble_eq_true rfl) (Nat.le_of_ble_eq_true rfl) dX1_init_61 (fun q61 => ?_)
  refine JC.wsEq (ws' := (h0, .inr (1, [.ref (a1 5), .ref q29, .ref q37, .ref q45, .ref q53, .null, .null, .null, .int 0, .int 0])) :: (((((([] ++ wl (Ycl X) (mx a1 (Ysd X)) (mx s1 st0) (List.range' 5 2)) ++ [(q29, .inl (Ycl X 100, 12, .inl (fun _ => 0)))]) ++ [(q37, .inl (Ycl X 100, 12, .inl (fun _ => 0)))]) ++ [(q45, .inl (Ycl X 100, 12, .inl (fun _ => 0)))]) ++ [(q53, .inl (Ycl X 100, 12, .inl (fun _ => 0)))]) ++ [(q61, .inl (Ycl X 100, 12, .inl (fun _ => 0)))])) rfl ?_
  refine JC.putF (pc := 63) C hin kcX1 5 (Nat.le_of_ble_eq_true rfl) tpX1_42 rfl rfl rfl rfl dX1_init_63 (Nat.le_of_ble_eq_true rfl) (fs' := [.ref (a1 5), .ref q29, .ref q37, .ref q45, .ref q53, .ref q61, .null, .null, .int 0, .int 0]) rfl ?_
  refine JC.aload_n (pc := 66) C dX1_init_66 rfl 0 rfl ?_
  refine JC.bipush (pc := 67) (v := 12) C dX1_init_67 (by decide) ?_
  refine JC.newa (pc := 69) (ty := .int) (cn := 100) (N := 12) C (Or.inl ⟨rfl, rfl⟩) rfl ta_int (fun _ => rfl) (by decide) rfl (Nat.le_of_ble_eq_true rfl) (Nat.le_of_ble_eq_true rfl) (Nat.le_of_ble_eq_true rfl) dX1_init_69 (fun q69 => ?_)
  refine JC.wsEq (ws' := (h0, .inr (1, [.ref (a1 5), .ref q29, .ref q37, .ref q45, .ref q53, .ref q61, .null, .null, .int 0, .int 0])) :: ((((((([] ++ wl (Ycl X) (mx a1 (Ysd X)) (mx s1 st0) (List.range' 5 2)) ++ [(q29, .inl (Ycl X 100, 12, .inl (fun _ => 0)))]) ++ [(q37, .inl (Ycl X 100, 12, .inl (fun _ => 0)))]) ++ [(q45, .inl (Ycl X 100, 12, .inl (fun _ => 0)))]) ++ [(q53, .inl (Ycl X 100, 12, .inl (fun _ => 0)))]) ++ [(q61, .inl (Ycl X 100, 12, .inl (fun _ => 0)))]) ++ [(q69, .inl (Ycl X 100, 12, .inl (fun _ => 0)))])) rfl ?_
  refine JC.putF (pc := 71) C hin kcX1 6 (Nat.le_of_ble_eq_true rfl) tpX1_45 rfl rfl rfl rfl dX1_init_71 (Nat.le_of_ble_eq_true rfl) (fs' := [.ref (a1 5), .ref q29, .ref q37, .ref q45, .ref q53, .ref q61, .ref q69, .null, .int 0, .int 0]) rfl ?_
  refine JC.aload_n (pc := 74) C dX1_init_74 rfl 0 rfl ?_
  refine JC.sipush (pc := 75) (v := 612) C dX1_init_75 (by decide) ?_
  refine JC.newa (pc := 78) (ty := .int) (cn := 100) (N := 612) C (Or.inl ⟨rfl, rfl⟩) rfl ta_int (fun _ => rfl) (by decide) rfl (Nat.le_of_ble_eq_true rfl) (Nat.le_of_ble_eq_true rfl) (Nat.le_of_ble_eq_true rfl) dX1_init_78 (fun q78 => ?_)
  refine JC.wsEq (ws' := (h0, .inr (1, [.ref (a1 5), .ref q29, .ref q37, .ref q45, .ref q53, .ref q61, .ref q69, .null, .int 0, .int 0])) :: (((((((([] ++ wl (Ycl X) (mx a1 (Ysd X)) (mx s1 st0) (List.range' 5 2)) ++ [(q29, .inl (Ycl X 100, 12, .inl (fun _ => 0)))]) ++ [(q37, .inl (Ycl X 100, 12, .inl (fun _ => 0)))]) ++ [(q45, .inl (Ycl X 100, 12, .inl (fun _ => 0)))]) ++ [(q53, .inl (Ycl X 100, 12, .inl (fun _ => 0)))]) ++ [(q61, .inl (Ycl X 100, 12, .inl (fun _ => 0)))]) ++ [(q69, .inl (Ycl X 100, 12, .inl (fun _ => 0)))]) ++ [(q78, .inl (Ycl X 100, 612, .inl (fun _ => 0)))])) rfl ?_
  refine JC.putF (pc := 80) C hin kcX1 7 (Nat.le_of_ble_eq_true rfl) tpX1_48 rfl rfl rfl rfl dX1_init_80 (Nat.le_of_ble_eq_true rfl) (fs' := [.ref (a1 5), .ref q29, .ref q37, .ref q45, .ref q53, .ref q61, .ref q69, .ref q78, .int 0, .int 0]) rfl ?_
  refine JC.aload_n (pc := 83) C dX1_init_83 rfl 0 rfl ?_
  refine JC.iconst (pc := 84) (v := 4) C dX1_init_84 (by decide) ?_
  refine JC.put (pc := 85) C kcX1 8 (Nat.le_of_ble_eq_true rfl) tpX1_51 rfl rfl rfl rfl dX1_init_85 (Nat.le_of_ble_eq_true rfl) (fs' := [.ref (a1 5), .ref q29, .ref q37, .ref q45, .ref q53, .ref q61, .ref q69, .ref q78, .int 4, .int 0]) rfl ?_
  refine JC.aload_n (pc := 88) C dX1_init_88 rfl 0 rfl ?_
  refine JC.iconst (pc := 89) (v := 0) C dX1_init_89 (by decide) ?_
  refine JC.put (pc := 90) C kcX1 9 (Nat.le_of_ble_eq_true rfl) tpX1_55 rfl rfl rfl rfl dX1_init_90 (Nat.le_of_ble_eq_true rfl) (fs' := [.ref (a1 5), .ref q29, .ref q37, .ref q45, .ref q53, .ref q61, .ref q69, .ref q78, .int 4, .int 0]) rfl ?_
  refine JC.vret (pc := 93) C hR ⟨(fun k => if k < 5 then h0 else if k < 7 then a1 k else if k < 8 then q29 else if k < 9 then q37 else if k < 10 then q45 else if k < 11 then q53 else if k < 12 then q61 else if k < 13 then q69 else q78), (fun k => if k < 5 then (fun j => if j = 8 then 4 else 0) else if k < 7 then s1 k else if k < 8 then (fun _ => 0) else if k < 9 then (fun _ => 0) else if k < 10 then (fun _ => 0) else if k < 11 then (fun _ => 0) else if k < 12 then (fun _ => 0) else if k < 13 then (fun _ => 0) else (fun _ => 0)), rfl, rfl, ?_⟩ (Nat.le_of_ble_eq_true rfl) (Nat.le_of_ble_eq_true rfl) dX1_init_93
  exact ⟨hP1, fun _ _ => ⟨rfl, rfl, rfl, rfl, rfl, rfl⟩, rfl, rfl⟩
