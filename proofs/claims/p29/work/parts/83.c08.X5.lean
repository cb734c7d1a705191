/-! THE CONSTRUCTORS: X5 (written by wip/p29/gen/cgen.py) -/
theorem tcX5_3 : Cond.methodLink RX5 3 Lib.objectInit ∈ lw_g := in_g 44 (by decide +kernel) (by decide +kernel)
theorem tlX5_9 : Cond.classLink RX5 9 RX4 ∈ lw_g := in_g 45 (by decide +kernel) (by decide +kernel)
theorem tsX5_11 : Cond.fieldLinkNest RX5 11 "FountainShow" "SHOW_LEAST" "[I" "FountainShow" ∈ lw_n := in_n 47 (by decide +kernel) (by decide +kernel)
theorem tsX5_15 : Cond.fieldLinkNest RX5 15 "FountainShow" "SHOW_MOST" "[I" "FountainShow" ∈ lw_n := in_n 49 (by decide +kernel) (by decide +kernel)
theorem tsX5_18 : Cond.fieldLinkNest RX5 18 "FountainShow" "SHOW_INITIAL" "[I" "FountainShow" ∈ lw_n := in_n 51 (by decide +kernel) (by decide +kernel)
theorem tmX5_21 : Cond.methodLink RX5 21 yX4_init ∈ lw_g := in_g 53 (by decide +kernel) (by decide +kernel)
theorem tpX5_24 : Cond.fieldLink RX5 24 RX5 (TX5 0).2.1 (TX5 0).2.2.1 ∈ lw_g := in_g 219 (by decide +kernel) (by decide +kernel)
theorem tlX5_30 : Cond.classLink RX5 30 RX1 ∈ lw_g := in_g 84 (by decide +kernel) (by decide +kernel)
theorem tn_X1 : Cond.instantiable RX1 10 ∈ lw_g := in_g 85 (by decide +kernel) (by decide +kernel)
theorem tz_X1 : Cond.initialized RX1 ∈ lw_g := in_g 25 (by decide +kernel) (by decide +kernel)
theorem wyX1_init : Wy yX1_init cX1_init 1 none 0 := ⟨in_g 88 (by decide +kernel) (by decide +kernel), in_g 25 (by decide +kernel) (by decide +kernel), by decide +kernel, by decide +kernel, by decide +kernel⟩
theorem tiX1_init : Cond.instanceMethod yX1_init ∈ lw_g := in_g 87 (by decide +kernel) (by decide +kernel)
theorem tmX5_32 : Cond.methodLinkNest RX5 32 yX1_init "FountainShow" ∈ lw_n := in_n 86 (by decide +kernel) (by decide +kernel)
theorem tpX5_33 : Cond.fieldLink RX5 33 RX5 (TX5 1).2.1 (TX5 1).2.2.1 ∈ lw_g := in_g 221 (by decide +kernel) (by decide +kernel)
theorem tlX5_37 : Cond.classLink RX5 37 RX3 ∈ lw_g := in_g 138 (by decide +kernel) (by decide +kernel)
theorem tn_X3 : Cond.instantiable RX3 4 ∈ lw_g := in_g 139 (by decide +kernel) (by decide +kernel)
theorem tz_X3 : Cond.initialized RX3 ∈ lw_g := in_g 26 (by decide +kernel) (by decide +kernel)
theorem wyX3_init : Wy yX3_init cX3_init 1 none 0 := ⟨in_g 142 (by decide +kernel) (by decide +kernel), in_g 26 (by decide +kernel) (by decide +kernel), by decide +kernel, by decide +kernel, by decide +kernel⟩
theorem tiX3_init : Cond.instanceMethod yX3_init ∈ lw_g := in_g 141 (by decide +kernel) (by decide +kernel)
theorem tmX5_39 : Cond.methodLinkNest RX5 39 yX3_init "FountainShow" ∈ lw_n := in_n 140 (by decide +kernel) (by decide +kernel)
theorem tpX5_40 : Cond.fieldLink RX5 40 RX5 (TX5 2).2.1 (TX5 2).2.2.1 ∈ lw_g := in_g 223 (by decide +kernel) (by decide +kernel)
theorem tlX5_44 : Cond.classLink RX5 44 RX7 ∈ lw_g := in_g 170 (by decide +kernel) (by decide +kernel)
theorem tn_X7 : Cond.instantiable RX7 4 ∈ lw_g := in_g 171 (by decide +kernel) (by decide +kernel)
theorem tz_X7 : Cond.initialized RX7 ∈ lw_g := in_g 27 (by decide +kernel) (by decide +kernel)
theorem wyX7_init : Wy yX7_init cX7_init 1 none 0 := ⟨in_g 174 (by decide +kernel) (by decide +kernel), in_g 27 (by decide +kernel) (by decide +kernel), by decide +kernel, by decide +kernel, by decide +kernel⟩
theorem tiX7_init : Cond.instanceMethod yX7_init ∈ lw_g := in_g 173 (by decide +kernel) (by decide +kernel)
theorem tmX5_46 : Cond.methodLinkNest RX5 46 yX7_init "FountainShow" ∈ lw_n := in_n 172 (by decide +kernel) (by decide +kernel)
theorem tpX5_47 : Cond.fieldLink RX5 47 RX5 (TX5 3).2.1 (TX5 3).2.2.1 ∈ lw_g := in_g 225 (by decide +kernel) (by decide +kernel)
theorem tlX5_51 : Cond.classLink RX5 51 RX0 ∈ lw_g := in_g 194 (by decide +kernel) (by decide +kernel)
theorem tmX5_53 : Cond.methodLinkNest RX5 53 yX0_init "FountainShow" ∈ lw_n := in_n 196 (by decide +kernel) (by decide +kernel)
theorem tpX5_54 : Cond.fieldLink RX5 54 RX5 (TX5 4).2.1 (TX5 4).2.2.1 ∈ lw_g := in_g 227 (by decide +kernel) (by decide +kernel)
theorem tpX5_58 : Cond.fieldLink RX5 58 RX5 (TX5 5).2.1 (TX5 5).2.2.1 ∈ lw_g := in_g 229 (by decide +kernel) (by decide +kernel)
theorem tpX5_62 : Cond.fieldLink RX5 62 RX5 (TX5 6).2.1 (TX5 6).2.2.1 ∈ lw_g := in_g 231 (by decide +kernel) (by decide +kernel)
set_option maxRecDepth 20000 in
theorem kX5 (l : Launch) : CtC l yX5_init cX5_init 1 4 83 23 994 5 [.null, .null, .null, .null, .null, .int 0, .int 0] (fun _ => []) (Blk 1 24 (ShF 1)) := by
  refine CtC.of (by decide) rfl (fun _ _ => Nat.le_of_ble_eq_true rfl) ?_
  intro X h0 C hin hXl hR
  have C : CxC X RX5 cX5_init 1 none 4 83 23 994 := C
  show JC X 0 0 0 [(0, .ref h0)] [] [(h0, .inr (5, [.null, .null, .null, .null, .null, .int 0, .int 0]))]
  refine JC.aload_n (pc := 0) C dX5_init_0 rfl 0 rfl ?_
  refine JC.objInit (pc := 1) C tcX5_3 ti_obj tk_obj dX5_init_1 (Nat.le_of_ble_eq_true rfl) (Nat.le_of_ble_eq_true rfl) ?_
  refine JC.aload_n (pc := 4) C dX5_init_4 rfl 0 rfl ?_
  refine JC.new (pc := 5) C kcX4 tlX5_9 tn_X4 tz_X4 [.null, .null, .null, .int 0, .null] (fun j hj => by rcases (show j = 0 ∨ j = 1 ∨ j = 2 ∨ j = 3 ∨ j = 4 by omega) with rfl | rfl | rfl | rfl | rfl <;> rfl) (Nat.le_of_ble_eq_true rfl) (Nat.le_of_ble_eq_true rfl) dX5_init_5 (fun q5 => ?_)
  refine JC.dup (pc := 8) C dX5_init_8 rfl ?_
  refine JC.iconst (pc := 9) (v := 1) C dX5_init_9 (by decide) ?_
  refine JC.getsN (pc := 10) (k := 118) C rfl rfl tsX5_11 dX5_init_10 ?_
  refine JC.getsN (pc := 13) (k := 119) C rfl rfl tsX5_15 dX5_init_13 ?_
  refine JC.getsN (pc := 16) (k := 120) C rfl rfl tsX5_18 dX5_init_16 ?_
  refine JC.mkI (pc := 19) C (kX4a (Yl X)) wyX4_init tiX4_init rfl tmX5_21 [.int 1, .ref (Ysd X 118), .ref (Ysd X 119), .ref (Ysd X 120)] [.ref q5, .ref h0] rfl rfl (Nat.le_of_ble_eq_true rfl) (Nat.le_of_ble_eq_true rfl) (Nat.le_of_ble_eq_true rfl) (Nat.le_of_ble_eq_true rfl) (Nat.le_of_ble_eq_true rfl) rfl dX5_init_19 (fun blk hB => ?_)
  obtain ⟨a1, s1, ha1, hw1, hP1⟩ := hB
  subst hw1
  subst ha1
  refine JC.wsEq (ws' := (h0, .inr (5, [.null, .null, .null, .null, .null, .int 0, .int 0])) :: ([] ++ wl (Ycl X) (mx a1 (Ysd X)) (mx s1 st0) (List.range' 2 2))) rfl ?_
  refine JC.putF (pc := 22) C hin kcX5 0 (Nat.le_of_ble_eq_true rfl) tpX5_24 rfl rfl rfl rfl dX5_init_22 (Nat.le_of_ble_eq_true rfl) (fs' := [.ref (a1 2), .null, .null, .null, .null, .int 0, .int 0]) rfl ?_
  refine JC.aload_n (pc := 25) C dX5_init_25 rfl 0 rfl ?_
  refine JC.new (pc := 26) C kcX1 tlX5_30 tn_X1 tz_X1 [.null, .null, .null, .null, .null, .null, .null, .null, .int 0, .int 0] (fun j hj => by rcases (show j = 0 ∨ j = 1 ∨ j = 2 ∨ j = 3 ∨ j = 4 ∨ j = 5 ∨ j = 6 ∨ j = 7 ∨ j = 8 ∨ j = 9 by omega) with rfl | rfl | rfl | rfl | rfl | rfl | rfl | rfl | rfl | rfl <;> rfl) (Nat.le_of_ble_eq_true rfl) (Nat.le_of_ble_eq_true rfl) dX5_init_26 (fun q26 => ?_)
  refine JC.dup (pc := 29) C dX5_init_29 rfl ?_
  refine JC.mkN (pc := 30) C (kX1 (Yl X)) wyX1_init tiX1_init rfl tmX5_32 [] [.ref q26, .ref h0] rfl rfl (Nat.le_of_ble_eq_true rfl) (Nat.le_of_ble_eq_true rfl) (Nat.le_of_ble_eq_true rfl) (Nat.le_of_ble_eq_true rfl) (Nat.le_of_ble_eq_true rfl) rfl dX5_init_30 (fun blk hB => ?_)
  obtain ⟨a2, s2, ha2, hw2, hP2⟩ := hB
  subst hw2
  subst ha2
  refine JC.wsEq (ws' := (h0, .inr (5, [.ref (a1 2), .null, .null, .null, .null, .int 0, .int 0])) :: (([] ++ wl (Ycl X) (mx a1 (Ysd X)) (mx s1 st0) (List.range' 2 2)) ++ wl (Ycl X) (mx a2 (Ysd X)) (mx s2 st0) (List.range' 4 10))) rfl ?_
  refine JC.putF (pc := 33) C hin kcX5 1 (Nat.le_of_ble_eq_true rfl) tpX5_33 rfl rfl rfl rfl dX5_init_33 (Nat.le_of_ble_eq_true rfl) (fs' := [.ref (a1 2), .ref (a2 4), .null, .null, .null, .int 0, .int 0]) rfl ?_
  refine JC.aload_n (pc := 36) C dX5_init_36 rfl 0 rfl ?_
  refine JC.new (pc := 37) C kcX3 tlX5_37 tn_X3 tz_X3 [.null, .null, .null, .null] (fun j hj => by rcases (show j = 0 ∨ j = 1 ∨ j = 2 ∨ j = 3 by omega) with rfl | rfl | rfl | rfl <;> rfl) (Nat.le_of_ble_eq_true rfl) (Nat.le_of_ble_eq_true rfl) dX5_init_37 (fun q37 => ?_)
  refine JC.dup (pc := 40) C dX5_init_40 rfl ?_
  refine JC.mkN (pc := 41) C (kX3 (Yl X)) wyX3_init tiX3_init rfl tmX5_39 [] [.ref q37, .ref h0] rfl rfl (Nat.le_of_ble_eq_true rfl) (Nat.le_of_ble_eq_true rfl) (Nat.le_of_ble_eq_true rfl) (Nat.le_of_ble_eq_true rfl) (Nat.le_of_ble_eq_true rfl) rfl dX5_init_41 (fun blk hB => ?_)
  obtain ⟨a3, s3, ha3, hw3, hP3⟩ := hB
  subst hw3
  subst ha3
  refine JC.wsEq (ws' := (h0, .inr (5, [.ref (a1 2), .ref (a2 4), .null, .null, .null, .int 0, .int 0])) :: ((([] ++ wl (Ycl X) (mx a1 (Ysd X)) (mx s1 st0) (List.range' 2 2)) ++ wl (Ycl X) (mx a2 (Ysd X)) (mx s2 st0) (List.range' 4 10)) ++ wl (Ycl X) (mx a3 (Ysd X)) (mx s3 st0) (List.range' 14 6))) rfl ?_
  refine JC.putF (pc := 44) C hin kcX5 2 (Nat.le_of_ble_eq_true rfl) tpX5_40 rfl rfl rfl rfl dX5_init_44 (Nat.le_of_ble_eq_true rfl) (fs' := [.ref (a1 2), .ref (a2 4), .ref (a3 14), .null, .null, .int 0, .int 0]) rfl ?_
  refine JC.aload_n (pc := 47) C dX5_init_47 rfl 0 rfl ?_
  refine JC.new (pc := 48) C kcX7 tlX5_44 tn_X7 tz_X7 [.int 0, .int 0, .int 0, .int 0] (fun j hj => by rcases (show j = 0 ∨ j = 1 ∨ j = 2 ∨ j = 3 by omega) with rfl | rfl | rfl | rfl <;> rfl) (Nat.le_of_ble_eq_true rfl) (Nat.le_of_ble_eq_true rfl) dX5_init_48 (fun q48 => ?_)
  refine JC.dup (pc := 51) C dX5_init_51 rfl ?_
  refine JC.mkN (pc := 52) C (kX7 (Yl X)) wyX7_init tiX7_init rfl tmX5_46 [] [.ref q48, .ref h0] rfl rfl (Nat.le_of_ble_eq_true rfl) (Nat.le_of_ble_eq_true rfl) (Nat.le_of_ble_eq_true rfl) (Nat.le_of_ble_eq_true rfl) (Nat.le_of_ble_eq_true rfl) rfl dX5_init_52 (fun blk hB => ?_)
  obtain ⟨a4, s4, ha4, hw4, hP4⟩ := hB
  subst hw4
  subst ha4
  refine JC.wsEq (ws' := (h0, .inr (5, [.ref (a1 2), .ref (a2 4), .ref (a3 14), .null, .null, .int 0, .int 0])) :: (((([] ++ wl (Ycl X) (mx a1 (Ysd X)) (mx s1 st0) (List.range' 2 2)) ++ wl (Ycl X) (mx a2 (Ysd X)) (mx s2 st0) (List.range' 4 10)) ++ wl (Ycl X) (mx a3 (Ysd X)) (mx s3 st0) (List.range' 14 6)) ++ wl (Ycl X) (mx a4 (Ysd X)) (mx s4 st0) (List.range' 20 1))) rfl ?_
  refine JC.putF (pc := 55) C hin kcX5 3 (Nat.le_of_ble_eq_true rfl) tpX5_47 rfl rfl rfl rfl dX5_init_55 (Nat.le_of_ble_eq_true rfl) (fs' := [.ref (a1 2), .ref (a2 4), .ref (a3 14), .ref (a4 20), .null, .int 0, .int 0]) rfl ?_
  refine JC.aload_n (pc := 58) C dX5_init_58 rfl 0 rfl ?_
  refine JC.new (pc := 59) C kcX0 tlX5_51 tn_X0 tz_X0 [.null, .null, .null, .int 0] (fun j hj => by rcases (show j = 0 ∨ j = 1 ∨ j = 2 ∨ j = 3 by omega) with rfl | rfl | rfl | rfl <;> rfl) (Nat.le_of_ble_eq_true rfl) (Nat.le_of_ble_eq_true rfl) dX5_init_59 (fun q59 => ?_)
  refine JC.dup (pc := 62) C dX5_init_62 rfl ?_
  refine JC.mkN (pc := 63) C (kX0 (Yl X)) wyX0_init tiX0_init rfl tmX5_53 [] [.ref q59, .ref h0] rfl rfl (Nat.le_of_ble_eq_true rfl) (Nat.le_of_ble_eq_true rfl) (Nat.le_of_ble_eq_true rfl) (Nat.le_of_ble_eq_true rfl) (Nat.le_of_ble_eq_true rfl) rfl dX5_init_63 (fun blk hB => ?_)
  obtain ⟨a5, s5, ha5, hw5, hP5⟩ := hB
  subst hw5
  subst ha5
  refine JC.wsEq (ws' := (h0, .inr (5, [.ref (a1 2), .ref (a2 4), .ref (a3 14), .ref (a4 20), .null, .int 0, .int 0])) :: ((((([] ++ wl (Ycl X) (mx a1 (Ysd X)) (mx s1 st0) (List.range' 2 2)) ++ wl (Ycl X) (mx a2 (Ysd X)) (mx s2 st0) (List.range' 4 10)) ++ wl (Ycl X) (mx a3 (Ysd X)) (mx s3 st0) (List.range' 14 6)) ++ wl (Ycl X) (mx a4 (Ysd X)) (mx s4 st0) (List.range' 20 1)) ++ wl (Ycl X) (mx a5 (Ysd X)) (mx s5 st0) (List.range' 21 4))) rfl ?_
  refine JC.putF (pc := 66) C hin kcX5 4 (Nat.le_of_ble_eq_true rfl) tpX5_54 rfl rfl rfl rfl dX5_init_66 (Nat.le_of_ble_eq_true rfl) (fs' := [.ref (a1 2), .ref (a2 4), .ref (a3 14), .ref (a4 20), .ref (a5 21), .int 0, .int 0]) rfl ?_
  refine JC.aload_n (pc := 69) C dX5_init_69 rfl 0 rfl ?_
  refine JC.iconst (pc := 70) (v := 0) C dX5_init_70 (by decide) ?_
  refine JC.put (pc := 71) C kcX5 5 (Nat.le_of_ble_eq_true rfl) tpX5_58 rfl rfl rfl rfl dX5_init_71 (Nat.le_of_ble_eq_true rfl) (fs' := [.ref (a1 2), .ref (a2 4), .ref (a3 14), .ref (a4 20), .ref (a5 21), .int 0, .int 0]) rfl ?_
  refine JC.aload_n (pc := 74) C dX5_init_74 rfl 0 rfl ?_
  refine JC.iconst (pc := 75) (v := 0) C dX5_init_75 (by decide) ?_
  refine JC.put (pc := 76) C kcX5 6 (Nat.le_of_ble_eq_true rfl) tpX5_62 rfl rfl rfl rfl dX5_init_76 (Nat.le_of_ble_eq_true rfl) (fs' := [.ref (a1 2), .ref (a2 4), .ref (a3 14), .ref (a4 20), .ref (a5 21), .int 0, .int 0]) rfl ?_
  refine JC.vret (pc := 79) C hR ⟨(fun k => if k < 2 then h0 else if k < 4 then a1 k else if k < 14 then a2 k else if k < 20 then a3 k else if k < 21 then a4 k else a5 k), (fun k => if k < 2 then (fun j => 0) else if k < 4 then s1 k else if k < 14 then s2 k else if k < 20 then s3 k else if k < 21 then s4 k else s5 k), rfl, rfl, ?_⟩ (Nat.le_of_ble_eq_true rfl) (Nat.le_of_ble_eq_true rfl) dX5_init_79
  exact ⟨⟨hP1.1, hP2.1.1, hP3.1.1⟩, hP2.1.2, hP3.1.2, hP1.2, hP2.2.1, hP3.2, hP4, rfl, rfl, hP2.2.2.1, hP2.2.2.2, hP5⟩
