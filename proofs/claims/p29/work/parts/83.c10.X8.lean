/-! THE CONSTRUCTORS: X8 (written by wip/p29/gen/cgen.py) -/
theorem tcX8_1 : Cond.methodLink RX8 1 Lib.objectInit ∈ lw_g := in_g 36 (by decide +kernel) (by decide +kernel)
theorem tlX8_7 : Cond.classLink RX8 7 RX5 ∈ lw_g := in_g 39 (by decide +kernel) (by decide +kernel)
theorem tmX8_9 : Cond.methodLinkNest RX8 9 yX5_init "FountainShow" ∈ lw_n := in_n 41 (by decide +kernel) (by decide +kernel)
theorem tpX8_10 : Cond.fieldLink RX8 10 RX8 (TX8 0).2.1 (TX8 0).2.2.1 ∈ lw_g := in_g 298 (by decide +kernel) (by decide +kernel)
theorem tpX8_16 : Cond.fieldLink RX8 16 RX8 (TX8 1).2.1 (TX8 1).2.2.1 ∈ lw_g := in_g 299 (by decide +kernel) (by decide +kernel)
theorem tlX8_19 : Cond.classLink RX8 19 RX6 ∈ lw_g := in_g 248 (by decide +kernel) (by decide +kernel)
theorem tn_X6 : Cond.instantiable RX6 2 ∈ lw_g := in_g 249 (by decide +kernel) (by decide +kernel)
theorem tz_X6 : Cond.initialized RX6 ∈ lw_g := in_g 29 (by decide +kernel) (by decide +kernel)
theorem wyX6_init : Wy yX6_init cX6_init 1 none 0 := ⟨in_g 252 (by decide +kernel) (by decide +kernel), in_g 29 (by decide +kernel) (by decide +kernel), by decide +kernel, by decide +kernel, by decide +kernel⟩
theorem tiX6_init : Cond.instanceMethod yX6_init ∈ lw_g := in_g 251 (by decide +kernel) (by decide +kernel)
theorem tmX8_21 : Cond.methodLinkNest RX8 21 yX6_init "FountainShow" ∈ lw_n := in_n 250 (by decide +kernel) (by decide +kernel)
theorem tpX8_22 : Cond.fieldLink RX8 22 RX8 (TX8 2).2.1 (TX8 2).2.2.1 ∈ lw_g := in_g 300 (by decide +kernel) (by decide +kernel)
theorem tpX8_26 : Cond.fieldLink RX8 26 RX8 (TX8 3).2.1 (TX8 3).2.2.1 ∈ lw_g := in_g 301 (by decide +kernel) (by decide +kernel)
theorem tlX8_29 : Cond.classLink RX8 29 RX2 ∈ lw_g := in_g 265 (by decide +kernel) (by decide +kernel)
theorem tn_X2 : Cond.instantiable RX2 7 ∈ lw_g := in_g 266 (by decide +kernel) (by decide +kernel)
theorem tz_X2 : Cond.initialized RX2 ∈ lw_g := in_g 30 (by decide +kernel) (by decide +kernel)
theorem wyX2_init : Wy yX2_init cX2_init 1 none 0 := ⟨in_g 269 (by decide +kernel) (by decide +kernel), in_g 30 (by decide +kernel) (by decide +kernel), by decide +kernel, by decide +kernel, by decide +kernel⟩
theorem tiX2_init : Cond.instanceMethod yX2_init ∈ lw_g := in_g 268 (by decide +kernel) (by decide +kernel)
theorem tmX8_31 : Cond.methodLinkNest RX8 31 yX2_init "FountainShow" ∈ lw_n := in_n 267 (by decide +kernel) (by decide +kernel)
theorem tpX8_32 : Cond.fieldLink RX8 32 RX8 (TX8 4).2.1 (TX8 4).2.2.1 ∈ lw_g := in_g 302 (by decide +kernel) (by decide +kernel)
set_option maxRecDepth 20000 in
theorem kX8 (l : Launch) : CtC l yX8_init cX8_init 1 6 123 104 4279 8 [.null, .null, .null, .null, .null] (fun _ => []) (Blk 0 105 FoF) := by
  refine CtC.of (by decide) rfl (fun _ _ => Nat.le_of_ble_eq_true rfl) ?_
  intro X h0 C hin hXl hR
  have C : CxC X RX8 cX8_init 1 none 6 123 104 4279 := C
  show JC X 0 0 0 [(0, .ref h0)] [] [(h0, .inr (8, [.null, .null, .null, .null, .null]))]
  refine JC.aload_n (pc := 0) C dX8_init_0 rfl 0 rfl ?_
  refine JC.objInit (pc := 1) C tcX8_1 ti_obj tk_obj dX8_init_1 (Nat.le_of_ble_eq_true rfl) (Nat.le_of_ble_eq_true rfl) ?_
  refine JC.aload_n (pc := 4) C dX8_init_4 rfl 0 rfl ?_
  refine JC.new (pc := 5) C kcX5 tlX8_7 tn_X5 tz_X5 [.null, .null, .null, .null, .null, .int 0, .int 0] (fun j hj => by rcases (show j = 0 ∨ j = 1 ∨ j = 2 ∨ j = 3 ∨ j = 4 ∨ j = 5 ∨ j = 6 by omega) with rfl | rfl | rfl | rfl | rfl | rfl | rfl <;> rfl) (Nat.le_of_ble_eq_true rfl) (Nat.le_of_ble_eq_true rfl) dX8_init_5 (fun q5 => ?_)
  refine JC.dup (pc := 8) C dX8_init_8 rfl ?_
  refine JC.mkN (pc := 9) C (kX5 (Yl X)) wyX5_init tiX5_init rfl tmX8_9 [] [.ref q5, .ref h0] rfl rfl (Nat.le_of_ble_eq_true rfl) (Nat.le_of_ble_eq_true rfl) (Nat.le_of_ble_eq_true rfl) (Nat.le_of_ble_eq_true rfl) (Nat.le_of_ble_eq_true rfl) rfl dX8_init_9 (fun blk hB => ?_)
  obtain ⟨a1, s1, ha1, hw1, hP1⟩ := hB
  subst hw1
  subst ha1
  refine JC.wsEq (ws' := (h0, .inr (8, [.null, .null, .null, .null, .null])) :: ([] ++ wl (Ycl X) (mx a1 (Ysd X)) (mx s1 st0) (List.range' 1 24))) rfl ?_
  refine JC.putF (pc := 12) C hin kcX8 0 (Nat.le_of_ble_eq_true rfl) tpX8_10 rfl rfl rfl rfl dX8_init_12 (Nat.le_of_ble_eq_true rfl) (fs' := [.ref (a1 1), .null, .null, .null, .null]) rfl ?_
  refine JC.aload_n (pc := 15) C dX8_init_15 rfl 0 rfl ?_
  refine JC.new (pc := 16) C kcX5 tlX8_7 tn_X5 tz_X5 [.null, .null, .null, .null, .null, .int 0, .int 0] (fun j hj => by rcases (show j = 0 ∨ j = 1 ∨ j = 2 ∨ j = 3 ∨ j = 4 ∨ j = 5 ∨ j = 6 by omega) with rfl | rfl | rfl | rfl | rfl | rfl | rfl <;> rfl) (Nat.le_of_ble_eq_true rfl) (Nat.le_of_ble_eq_true rfl) dX8_init_16 (fun q16 => ?_)
  refine JC.dup (pc := 19) C dX8_init_19 rfl ?_
  refine JC.mkN (pc := 20) C (kX5 (Yl X)) wyX5_init tiX5_init rfl tmX8_9 [] [.ref q16, .ref h0] rfl rfl (Nat.le_of_ble_eq_true rfl) (Nat.le_of_ble_eq_true rfl) (Nat.le_of_ble_eq_true rfl) (Nat.le_of_ble_eq_true rfl) (Nat.le_of_ble_eq_true rfl) rfl dX8_init_20 (fun blk hB => ?_)
  obtain ⟨a2, s2, ha2, hw2, hP2⟩ := hB
  subst hw2
  subst ha2
  refine JC.wsEq (ws' := (h0, .inr (8, [.ref (a1 1), .null, .null, .null, .null])) :: (([] ++ wl (Ycl X) (mx a1 (Ysd X)) (mx s1 st0) (List.range' 1 24)) ++ wl (Ycl X) (mx a2 (Ysd X)) (mx s2 st0) (List.range' 1 24))) rfl ?_
  refine JC.putF (pc := 23) C hin kcX8 1 (Nat.le_of_ble_eq_true rfl) tpX8_16 rfl rfl rfl rfl dX8_init_23 (Nat.le_of_ble_eq_true rfl) (fs' := [.ref (a1 1), .ref (a2 1), .null, .null, .null]) rfl ?_
  refine JC.aload_n (pc := 26) C dX8_init_26 rfl 0 rfl ?_
  refine JC.new (pc := 27) C kcX6 tlX8_19 tn_X6 tz_X6 [.null, .int 0] (fun j hj => by rcases (show j = 0 ∨ j = 1 by omega) with rfl | rfl <;> rfl) (Nat.le_of_ble_eq_true rfl) (Nat.le_of_ble_eq_true rfl) dX8_init_27 (fun q27 => ?_)
  refine JC.dup (pc := 30) C dX8_init_30 rfl ?_
  refine JC.mkN (pc := 31) C (kX6 (Yl X)) wyX6_init tiX6_init rfl tmX8_21 [] [.ref q27, .ref h0] rfl rfl (Nat.le_of_ble_eq_true rfl) (Nat.le_of_ble_eq_true rfl) (Nat.le_of_ble_eq_true rfl) (Nat.le_of_ble_eq_true rfl) (Nat.le_of_ble_eq_true rfl) rfl dX8_init_31 (fun blk hB => ?_)
  obtain ⟨a3, s3, ha3, hw3, hP3⟩ := hB
  subst hw3
  subst ha3
  refine JC.wsEq (ws' := (h0, .inr (8, [.ref (a1 1), .ref (a2 1), .null, .null, .null])) :: ((([] ++ wl (Ycl X) (mx a1 (Ysd X)) (mx s1 st0) (List.range' 1 24)) ++ wl (Ycl X) (mx a2 (Ysd X)) (mx s2 st0) (List.range' 1 24)) ++ wl (Ycl X) (mx a3 (Ysd X)) (mx s3 st0) (List.range' 49 25))) rfl ?_
  refine JC.putF (pc := 34) C hin kcX8 2 (Nat.le_of_ble_eq_true rfl) tpX8_22 rfl rfl rfl rfl dX8_init_34 (Nat.le_of_ble_eq_true rfl) (fs' := [.ref (a1 1), .ref (a2 1), .ref (a3 49), .null, .null]) rfl ?_
  refine JC.aload_n (pc := 37) C dX8_init_37 rfl 0 rfl ?_
  refine JC.new (pc := 38) C kcX6 tlX8_19 tn_X6 tz_X6 [.null, .int 0] (fun j hj => by rcases (show j = 0 ∨ j = 1 by omega) with rfl | rfl <;> rfl) (Nat.le_of_ble_eq_true rfl) (Nat.le_of_ble_eq_true rfl) dX8_init_38 (fun q38 => ?_)
  refine JC.dup (pc := 41) C dX8_init_41 rfl ?_
  refine JC.mkN (pc := 42) C (kX6 (Yl X)) wyX6_init tiX6_init rfl tmX8_21 [] [.ref q38, .ref h0] rfl rfl (Nat.le_of_ble_eq_true rfl) (Nat.le_of_ble_eq_true rfl) (Nat.le_of_ble_eq_true rfl) (Nat.le_of_ble_eq_true rfl) (Nat.le_of_ble_eq_true rfl) rfl dX8_init_42 (fun blk hB => ?_)
  obtain ⟨a4, s4, ha4, hw4, hP4⟩ := hB
  subst hw4
  subst ha4
  refine JC.wsEq (ws' := (h0, .inr (8, [.ref (a1 1), .ref (a2 1), .ref (a3 49), .null, .null])) :: (((([] ++ wl (Ycl X) (mx a1 (Ysd X)) (mx s1 st0) (List.range' 1 24)) ++ wl (Ycl X) (mx a2 (Ysd X)) (mx s2 st0) (List.range' 1 24)) ++ wl (Ycl X) (mx a3 (Ysd X)) (mx s3 st0) (List.range' 49 25)) ++ wl (Ycl X) (mx a4 (Ysd X)) (mx s4 st0) (List.range' 49 25))) rfl ?_
  refine JC.putF (pc := 45) C hin kcX8 3 (Nat.le_of_ble_eq_true rfl) tpX8_26 rfl rfl rfl rfl dX8_init_45 (Nat.le_of_ble_eq_true rfl) (fs' := [.ref (a1 1), .ref (a2 1), .ref (a3 49), .ref (a4 49), .null]) rfl ?_
  refine JC.aload_n (pc := 48) C dX8_init_48 rfl 0 rfl ?_
  refine JC.new (pc := 49) C kcX2 tlX8_29 tn_X2 tz_X2 [.null, .null, .int 0, .int 0, .int 0, .int 0, .int 0] (fun j hj => by rcases (show j = 0 ∨ j = 1 ∨ j = 2 ∨ j = 3 ∨ j = 4 ∨ j = 5 ∨ j = 6 by omega) with rfl | rfl | rfl | rfl | rfl | rfl | rfl <;> rfl) (Nat.le_of_ble_eq_true rfl) (Nat.le_of_ble_eq_true rfl) dX8_init_49 (fun q49 => ?_)
  refine JC.dup (pc := 52) C dX8_init_52 rfl ?_
  refine JC.mkN (pc := 53) C (kX2 (Yl X)) wyX2_init tiX2_init rfl tmX8_31 [] [.ref q49, .ref h0] rfl rfl (Nat.le_of_ble_eq_true rfl) (Nat.le_of_ble_eq_true rfl) (Nat.le_of_ble_eq_true rfl) (Nat.le_of_ble_eq_true rfl) (Nat.le_of_ble_eq_true rfl) rfl dX8_init_53 (fun blk hB => ?_)
  obtain ⟨a5, s5, ha5, hw5, hP5⟩ := hB
  subst hw5
  subst ha5
  refine JC.wsEq (ws' := (h0, .inr (8, [.ref (a1 1), .ref (a2 1), .ref (a3 49), .ref (a4 49), .null])) :: ((((([] ++ wl (Ycl X) (mx a1 (Ysd X)) (mx s1 st0) (List.range' 1 24)) ++ wl (Ycl X) (mx a2 (Ysd X)) (mx s2 st0) (List.range' 1 24)) ++ wl (Ycl X) (mx a3 (Ysd X)) (mx s3 st0) (List.range' 49 25)) ++ wl (Ycl X) (mx a4 (Ysd X)) (mx s4 st0) (List.range' 49 25)) ++ wl (Ycl X) (mx a5 (Ysd X)) (mx s5 st0) (List.range' 99 6))) rfl ?_
  refine JC.putF (pc := 56) C hin kcX8 4 (Nat.le_of_ble_eq_true rfl) tpX8_32 rfl rfl rfl rfl dX8_init_56 (Nat.le_of_ble_eq_true rfl) (fs' := [.ref (a1 1), .ref (a2 1), .ref (a3 49), .ref (a4 49), .ref (a5 99)]) rfl ?_
  refine JC.vret (pc := 59) C hR ⟨(fun k => if k < 1 then h0 else if k < 25 then a1 k else if k < 49 then a2 (k - 24) else if k < 74 then a3 k else if k < 99 then a4 (k - 25) else a5 k), (fun k => if k < 1 then (fun j => 0) else if k < 25 then s1 k else if k < 49 then s2 (k - 24) else if k < 74 then s3 k else if k < 99 then s4 (k - 25) else s5 k), rfl, rfl, ?_⟩ (Nat.le_of_ble_eq_true rfl) (Nat.le_of_ble_eq_true rfl) dX8_init_59
  exact ⟨⟨ShF_shift hP1 (fun i hi => by (try dsimp only); repeat (first | rw [if_pos (by omega)] | rw [if_neg (by omega)]); try (congr 1; omega)), ShF_shift hP2 (fun i hi => by (try dsimp only); repeat (first | rw [if_pos (by omega)] | rw [if_neg (by omega)]); try (congr 1; omega)), ShF_shift hP3.1 (fun i hi => by (try dsimp only); repeat (first | rw [if_pos (by omega)] | rw [if_neg (by omega)]); try (congr 1; omega)), ShF_shift hP4.1 (fun i hi => by (try dsimp only); repeat (first | rw [if_pos (by omega)] | rw [if_neg (by omega)]); try (congr 1; omega))⟩, hP3.2, hP4.2, hP5⟩
