/-! THE CONSTRUCTORS: X2 (written by wip/p29/gen/cgen.py) -/
theorem tcX2_3 : Cond.methodLink RX2 3 Lib.objectInit ∈ lw_g := in_g 270 (by decide +kernel) (by decide +kernel)
theorem tlX2_9 : Cond.classLink RX2 9 RX0 ∈ lw_g := in_g 271 (by decide +kernel) (by decide +kernel)
theorem tn_X0 : Cond.instantiable RX0 4 ∈ lw_g := in_g 195 (by decide +kernel) (by decide +kernel)
theorem tz_X0 : Cond.initialized RX0 ∈ lw_g := in_g 28 (by decide +kernel) (by decide +kernel)
theorem wyX0_init : Wy yX0_init cX0_init 1 none 0 := ⟨in_g 198 (by decide +kernel) (by decide +kernel), in_g 28 (by decide +kernel) (by decide +kernel), by decide +kernel, by decide +kernel, by decide +kernel⟩
theorem tiX0_init : Cond.instanceMethod yX0_init ∈ lw_g := in_g 197 (by decide +kernel) (by decide +kernel)
theorem tmX2_11 : Cond.methodLinkNest RX2 11 yX0_init "FountainShow" ∈ lw_n := in_n 272 (by decide +kernel) (by decide +kernel)
theorem tpX2_12 : Cond.fieldLink RX2 12 RX2 (TX2 0).2.1 (TX2 0).2.2.1 ∈ lw_g := in_g 273 (by decide +kernel) (by decide +kernel)
theorem ta_char : Cond.arrayClass (newarray.typeOf .char) ∈ lw_g := in_g 297 (by decide +kernel) (by decide +kernel)
theorem tpX2_18 : Cond.fieldLink RX2 18 RX2 (TX2 1).2.1 (TX2 1).2.2.1 ∈ lw_g := in_g 275 (by decide +kernel) (by decide +kernel)
theorem tpX2_22 : Cond.fieldLink RX2 22 RX2 (TX2 2).2.1 (TX2 2).2.2.1 ∈ lw_g := in_g 276 (by decide +kernel) (by decide +kernel)
theorem tpX2_26 : Cond.fieldLink RX2 26 RX2 (TX2 3).2.1 (TX2 3).2.2.1 ∈ lw_g := in_g 278 (by decide +kernel) (by decide +kernel)
theorem tpX2_29 : Cond.fieldLink RX2 29 RX2 (TX2 4).2.1 (TX2 4).2.2.1 ∈ lw_g := in_g 279 (by decide +kernel) (by decide +kernel)
theorem tpX2_32 : Cond.fieldLink RX2 32 RX2 (TX2 5).2.1 (TX2 5).2.2.1 ∈ lw_g := in_g 280 (by decide +kernel) (by decide +kernel)
theorem tpX2_35 : Cond.fieldLink RX2 35 RX2 (TX2 6).2.1 (TX2 6).2.2.1 ∈ lw_g := in_g 281 (by decide +kernel) (by decide +kernel)
set_option maxRecDepth 20000 in
theorem kX2 (l : Launch) : CtC l yX2_init cX2_init 1 2 32 5 264 2 [.null, .null, .int 0, .int 0, .int 0, .int 0, .int 0] (fun _ => []) (Blk 99 6 PaF) := by
  refine CtC.of (by decide) rfl (fun _ _ => Nat.le_of_ble_eq_true rfl) ?_
  intro X h0 C hin hXl hR
  have C : CxC X RX2 cX2_init 1 none 2 32 5 264 := C
  show JC X 0 0 0 [(0, .ref h0)] [] [(h0, .inr (2, [.null, .null, .int 0, .int 0, .int 0, .int 0, .int 0]))]
  refine JC.aload_n (pc := 0) C dX2_init_0 rfl 0 rfl ?_
  refine JC.objInit (pc := 1) C tcX2_3 ti_obj tk_obj dX2_init_1 (Nat.le_of_ble_eq_true rfl) (Nat.le_of_ble_eq_true rfl) ?_
  refine JC.aload_n (pc := 4) C dX2_init_4 rfl 0 rfl ?_
  refine JC.new (pc := 5) C kcX0 tlX2_9 tn_X0 tz_X0 [.null, .null, .null, .int 0] (fun j hj => by rcases (show j = 0 ∨ j = 1 ∨ j = 2 ∨ j = 3 by omega) with rfl | rfl | rfl | rfl <;> rfl) (Nat.le_of_ble_eq_true rfl) (Nat.le_of_ble_eq_true rfl) dX2_init_5 (fun q5 => ?_)
  refine JC.dup (pc := 8) C dX2_init_8 rfl ?_
  refine JC.mkN (pc := 9) C (kX0 (Yl X)) wyX0_init tiX0_init rfl tmX2_11 [] [.ref q5, .ref h0] rfl rfl (Nat.le_of_ble_eq_true rfl) (Nat.le_of_ble_eq_true rfl) (Nat.le_of_ble_eq_true rfl) (Nat.le_of_ble_eq_true rfl) (Nat.le_of_ble_eq_true rfl) rfl dX2_init_9 (fun blk hB => ?_)
  obtain ⟨a1, s1, ha1, hw1, hP1⟩ := hB
  subst hw1
  subst ha1
  refine JC.wsEq (ws' := (h0, .inr (2, [.null, .null, .int 0, .int 0, .int 0, .int 0, .int 0])) :: ([] ++ wl (Ycl X) (mx a1 (Ysd X)) (mx s1 st0) (List.range' 21 4))) rfl ?_
  refine JC.putF (pc := 12) C hin kcX2 0 (Nat.le_of_ble_eq_true rfl) tpX2_12 rfl rfl rfl rfl dX2_init_12 (Nat.le_of_ble_eq_true rfl) (fs' := [.ref (a1 21), .null, .int 0, .int 0, .int 0, .int 0, .int 0]) rfl ?_
  refine JC.aload_n (pc := 15) C dX2_init_15 rfl 0 rfl ?_
  refine JC.bipush (pc := 16) (v := 80) C dX2_init_16 (by decide) ?_
  refine JC.newa (pc := 18) (ty := .char) (cn := 102) (N := 80) C (Or.inr (Or.inr ⟨rfl, rfl⟩)) rfl ta_char (fun _ => rfl) (by decide) rfl (Nat.le_of_ble_eq_true rfl) (Nat.le_of_ble_eq_true rfl) (Nat.le_of_ble_eq_true rfl) dX2_init_18 (fun q18 => ?_)
  refine JC.wsEq (ws' := (h0, .inr (2, [.ref (a1 21), .null, .int 0, .int 0, .int 0, .int 0, .int 0])) :: (([] ++ wl (Ycl X) (mx a1 (Ysd X)) (mx s1 st0) (List.range' 21 4)) ++ [(q18, .inl (Ycl X 102, 80, .inl (fun _ => 0)))])) rfl ?_
  refine JC.putF (pc := 20) C hin kcX2 1 (Nat.le_of_ble_eq_true rfl) tpX2_18 rfl rfl rfl rfl dX2_init_20 (Nat.le_of_ble_eq_true rfl) (fs' := [.ref (a1 21), .ref q18, .int 0, .int 0, .int 0, .int 0, .int 0]) rfl ?_
  refine JC.aload_n (pc := 23) C dX2_init_23 rfl 0 rfl ?_
  refine JC.iconst (pc := 24) (v := 0) C dX2_init_24 (by decide) ?_
  refine JC.put (pc := 25) C kcX2 2 (Nat.le_of_ble_eq_true rfl) tpX2_22 rfl rfl rfl rfl dX2_init_25 (Nat.le_of_ble_eq_true rfl) (fs' := [.ref (a1 21), .ref q18, .int 0, .int 0, .int 0, .int 0, .int 0]) rfl ?_
  refine JC.aload_n (pc := 28) C dX2_init_28 rfl 0 rfl ?_
  refine JC.iconst (pc := 29) (v := 0) C dX2_init_29 (by decide) ?_
  refine JC.put (pc := 30) C kcX2 3 (Nat.le_of_ble_eq_true rfl) tpX2_26 rfl rfl rfl rfl dX2_init_30 (Nat.le_of_ble_eq_true rfl) (fs' := [.ref (a1 21), .ref q18, .int 0, .int 0, .int 0, .int 0, .int 0]) rfl ?_
  refine JC.aload_n (pc := 33) C dX2_init_33 rfl 0 rfl ?_
  refine JC.iconst (pc := 34) (v := 0) C dX2_init_34 (by decide) ?_
  refine JC.put (pc := 35) C kcX2 4 (Nat.le_of_ble_eq_true rfl) tpX2_29 rfl rfl rfl rfl dX2_init_35 (Nat.le_of_ble_eq_true rfl) (fs' := [.ref (a1 21), .ref q18, .int 0, .int 0, .int 0, .int 0, .int 0]) rfl ?_
  refine JC.aload_n (pc := 38) C dX2_init_38 rfl 0 rfl ?_
  refine JC.iconst (pc := 39) (v := 0) C dX2_init_39 (by decide) ?_
  refine JC.put (pc := 40) C kcX2 5 (Nat.le_of_ble_eq_true rfl) tpX2_32 rfl rfl rfl rfl dX2_init_40 (Nat.le_of_ble_eq_true rfl) (fs' := [.ref (a1 21), .ref q18, .int 0, .int 0, .int 0, .int 0, .int 0]) rfl ?_
  refine JC.aload_n (pc := 43) C dX2_init_43 rfl 0 rfl ?_
  refine JC.iconst (pc := 44) (v := (-1)) C dX2_init_44 (by decide) ?_
  refine JC.put (pc := 45) C kcX2 6 (Nat.le_of_ble_eq_true rfl) tpX2_35 rfl rfl rfl rfl dX2_init_45 (Nat.le_of_ble_eq_true rfl) (fs' := [.ref (a1 21), .ref q18, .int 0, .int 0, .int 0, .int 0, .int (-1)]) rfl ?_
  refine JC.vret (pc := 48) C hR ⟨(fun k => if k < 100 then h0 else if k < 104 then a1 (k - 79) else q18), (fun k => if k < 100 then (fun j => if j = 6 then (-1) else 0) else if k < 104 then s1 (k - 79) else (fun _ => 0)), rfl, rfl, ?_⟩ (Nat.le_of_ble_eq_true rfl) (Nat.le_of_ble_eq_true rfl) dX2_init_48
  exact (show _ = _ from rfl)
