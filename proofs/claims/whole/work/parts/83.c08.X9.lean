/-! THE CONSTRUCTORS: X9 (written by wip/whole/gen/cgen.py) -/
theorem tcX9_1 : Cond.methodLink RX9 1 Lib.objectInit ∈ lw_g := in_g 750 (by decide +kernel) (by decide +kernel)
theorem tpX9_7 : Cond.fieldLink RX9 7 RX9 (TX9 0).2.1 (TX9 0).2.2.1 ∈ lw_g := in_g 755 (by decide +kernel) (by decide +kernel)
theorem tpX9_13 : Cond.fieldLink RX9 13 RX9 (TX9 1).2.1 (TX9 1).2.2.1 ∈ lw_g := in_g 756 (by decide +kernel) (by decide +kernel)
theorem tpX9_16 : Cond.fieldLink RX9 16 RX9 (TX9 2).2.1 (TX9 2).2.2.1 ∈ lw_g := in_g 757 (by decide +kernel) (by decide +kernel)
theorem ta_boolean : Cond.arrayClass (newarray.typeOf .boolean) ∈ lw_g := in_g 786 (by decide +kernel) (by decide +kernel)
theorem tpX9_19 : Cond.fieldLink RX9 19 RX9 (TX9 3).2.1 (TX9 3).2.2.1 ∈ lw_g := in_g 758 (by decide +kernel) (by decide +kernel)
theorem tpX9_23 : Cond.fieldLink RX9 23 RX9 (TX9 4).2.1 (TX9 4).2.2.1 ∈ lw_g := in_g 759 (by decide +kernel) (by decide +kernel)
theorem tpX9_26 : Cond.fieldLink RX9 26 RX9 (TX9 8).2.1 (TX9 8).2.2.1 ∈ lw_g := in_g 763 (by decide +kernel) (by decide +kernel)
theorem tcX9_29 : Cond.methodLink RX9 29 yX9_begin ∈ lw_g := in_g 751 (by decide +kernel) (by decide +kernel)
set_option maxRecDepth 20000 in
theorem kX9 (l : Launch) : CtC l yX9_init cX9_init 1 1 22 6 4626 9 [.null, .null, .null, .null, .null, .int 0, .int 0, .int 0, .null, .int 0] (fun _ => []) (Blk 105 7 MoF) := by
  refine CtC.of (by decide) rfl (fun _ _ => Nat.le_of_ble_eq_true rfl) ?_
  intro X h0 C hin hXl hR
  have C : CxC X RX9 cX9_init 1 none 1 22 6 4626 := C
  show JC X 0 0 0 [(0, .ref h0)] [] [(h0, .inr (9, [.null, .null, .null, .null, .null, .int 0, .int 0, .int 0, .null, .int 0]))]
  refine JC.aload_n (pc := 0) C dX9_init_0 rfl 0 rfl ?_
  refine JC.objInit (pc := 1) C tcX9_1 ti_obj tk_obj dX9_init_1 (Nat.le_of_ble_eq_true rfl) (Nat.le_of_ble_eq_true rfl) ?_
  refine JC.aload_n (pc := 4) C dX9_init_4 rfl 0 rfl ?_
  refine JC.sipush (pc := 5) (v := 1121) C dX9_init_5 (by decide) ?_
  refine JC.newa (pc := 8) (ty := .int) (cn := 100) (N := 1121) C (Or.inl ⟨rfl, rfl⟩) rfl ta_int (fun _ => rfl) (by decide) rfl (Nat.le_of_ble_eq_true rfl) (Nat.le_of_ble_eq_true rfl) (Nat.le_of_ble_eq_true rfl) dX9_init_8 (fun q8 => ?_)
  refine JC.wsEq (ws' := (h0, .inr (9, [.null, .null, .null, .null, .null, .int 0, .int 0, .int 0, .null, .int 0])) :: ([] ++ [(q8, .inl (Ycl X 100, 1121, .inl (fun _ => 0)))])) rfl ?_
  refine JC.putF (pc := 10) C hin kcX9 0 (Nat.le_of_ble_eq_true rfl) tpX9_7 rfl rfl rfl rfl dX9_init_10 (Nat.le_of_ble_eq_true rfl) (fs' := [.ref q8, .null, .null, .null, .null, .int 0, .int 0, .int 0, .null, .int 0]) rfl ?_
  refine JC.aload_n (pc := 13) C dX9_init_13 rfl 0 rfl ?_
  refine JC.sipush (pc := 14) (v := 1121) C dX9_init_14 (by decide) ?_
  refine JC.newa (pc := 17) (ty := .int) (cn := 100) (N := 1121) C (Or.inl ⟨rfl, rfl⟩) rfl ta_int (fun _ => rfl) (by decide) rfl (Nat.le_of_ble_eq_true rfl) (Nat.le_of_ble_eq_true rfl) (Nat.le_of_ble_eq_true rfl) dX9_init_17 (fun q17 => ?_)
  refine JC.wsEq (ws' := (h0, .inr (9, [.ref q8, .null, .null, .null, .null, .int 0, .int 0, .int 0, .null, .int 0])) :: (([] ++ [(q8, .inl (Ycl X 100, 1121, .inl (fun _ => 0)))]) ++ [(q17, .inl (Ycl X 100, 1121, .inl (fun _ => 0)))])) rfl ?_
  refine JC.putF (pc := 19) C hin kcX9 1 (Nat.le_of_ble_eq_true rfl) tpX9_13 rfl rfl rfl rfl dX9_init_19 (Nat.le_of_ble_eq_true rfl) (fs' := [.ref q8, .ref q17, .null, .null, .null, .int 0, .int 0, .int 0, .null, .int 0]) rfl ?_
  refine JC.aload_n (pc := 22) C dX9_init_22 rfl 0 rfl ?_
  refine JC.sipush (pc := 23) (v := 2242) C dX9_init_23 (by decide) ?_
  refine JC.newa (pc := 26) (ty := .int) (cn := 100) (N := 2242) C (Or.inl ⟨rfl, rfl⟩) rfl ta_int (fun _ => rfl) (by decide) rfl (Nat.le_of_ble_eq_true rfl) (Nat.le_of_ble_eq_true rfl) (Nat.le_of_ble_eq_true rfl) dX9_init_26 (fun q26 => ?_)
  refine JC.wsEq (ws' := (h0, .inr (9, [.ref q8, .ref q17, .null, .null, .null, .int 0, .int 0, .int 0, .null, .int 0])) :: ((([] ++ [(q8, .inl (Ycl X 100, 1121, .inl (fun _ => 0)))]) ++ [(q17, .inl (Ycl X 100, 1121, .inl (fun _ => 0)))]) ++ [(q26, .inl (Ycl X 100, 2242, .inl (fun _ => 0)))])) rfl ?_
  refine JC.putF (pc := 28) C hin kcX9 2 (Nat.le_of_ble_eq_true rfl) tpX9_16 rfl rfl rfl rfl dX9_init_28 (Nat.le_of_ble_eq_true rfl) (fs' := [.ref q8, .ref q17, .ref q26, .null, .null, .int 0, .int 0, .int 0, .null, .int 0]) rfl ?_
  refine JC.aload_n (pc := 31) C dX9_init_31 rfl 0 rfl ?_
  refine JC.iconst (pc := 32) (v := 2) C dX9_init_32 (by decide) ?_
  refine JC.newa (pc := 33) (ty := .boolean) (cn := 101) (N := 2) C (Or.inr (Or.inl ⟨rfl, rfl⟩)) rfl ta_boolean (fun _ => rfl) (by decide) rfl (Nat.le_of_ble_eq_true rfl) (Nat.le_of_ble_eq_true rfl) (Nat.le_of_ble_eq_true rfl) dX9_init_33 (fun q33 => ?_)
  refine JC.wsEq (ws' := (h0, .inr (9, [.ref q8, .ref q17, .ref q26, .null, .null, .int 0, .int 0, .int 0, .null, .int 0])) :: (((([] ++ [(q8, .inl (Ycl X 100, 1121, .inl (fun _ => 0)))]) ++ [(q17, .inl (Ycl X 100, 1121, .inl (fun _ => 0)))]) ++ [(q26, .inl (Ycl X 100, 2242, .inl (fun _ => 0)))]) ++ [(q33, .inl (Ycl X 101, 2, .inl (fun _ => 0)))])) rfl ?_
  refine JC.putF (pc := 35) C hin kcX9 3 (Nat.le_of_ble_eq_true rfl) tpX9_19 rfl rfl rfl rfl dX9_init_35 (Nat.le_of_ble_eq_true rfl) (fs' := [.ref q8, .ref q17, .ref q26, .ref q33, .null, .int 0, .int 0, .int 0, .null, .int 0]) rfl ?_
  refine JC.aload_n (pc := 38) C dX9_init_38 rfl 0 rfl ?_
  refine JC.bipush (pc := 39) (v := 80) C dX9_init_39 (by decide) ?_
  refine JC.newa (pc := 41) (ty := .int) (cn := 100) (N := 80) C (Or.inl ⟨rfl, rfl⟩) rfl ta_int (fun _ => rfl) (by decide) rfl (Nat.le_of_ble_eq_true rfl) (Nat.le_of_ble_eq_true rfl) (Nat.le_of_ble_eq_true rfl) dX9_init_41 (fun q41 => ?_)
  refine JC.wsEq (ws' := (h0, .inr (9, [.ref q8, .ref q17, .ref q26, .ref q33, .null, .int 0, .int 0, .int 0, .null, .int 0])) :: ((((([] ++ [(q8, .inl (Ycl X 100, 1121, .inl (fun _ => 0)))]) ++ [(q17, .inl (Ycl X 100, 1121, .inl (fun _ => 0)))]) ++ [(q26, .inl (Ycl X 100, 2242, .inl (fun _ => 0)))]) ++ [(q33, .inl (Ycl X 101, 2, .inl (fun _ => 0)))]) ++ [(q41, .inl (Ycl X 100, 80, .inl (fun _ => 0)))])) rfl ?_
  refine JC.putF (pc := 43) C hin kcX9 4 (Nat.le_of_ble_eq_true rfl) tpX9_23 rfl rfl rfl rfl dX9_init_43 (Nat.le_of_ble_eq_true rfl) (fs' := [.ref q8, .ref q17, .ref q26, .ref q33, .ref q41, .int 0, .int 0, .int 0, .null, .int 0]) rfl ?_
  refine JC.aload_n (pc := 46) C dX9_init_46 rfl 0 rfl ?_
  refine JC.bipush (pc := 47) (v := 60) C dX9_init_47 (by decide) ?_
  refine JC.newa (pc := 49) (ty := .int) (cn := 100) (N := 60) C (Or.inl ⟨rfl, rfl⟩) rfl ta_int (fun _ => rfl) (by decide) rfl (Nat.le_of_ble_eq_true rfl) (Nat.le_of_ble_eq_true rfl) (Nat.le_of_ble_eq_true rfl) dX9_init_49 (fun q49 => ?_)
  refine JC.wsEq (ws' := (h0, .inr (9, [.ref q8, .ref q17, .ref q26, .ref q33, .ref q41, .int 0, .int 0, .int 0, .null, .int 0])) :: (((((([] ++ [(q8, .inl (Ycl X 100, 1121, .inl (fun _ => 0)))]) ++ [(q17, .inl (Ycl X 100, 1121, .inl (fun _ => 0)))]) ++ [(q26, .inl (Ycl X 100, 2242, .inl (fun _ => 0)))]) ++ [(q33, .inl (Ycl X 101, 2, .inl (fun _ => 0)))]) ++ [(q41, .inl (Ycl X 100, 80, .inl (fun _ => 0)))]) ++ [(q49, .inl (Ycl X 100, 60, .inl (fun _ => 0)))])) rfl ?_
  refine JC.putF (pc := 51) C hin kcX9 8 (Nat.le_of_ble_eq_true rfl) tpX9_26 rfl rfl rfl rfl dX9_init_51 (Nat.le_of_ble_eq_true rfl) (fs' := [.ref q8, .ref q17, .ref q26, .ref q33, .ref q41, .int 0, .int 0, .int 0, .ref q49, .int 0]) rfl ?_
  refine JC.aload_n (pc := 54) C dX9_init_54 rfl 0 rfl ?_
  refine JC.iconst (pc := 55) (v := nI 4) C dX9_init_55 (by decide) ?_
  refine JC.into (ad := (fun k => if k < 106 then h0 else if k < 107 then q8 else if k < 108 then q17 else if k < 109 then q26 else if k < 110 then q33 else if k < 111 then q41 else q49)) (σ := (fun k => if k < 106 then (fun j => 0) else if k < 107 then (fun _ => 0) else if k < 108 then (fun _ => 0) else if k < 109 then (fun _ => 0) else if k < 110 then (fun _ => 0) else if k < 111 then (fun _ => 0) else (fun _ => 0))) (ks := (List.range' 105 7)) C rfl ?_
  have C2 := CxC.toJ (ad := (fun k => if k < 106 then h0 else if k < 107 then q8 else if k < 108 then q17 else if k < 109 then q26 else if k < 110 then q33 else if k < 111 then q41 else q49)) C cl_X9 (cells := 0 + 1 + 1 + 1 + 1 + 1 + 1) (slots := 0 + 1121 + 1121 + 2242 + 2 + 80 + 60) (Nat.le_of_ble_eq_true rfl) (Nat.le_of_ble_eq_true rfl)
  obtain ⟨σ2, hb, hO, hRr⟩ := begin9_ok (σ := mx (fun k => if k < 106 then (fun j => 0) else if k < 107 then (fun _ => 0) else if k < 108 then (fun _ => 0) else if k < 109 then (fun _ => 0) else if k < 110 then (fun _ => 0) else if k < 111 then (fun _ => 0) else (fun _ => 0)) st0) (c := 4) (n := 2000) (by decide) (by decide) 0
  refine J.callV (pc := 56) C2 (m_X9_begin hb) (show Ok (Xks (toJ X _ (List.range' 105 7) _ _)) 105 9 by rw [toJ_ks]; exact ⟨by decide, rfl⟩) wyX9_begin tvX9_begin_i tvX9_begin_s tcX9_29 kcX9 rfl (show Ok (Xks (toJ X _ (List.range' 105 7) _ _)) 105 9 by rw [toJ_ks]; exact ⟨by decide, rfl⟩) [.int (nI 4)] [] rfl rfl (Nat.le_of_ble_eq_true rfl) (Nat.le_of_ble_eq_true rfl) (Nat.le_of_ble_eq_true rfl) (stk' := []) (by rw [toJ_ad]; rfl) dX9_init_56 rfl ?_
  refine JC.outof ?_
  refine JC.vret (pc := 59) C hR ⟨(fun k => if k < 106 then h0 else if k < 107 then q8 else if k < 108 then q17 else if k < 109 then q26 else if k < 110 then q33 else if k < 111 then q41 else q49), σ2, rfl, rfl, ?_⟩ (Nat.le_of_ble_eq_true rfl) (Nat.le_of_ble_eq_true rfl) dX9_init_59
  exact ⟨hRr, by rw [hO 105 (by decide)]; rfl, by rw [hO 109 (by decide)]; rfl, by rw [hO 109 (by decide)]; rfl⟩
