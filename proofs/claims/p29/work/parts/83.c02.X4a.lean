/-! THE CONSTRUCTORS: X4a (written by wip/p29/gen/cgen.py) -/
theorem tcX4_3 : Cond.methodLink RX4 3 Lib.objectInit ∈ lw_g := in_g 56 (by decide +kernel) (by decide +kernel)
theorem tcX4_9 : Cond.methodLink RX4 9 Lib.Math.max.name ∈ lw_g := in_g 57 (by decide +kernel) (by decide +kernel)
theorem tmax_s : Cond.static Lib.Math.max.name ∈ lw_g := in_g 58 (by decide +kernel) (by decide +kernel)
theorem tmath_i : Cond.initialized "java/lang/Math" ∈ lw_g := in_g 23 (by decide +kernel) (by decide +kernel)
theorem tmax_c : Cond.code Lib.Math.max.name Lib.Math.max.code 2 (some .int) ∈ lw_g := in_g 59 (by decide +kernel) (by decide +kernel)
theorem tpX4_15 : Cond.fieldLink RX4 15 RX4 (TX4 3).2.1 (TX4 3).2.2.1 ∈ lw_g := in_g 70 (by decide +kernel) (by decide +kernel)
theorem tpX4_21 : Cond.fieldLink RX4 21 RX4 (TX4 0).2.1 (TX4 0).2.2.1 ∈ lw_g := in_g 67 (by decide +kernel) (by decide +kernel)
theorem tpX4_25 : Cond.fieldLink RX4 25 RX4 (TX4 1).2.1 (TX4 1).2.2.1 ∈ lw_g := in_g 68 (by decide +kernel) (by decide +kernel)
theorem tpX4_28 : Cond.fieldLink RX4 28 RX4 (TX4 2).2.1 (TX4 2).2.2.1 ∈ lw_g := in_g 69 (by decide +kernel) (by decide +kernel)
theorem tpX4_31 : Cond.fieldLink RX4 31 RX4 (TX4 4).2.1 (TX4 4).2.2.1 ∈ lw_g := in_g 71 (by decide +kernel) (by decide +kernel)
theorem tcX4_34 : Cond.methodLink RX4 34 yX4_reset ∈ lw_g := in_g 60 (by decide +kernel) (by decide +kernel)
set_option maxRecDepth 20000 in
theorem kX4a (l : Launch) : CtC l yX4_init cX4_init 5 2 39 1 6 4 [.null, .null, .null, .int 0, .null] (fun sd => [.int 1, .ref (sd 118), .ref (sd 119), .ref (sd 120)]) (Blk 2 2 S2F) := by
  refine CtC.of (by decide) rfl (fun _ _ => Nat.le_of_ble_eq_true rfl) ?_
  intro X h0 C hin hXl hR
  have C : CxC X RX4 cX4_init 5 none 2 39 1 6 := C
  show JC X 0 0 0 [(0, .ref h0), (1, .int 1), (2, .ref (Ysd X 118)), (3, .ref (Ysd X 119)), (4, .ref (Ysd X 120))] [] [(h0, .inr (4, [.null, .null, .null, .int 0, .null]))]
  refine JC.aload_n (pc := 0) C dX4_init_0 rfl 0 rfl ?_
  refine JC.objInit (pc := 1) C tcX4_3 ti_obj tk_obj dX4_init_1 (Nat.le_of_ble_eq_true rfl) (Nat.le_of_ble_eq_true rfl) ?_
  refine JC.aload_n (pc := 4) C dX4_init_4 rfl 0 rfl ?_
  refine JC.iconst (pc := 5) (v := 0) C dX4_init_5 (by decide) ?_
  refine JC.iload_n (pc := 6) C dX4_init_6 rfl 1 rfl ?_
  refine JC.mmax (pc := 7) C tcX4_9 tmax_s tmath_i tmax_c (Nat.le_of_ble_eq_true rfl) (Nat.le_of_ble_eq_true rfl) (Nat.le_of_ble_eq_true rfl) (Nat.le_of_ble_eq_true rfl) dX4_init_7 ?_
  rw [show (if (0 : Int32) < 1 then (1 : Int32) else 0) = 1 by decide]
  refine JC.putF (pc := 10) C hin kcX4 3 (Nat.le_of_ble_eq_true rfl) tpX4_15 rfl rfl rfl rfl dX4_init_10 (Nat.le_of_ble_eq_true rfl) (fs' := [.null, .null, .null, .int 1, .null]) rfl ?_
  refine JC.aload_n (pc := 13) C dX4_init_13 rfl 0 rfl ?_
  refine JC.aload_n (pc := 14) C dX4_init_14 rfl 2 rfl ?_
  refine JC.putF (pc := 15) C hin kcX4 0 (Nat.le_of_ble_eq_true rfl) tpX4_21 rfl rfl rfl rfl dX4_init_15 (Nat.le_of_ble_eq_true rfl) (fs' := [.ref (Ysd X 118), .null, .null, .int 1, .null]) rfl ?_
  refine JC.aload_n (pc := 18) C dX4_init_18 rfl 0 rfl ?_
  refine JC.aload_n (pc := 19) C dX4_init_19 rfl 3 rfl ?_
  refine JC.putF (pc := 20) C hin kcX4 1 (Nat.le_of_ble_eq_true rfl) tpX4_25 rfl rfl rfl rfl dX4_init_20 (Nat.le_of_ble_eq_true rfl) (fs' := [.ref (Ysd X 118), .ref (Ysd X 119), .null, .int 1, .null]) rfl ?_
  refine JC.aload_n (pc := 23) C dX4_init_23 rfl 0 rfl ?_
  refine JC.aload (pc := 24) C dX4_init_24 4 rfl ?_
  refine JC.putF (pc := 26) C hin kcX4 2 (Nat.le_of_ble_eq_true rfl) tpX4_28 rfl rfl rfl rfl dX4_init_26 (Nat.le_of_ble_eq_true rfl) (fs' := [.ref (Ysd X 118), .ref (Ysd X 119), .ref (Ysd X 120), .int 1, .null]) rfl ?_
  refine JC.aload_n (pc := 29) C dX4_init_29 rfl 0 rfl ?_
  refine JC.aload_n (pc := 30) C dX4_init_30 rfl 0 rfl ?_
  refine JC.get (pc := 31) C kcX4 3 (Nat.le_of_ble_eq_true rfl) tpX4_15 rfl dX4_init_31 (v := .int 1) rfl ?_
  refine JC.aload (pc := 34) C dX4_init_34 4 rfl ?_
  refine JC.slen (pc := 36) (k := 120) C rfl dX4_init_36 ?_
  refine JC.imul (pc := 37) C dX4_init_37 ?_
  rw [show (1 : Int32) * Int32.ofNat (alen 120) = 6 by decide]
  refine JC.newa (pc := 38) (ty := .int) (cn := 100) (N := 6) C (Or.inl ⟨rfl, rfl⟩) rfl ta_int (fun _ => rfl) (by decide) rfl (Nat.le_of_ble_eq_true rfl) (Nat.le_of_ble_eq_true rfl) (Nat.le_of_ble_eq_true rfl) dX4_init_38 (fun q38 => ?_)
  refine JC.wsEq (ws' := (h0, .inr (4, [.ref (Ysd X 118), .ref (Ysd X 119), .ref (Ysd X 120), .int 1, .null])) :: ([] ++ [(q38, .inl (Ycl X 100, 6, .inl (fun _ => 0)))])) rfl ?_
  refine JC.putF (pc := 40) C hin kcX4 4 (Nat.le_of_ble_eq_true rfl) tpX4_31 rfl rfl rfl rfl dX4_init_40 (Nat.le_of_ble_eq_true rfl) (fs' := [.ref (Ysd X 118), .ref (Ysd X 119), .ref (Ysd X 120), .int 1, .ref q38]) rfl ?_
  refine JC.aload_n (pc := 43) C dX4_init_43 rfl 0 rfl ?_
  refine JC.into (ad := (fun k => if k < 3 then h0 else q38)) (σ := (fun k => if k < 3 then (fun j => if j = 3 then 1 else 0) else (fun _ => 0))) (ks := [2, 3]) C rfl ?_
  have hcl : Cl [2, 3] := cl_set2
  have C2 := CxC.toJ (ad := (fun k => if k < 3 then h0 else q38)) C hcl (cells := 0 + 1) (slots := 0 + 6) (Nat.le_of_ble_eq_true rfl) (Nat.le_of_ble_eq_true rfl)
  have hr := reset_ok (σ := mx (fun k => if k < 3 then (fun j => if j = 3 then 1 else 0) else (fun _ => 0)) st0) (k := 2) (th := 1) (L := 6) (d := 3) (N := 6) (src := 120) (n := 2000) rfl rfl rfl rfl rfl rfl (by decide) (by decide) (by decide) (by decide) (by decide) (by decide) (by decide)
  refine J.callV (pc := 44) C2 (m_X4_reset hr) (show Ok (Xks (toJ X _ [2, 3] _ _)) 2 4 by rw [toJ_ks]; exact ⟨by decide, rfl⟩) wyX4_reset tvX4_reset_i tvX4_reset_s tcX4_34 kcX4 rfl (show Ok (Xks (toJ X _ [2, 3] _ _)) 2 4 by rw [toJ_ks]; exact ⟨by decide, rfl⟩) [] [] rfl rfl (Nat.le_of_ble_eq_true rfl) (Nat.le_of_ble_eq_true rfl) (Nat.le_of_ble_eq_true rfl) (stk' := []) (by rw [toJ_ad]; rfl) dX4_init_44 rfl ?_
  refine JC.outof ?_
  refine JC.vret (pc := 47) C hR ⟨(fun k => if k < 3 then h0 else q38), gput (mx (fun k => if k < 3 then (fun j => if j = 3 then 1 else 0) else (fun _ => 0)) st0) 3 (fun j => if j < 6 then mx (fun k => if k < 3 then (fun j => if j = 3 then 1 else 0) else (fun _ => 0)) st0 120 (j % 6) else mx (fun k => if k < 3 then (fun j => if j = 3 then 1 else 0) else (fun _ => 0)) st0 3 j), rfl, rfl, ?_⟩ (Nat.le_of_ble_eq_true rfl) (Nat.le_of_ble_eq_true rfl) dX4_init_47
  refine ⟨rfl, fun j hj => ?_⟩
  show (if j < 6 then nI (inS (j % 6)) else 0) = _
  rw [if_pos hj, Nat.mod_eq_of_lt hj]
