/-! THE CONSTRUCTORS: X7 (written by wip/p29/gen/cgen.py) -/
theorem tcX7_3 : Cond.methodLink RX7 3 Lib.objectInit ∈ lw_g := in_g 175 (by decide +kernel) (by decide +kernel)
theorem tpX7_9 : Cond.fieldLink RX7 9 RX7 (TX7 0).2.1 (TX7 0).2.2.1 ∈ lw_g := in_g 176 (by decide +kernel) (by decide +kernel)
theorem tpX7_15 : Cond.fieldLink RX7 15 RX7 (TX7 1).2.1 (TX7 1).2.2.1 ∈ lw_g := in_g 179 (by decide +kernel) (by decide +kernel)
theorem tpX7_18 : Cond.fieldLink RX7 18 RX7 (TX7 2).2.1 (TX7 2).2.2.1 ∈ lw_g := in_g 180 (by decide +kernel) (by decide +kernel)
theorem tpX7_21 : Cond.fieldLink RX7 21 RX7 (TX7 3).2.1 (TX7 3).2.2.1 ∈ lw_g := in_g 183 (by decide +kernel) (by decide +kernel)
set_option maxRecDepth 20000 in
theorem kX7 (l : Launch) : CtC l yX7_init cX7_init 1 1 12 0 0 7 [.int 0, .int 0, .int 0, .int 0] (fun _ => []) (Blk 20 1 WeF) := by
  refine CtC.of (by decide) rfl (fun _ _ => Nat.le_of_ble_eq_true rfl) ?_
  intro X h0 C hin hXl hR
  have C : CxC X RX7 cX7_init 1 none 1 12 0 0 := C
  show JC X 0 0 0 [(0, .ref h0)] [] [(h0, .inr (7, [.int 0, .int 0, .int 0, .int 0]))]
  refine JC.aload_n (pc := 0) C dX7_init_0 rfl 0 rfl ?_
  refine JC.objInit (pc := 1) C tcX7_3 ti_obj tk_obj dX7_init_1 (Nat.le_of_ble_eq_true rfl) (Nat.le_of_ble_eq_true rfl) ?_
  refine JC.aload_n (pc := 4) C dX7_init_4 rfl 0 rfl ?_
  refine JC.iconst (pc := 5) (v := 0) C dX7_init_5 (by decide) ?_
  refine JC.put (pc := 6) C kcX7 0 (Nat.le_of_ble_eq_true rfl) tpX7_9 rfl rfl rfl rfl dX7_init_6 (Nat.le_of_ble_eq_true rfl) (fs' := [.int 0, .int 0, .int 0, .int 0]) rfl ?_
  refine JC.aload_n (pc := 9) C dX7_init_9 rfl 0 rfl ?_
  refine JC.iconst (pc := 10) (v := 0) C dX7_init_10 (by decide) ?_
  refine JC.put (pc := 11) C kcX7 1 (Nat.le_of_ble_eq_true rfl) tpX7_15 rfl rfl rfl rfl dX7_init_11 (Nat.le_of_ble_eq_true rfl) (fs' := [.int 0, .int 0, .int 0, .int 0]) rfl ?_
  refine JC.aload_n (pc := 14) C dX7_init_14 rfl 0 rfl ?_
  refine JC.iconst (pc := 15) (v := 0) C dX7_init_15 (by decide) ?_
  refine JC.put (pc := 16) C kcX7 2 (Nat.le_of_ble_eq_true rfl) tpX7_18 rfl rfl rfl rfl dX7_init_16 (Nat.le_of_ble_eq_true rfl) (fs' := [.int 0, .int 0, .int 0, .int 0]) rfl ?_
  refine JC.aload_n (pc := 19) C dX7_init_19 rfl 0 rfl ?_
  refine JC.iconst (pc := 20) (v := 0) C dX7_init_20 (by decide) ?_
  refine JC.put (pc := 21) C kcX7 3 (Nat.le_of_ble_eq_true rfl) tpX7_21 rfl rfl rfl rfl dX7_init_21 (Nat.le_of_ble_eq_true rfl) (fs' := [.int 0, .int 0, .int 0, .int 0]) rfl ?_
  refine JC.vret (pc := 24) C hR ⟨(fun k => h0), (fun k => (fun j => 0)), rfl, rfl, ?_⟩ (Nat.le_of_ble_eq_true rfl) (Nat.le_of_ble_eq_true rfl) dX7_init_24
  exact (fun _ _ => rfl)
