/-! THE CONSTRUCTORS: X6 (written by wip/p29/gen/cgen.py) -/
theorem tcX6_1 : Cond.methodLink RX6 1 Lib.objectInit ∈ lw_g := in_g 253 (by decide +kernel) (by decide +kernel)
theorem tlX6_7 : Cond.classLink RX6 7 RX5 ∈ lw_g := in_g 254 (by decide +kernel) (by decide +kernel)
theorem tn_X5 : Cond.instantiable RX5 7 ∈ lw_g := in_g 40 (by decide +kernel) (by decide +kernel)
theorem tz_X5 : Cond.initialized RX5 ∈ lw_g := in_g 21 (by decide +kernel) (by decide +kernel)
theorem wyX5_init : Wy yX5_init cX5_init 1 none 0 := ⟨in_g 43 (by decide +kernel) (by decide +kernel), in_g 21 (by decide +kernel) (by decide +kernel), by decide +kernel, by decide +kernel, by decide +kernel⟩
theorem tiX5_init : Cond.instanceMethod yX5_init ∈ lw_g := in_g 42 (by decide +kernel) (by decide +kernel)
theorem tmX6_9 : Cond.methodLinkNest RX6 9 yX5_init "FountainShow" ∈ lw_n := in_n 255 (by decide +kernel) (by decide +kernel)
theorem tpX6_10 : Cond.fieldLink RX6 10 RX6 (TX6 0).2.1 (TX6 0).2.2.1 ∈ lw_g := in_g 256 (by decide +kernel) (by decide +kernel)
theorem tpX6_16 : Cond.fieldLink RX6 16 RX6 (TX6 1).2.1 (TX6 1).2.2.1 ∈ lw_g := in_g 258 (by decide +kernel) (by decide +kernel)
set_option maxRecDepth 20000 in
theorem kX6 (l : Launch) : CtC l yX6_init cX6_init 1 5 103 24 1001 6 [.null, .int 0] (fun _ => []) (Blk 49 25 SlF) := by
  refine CtC.of (by decide) rfl (fun _ _ => Nat.le_of_ble_eq_true rfl) ?_
  intro X h0 C hin hXl hR
  have C : CxC X RX6 cX6_init 1 none 5 103 24 1001 := C
  show JC X 0 0 0 [(0, .ref h0)] [] [(h0, .inr (6, [.null, .int 0]))]
  refine JC.aload_n (pc := 0) C dX6_init_0 rfl 0 rfl ?_
  refine JC.objInit (pc := 1) C tcX6_1 ti_obj tk_obj dX6_init_1 (Nat.le_of_ble_eq_true rfl) (Nat.le_of_ble_eq_true rfl) ?_
  refine JC.aload_n (pc := 4) C dX6_init_4 rfl 0 rfl ?_
  refine JC.new (pc := 5) C kcX5 tlX6_7 tn_X5 tz_X5 [.null, .null, .null, .null, .null, .int 0, .int 0] (fun j hj => by rcases (show j = 0 ∨ j = 1 ∨ j = 2 ∨ j = 3 ∨ j = 4 ∨ j = 5 ∨ j = 6 by omega) with rfl | rfl | rfl | rfl | rfl | rfl | rfl <;> rfl) (Nat.le_of_ble_eq_true rfl) (Nat.le_of_ble_eq_true rfl) dX6_init_5 (fun q5 => ?_)
  refine JC.dup (pc := 8) C dX6_init_8 rfl ?_
  refine JC.mkN (pc := 9) C (kX5 (Yl X)) wyX5_init tiX5_init rfl tmX6_9 [] [.ref q5, .ref h0] rfl rfl (Nat.le_of_ble_eq_true rfl) (Nat.le_of_ble_eq_true rfl) (Nat.le_of_ble_eq_true rfl) (Nat.le_of_ble_eq_true rfl) (Nat.le_of_ble_eq_true rfl) rfl dX6_init_9 (fun blk hB => ?_)
  obtain ⟨a1, s1, ha1, hw1, hP1⟩ := hB
  subst hw1
  subst ha1
  refine JC.wsEq (ws' := (h0, .inr (6, [.null, .int 0])) :: ([] ++ wl (Ycl X) (mx a1 (Ysd X)) (mx s1 st0) (List.range' 1 24))) rfl ?_
  refine JC.putF (pc := 12) C hin kcX6 0 (Nat.le_of_ble_eq_true rfl) tpX6_10 rfl rfl rfl rfl dX6_init_12 (Nat.le_of_ble_eq_true rfl) (fs' := [.ref (a1 1), .int 0]) rfl ?_
  refine JC.aload_n (pc := 15) C dX6_init_15 rfl 0 rfl ?_
  refine JC.iconst (pc := 16) (v := 0) C dX6_init_16 (by decide) ?_
  refine JC.put (pc := 17) C kcX6 1 (Nat.le_of_ble_eq_true rfl) tpX6_16 rfl rfl rfl rfl dX6_init_17 (Nat.le_of_ble_eq_true rfl) (fs' := [.ref (a1 1), .int 0]) rfl ?_
  refine JC.vret (pc := 20) C hR ⟨(fun k => if k < 50 then h0 else a1 (k - 49)), (fun k => if k < 50 then (fun j => 0) else s1 (k - 49)), rfl, rfl, ?_⟩ (Nat.le_of_ble_eq_true rfl) (Nat.le_of_ble_eq_true rfl) dX6_init_20
  exact ⟨ShF_shift hP1 (fun i hi => by (try dsimp only); repeat (first | rw [if_pos (by omega)] | rw [if_neg (by omega)]); try (congr 1; omega)), rfl⟩
