set_option maxHeartbeats 4000000 in
set_option maxRecDepth 100000 in
theorem m_X8_pump {l : Launch} {σ : Mem} {k : Nat} {x1 : Int32} {x2 : Int32} {x3 : Int32} {t0 : (Int32 × Mem)} (hf : f_X8_pump σ k x1 x2 x3 = some t0) : Ct l yX8_pump cX8_pump 4 (some FieldType.int) 2 47 (fun ks => Ok ks k 8) (fun ad => [.ref (ad k), .int x1, .int x2, .int x3]) σ (fun _ => some (.int t0.1)) t0.2 := by
  refine Ct.of (plainFor_of_name (by decide)) (fun _ => Nat.le_of_ble_eq_true rfl) ?_
  intro X C _ hk hcl hR
  have C : Cx X RX8 cX8_pump 4 (some FieldType.int) 2 47 := C
  have hp : t0 = t0 := rfl
  show J X 0 [(0, .ref (Xad X k)), (1, .int x1), (2, .int x2), (3, .int x3)] [] σ
  unfold f_X8_pump at hf
  refine J.iload_n (pc := 0) C dX8_pump_0 rfl 1 rfl ?_
  refine J.iconst (pc := 1) C (v := 0) dX8_pump_1 (by decide) ?_
  refine J.iconst (pc := 2) C (v := 2) dX8_pump_2 (by decide) ?_
  obtain ⟨r_2, h_1, hf⟩ := bnd_some hf
  refine J.callS (pc := 3) C (m_X8_within h_1) trivial wyX8_within tsX8_within tw_318 [.int x1, .int 0, .int 2] [] rfl rfl (Nat.le_of_ble_eq_true rfl) (Nat.le_of_ble_eq_true rfl) (Nat.le_of_ble_eq_true rfl) (stk' := [.int r_2]) rfl dX8_pump_3 rfl ?_
  refine J.if_ne (pc := 6) C (tgt := 11) dX8_pump_6 (by decide) hf (fun hf => ?_) (fun hf => ?_)
  · refine J.aload_n (pc := 11) C dX8_pump_11 rfl 0 rfl ?_
    refine J.getR (pc := 12) C kcX8 hk 0 rfl tw_298 rfl dX8_pump_12 ?_
    refine J.getR (pc := 15) C kcX5 (ok_8_0 hcl hk) 2 rfl tw_224 rfl dX8_pump_15 ?_
    refine J.getR (pc := 18) C kcX3 (ok_5_2 hcl (ok_8_0 hcl hk)) 0 rfl tw_154 rfl dX8_pump_18 ?_
    refine J.iload_n (pc := 21) C dX8_pump_21 rfl 1 rfl ?_
    refine J.iload_n (pc := 22) C dX8_pump_22 rfl 2 rfl ?_
    refine J.iload_n (pc := 23) C dX8_pump_23 rfl 3 rfl ?_
    obtain ⟨r_4, σ_5, h_3, hf⟩ := bnd2_some hf
    refine J.callV (pc := 24) C (m_X4_change h_3) (ok_3_0 hcl (ok_5_2 hcl (ok_8_0 hcl hk))) wyX4_change tvX4_change_i tvX4_change_s tw_360 kcX4 rfl (ok_3_0 hcl (ok_5_2 hcl (ok_8_0 hcl hk))) [.int x1, .int x2, .int x3] [] rfl rfl (Nat.le_of_ble_eq_true rfl) (Nat.le_of_ble_eq_true rfl) (Nat.le_of_ble_eq_true rfl) (stk' := [.int r_4]) rfl dX8_pump_24 rfl ?_
    exact J.iretM (pc := 27) C hR ((Option.some.inj hf).trans hp) dX8_pump_27
  · refine J.iconst (pc := 9) C (v := (-1)) dX8_pump_9 (by decide) ?_
    exact J.iretM (pc := 10) C hR ((Option.some.inj hf).trans hp) dX8_pump_10
set_option maxHeartbeats 4000000 in
set_option maxRecDepth 100000 in
theorem m_X8_set {l : Launch} {σ : Mem} {k : Nat} {x1 : Int32} {x2 : Int32} {t0 : (Int32 × Mem)} (hf : f_X8_set σ k x1 x2 = some t0) : Ct l yX8_set cX8_set 3 (some FieldType.int) 2 47 (fun ks => Ok ks k 8) (fun ad => [.ref (ad k), .int x1, .int x2]) σ (fun _ => some (.int t0.1)) t0.2 := by
  refine Ct.of (plainFor_of_name (by decide)) (fun _ => Nat.le_of_ble_eq_true rfl) ?_
  intro X C _ hk hcl hR
  have C : Cx X RX8 cX8_set 3 (some FieldType.int) 2 47 := C
  have hp : t0 = t0 := rfl
  show J X 0 [(0, .ref (Xad X k)), (1, .int x1), (2, .int x2)] [] σ
  unfold f_X8_set at hf
  refine J.aload_n (pc := 0) C dX8_set_0 rfl 0 rfl ?_
  refine J.getR (pc := 1) C kcX8 hk 0 rfl tw_298 rfl dX8_set_1 ?_
  refine J.getR (pc := 4) C kcX5 (ok_8_0 hcl hk) 0 rfl tw_220 rfl dX8_set_4 ?_
  refine J.iconst (pc := 7) C (v := 0) dX8_set_7 (by decide) ?_
  refine J.iload_n (pc := 8) C dX8_set_8 rfl 1 rfl ?_
  refine J.iload_n (pc := 9) C dX8_set_9 rfl 2 rfl ?_
  obtain ⟨r_2, σ_3, h_1, hf⟩ := bnd2_some hf
  refine J.callV (pc := 10) C (m_X4_change h_1) (ok_5_0 hcl (ok_8_0 hcl hk)) wyX4_change tvX4_change_i tvX4_change_s tw_360 kcX4 rfl (ok_5_0 hcl (ok_8_0 hcl hk)) [.int 0, .int x1, .int x2] [] rfl rfl (Nat.le_of_ble_eq_true rfl) (Nat.le_of_ble_eq_true rfl) (Nat.le_of_ble_eq_true rfl) (stk' := [.int r_2]) rfl dX8_set_10 rfl ?_
  exact J.iretM (pc := 13) C hR ((Option.some.inj hf).trans hp) dX8_set_13
set_option maxHeartbeats 4000000 in
set_option maxRecDepth 100000 in
theorem m_X8_wind {l : Launch} {σ : Mem} {k : Nat} {x1 : Int32} {t0 : (Int32 × Mem)} (hf : f_X8_wind σ k x1 = some t0) : Ct l yX8_wind cX8_wind 3 (some FieldType.int) 1 22 (fun ks => Ok ks k 8) (fun ad => [.ref (ad k), .int x1]) σ (fun _ => some (.int t0.1)) t0.2 := by
  refine Ct.of (plainFor_of_name (by decide)) (fun _ => Nat.le_of_ble_eq_true rfl) ?_
  intro X C _ hk hcl hR
  have C : Cx X RX8 cX8_wind 3 (some FieldType.int) 1 22 := C
  have hp : t0 = t0 := rfl
  show J X 0 [(0, .ref (Xad X k)), (1, .int x1)] [] σ
  unfold f_X8_wind at hf
  refine J.iload_n (pc := 0) C dX8_wind_0 rfl 1 rfl ?_
  refine J.iconst (pc := 1) C (v := 0) dX8_wind_1 (by decide) ?_
  refine J.sipush (pc := 2) C (v := 300) dX8_wind_2 (by decide) ?_
  obtain ⟨r_2, h_1, hf⟩ := bnd_some hf
  refine J.callS (pc := 5) C (m_X8_within h_1) trivial wyX8_within tsX8_within tw_318 [.int x1, .int 0, .int 300] [] rfl rfl (Nat.le_of_ble_eq_true rfl) (Nat.le_of_ble_eq_true rfl) (Nat.le_of_ble_eq_true rfl) (stk' := [.int r_2]) rfl dX8_wind_5 rfl ?_
  refine J.if_ne (pc := 8) C (tgt := 14) dX8_wind_8 (by decide) hf (fun hf => ?_) (fun hf => ?_)
  · refine J.aload_n (pc := 14) C dX8_wind_14 rfl 0 rfl ?_
    refine J.getR (pc := 15) C kcX8 hk 0 rfl tw_298 rfl dX8_wind_15 ?_
    refine J.getR (pc := 18) C kcX5 (ok_8_0 hcl hk) 3 rfl tw_226 rfl dX8_wind_18 ?_
    refine J.getI (pc := 21) C kcX7 (ok_5_3 hcl (ok_8_0 hcl hk)) 0 rfl tw_178 rfl dX8_wind_21 ?_
    refine J.nmI hf (fun x2_3 hf => ?_)
    refine J.istore_n (pc := 24) C (loc' := [(2, .int x2_3), (0, .ref (Xad X k)), (1, .int x1)]) dX8_wind_24 rfl (by decide) rfl ?_
    refine J.aload_n (pc := 25) C dX8_wind_25 rfl 1 rfl ?_
    refine J.getR (pc := 26) C kcX8 hk 0 rfl tw_298 rfl dX8_wind_26 ?_
    refine J.getR (pc := 29) C kcX5 (ok_8_0 hcl hk) 3 rfl tw_226 rfl dX8_wind_29 ?_
    refine J.iload_n (pc := 32) C dX8_wind_32 rfl 2 rfl ?_
    refine J.putM (pc := 33) C kcX7 (ok_5_3 hcl (ok_8_0 hcl hk)) 0 rfl tw_178 rfl rfl rfl rfl hf dX8_wind_33 (fun σ_4 hf => ?_)
    refine J.iload_n (pc := 36) C dX8_wind_36 rfl 0 rfl ?_
    exact J.iretM (pc := 37) C hR ((Option.some.inj hf).trans hp) dX8_wind_37
  · refine J.bipush (pc := 11) C (v := (-2)) dX8_wind_11 (by decide) ?_
    exact J.iretM (pc := 13) C hR ((Option.some.inj hf).trans hp) dX8_wind_13
set_option maxHeartbeats 4000000 in
set_option maxRecDepth 100000 in
theorem m_X8_cue {l : Launch} {n : Nat} {σ : Mem} {k : Nat} {x1 : Int32} {x2 : Int32} {x3 : Int32} {t0 : (Int32 × Mem)} (hf : f_X8_cue n σ k x1 x2 x3 = some t0) : Ct l yX8_cue cX8_cue 4 (some FieldType.int) 3 65 (fun ks => Ok ks k 8) (fun ad => [.ref (ad k), .int x1, .int x2, .int x3]) σ (fun _ => some (.int t0.1)) t0.2 := by
  refine Ct.of (plainFor_of_name (by decide)) (fun _ => Nat.le_of_ble_eq_true rfl) ?_
  intro X C _ hk hcl hR
  have C : Cx X RX8 cX8_cue 4 (some FieldType.int) 3 65 := C
  have hp : t0 = t0 := rfl
  show J X 0 [(0, .ref (Xad X k)), (1, .int x1), (2, .int x2), (3, .int x3)] [] σ
  unfold f_X8_cue at hf
  refine J.iload_n (pc := 0) C dX8_cue_0 rfl 1 rfl ?_
  refine J.iconst (pc := 1) C (v := 0) dX8_cue_1 (by decide) ?_
  refine J.ldc (pc := 2) C (v := 100000) dX8_cue_2 tw_526 ?_
  obtain ⟨r_2, h_1, hf⟩ := bnd_some hf
  refine J.callS (pc := 4) C (m_X8_within h_1) trivial wyX8_within tsX8_within tw_318 [.int x1, .int 0, .int 100000] [] rfl rfl (Nat.le_of_ble_eq_true rfl) (Nat.le_of_ble_eq_true rfl) (Nat.le_of_ble_eq_true rfl) (stk' := [.int r_2]) rfl dX8_cue_4 rfl ?_
  refine J.if_eq (pc := 7) C (tgt := 32) dX8_cue_7 (by decide) hf (fun hf => ?_) (fun hf => ?_)
  · refine J.bipush (pc := 32) C (v := (-2)) dX8_cue_32 (by decide) ?_
    exact J.iretM (pc := 34) C hR ((Option.some.inj hf).trans hp) dX8_cue_34
  · refine J.iload_n (pc := 10) C dX8_cue_10 rfl 2 rfl ?_
    refine J.iconst (pc := 11) C (v := 1) dX8_cue_11 (by decide) ?_
    refine J.sipush (pc := 12) C (v := 4095) dX8_cue_12 (by decide) ?_
    obtain ⟨r_4, h_3, hf⟩ := bnd_some hf
    refine J.callS (pc := 15) C (m_X8_within h_3) trivial wyX8_within tsX8_within tw_318 [.int x2, .int 1, .int 4095] [] rfl rfl (Nat.le_of_ble_eq_true rfl) (Nat.le_of_ble_eq_true rfl) (Nat.le_of_ble_eq_true rfl) (stk' := [.int r_4]) rfl dX8_cue_15 rfl ?_
    refine J.if_eq (pc := 18) C (tgt := 32) dX8_cue_18 (by decide) hf (fun hf => ?_) (fun hf => ?_)
    · refine J.bipush (pc := 32) C (v := (-2)) dX8_cue_32 (by decide) ?_
      exact J.iretM (pc := 34) C hR ((Option.some.inj hf).trans hp) dX8_cue_34
    · refine J.iload_n (pc := 21) C dX8_cue_21 rfl 3 rfl ?_
      refine J.iconst (pc := 22) C (v := 0) dX8_cue_22 (by decide) ?_
      refine J.sipush (pc := 23) C (v := 1000) dX8_cue_23 (by decide) ?_
      obtain ⟨r_6, h_5, hf⟩ := bnd_some hf
      refine J.callS (pc := 26) C (m_X8_within h_5) trivial wyX8_within tsX8_within tw_318 [.int x3, .int 0, .int 1000] [] rfl rfl (Nat.le_of_ble_eq_true rfl) (Nat.le_of_ble_eq_true rfl) (Nat.le_of_ble_eq_true rfl) (stk' := [.int r_6]) rfl dX8_cue_26 rfl ?_
      refine J.if_ne (pc := 29) C (tgt := 35) dX8_cue_29 (by decide) hf (fun hf => ?_) (fun hf => ?_)
      · refine J.aload_n (pc := 35) C dX8_cue_35 rfl 0 rfl ?_
        refine J.getR (pc := 36) C kcX8 hk 0 rfl tw_298 rfl dX8_cue_36 ?_
        refine J.getR (pc := 39) C kcX5 (ok_8_0 hcl hk) 4 rfl tw_228 rfl dX8_cue_39 ?_
        refine J.iload_n (pc := 42) C dX8_cue_42 rfl 1 rfl ?_
        refine J.iload_n (pc := 43) C dX8_cue_43 rfl 2 rfl ?_
        refine J.iload_n (pc := 44) C dX8_cue_44 rfl 3 rfl ?_
        obtain ⟨r_8, σ_9, h_7, hf⟩ := bnd2_some hf
        refine J.callV (pc := 45) C (m_X0_insert h_7) (ok_5_4 hcl (ok_8_0 hcl hk)) wyX0_insert tvX0_insert_i tvX0_insert_s tw_527 kcX0 rfl (ok_5_4 hcl (ok_8_0 hcl hk)) [.int x1, .int x2, .int x3] [] rfl rfl (Nat.le_of_ble_eq_true rfl) (Nat.le_of_ble_eq_true rfl) (Nat.le_of_ble_eq_true rfl) (stk' := [.int r_8]) rfl dX8_cue_45 rfl ?_
        exact J.iretM (pc := 48) C hR ((Option.some.inj hf).trans hp) dX8_cue_48
      · refine J.bipush (pc := 32) C (v := (-2)) dX8_cue_32 (by decide) ?_
        exact J.iretM (pc := 34) C hR ((Option.some.inj hf).trans hp) dX8_cue_34
set_option maxHeartbeats 4000000 in
set_option maxRecDepth 100000 in
theorem m_X8_remove {l : Launch} {σ : Mem} {k : Nat} {x1 : Int32} {t0 : (Int32 × Mem)} (hf : f_X8_remove σ k x1 = some t0) : Ct l yX8_remove cX8_remove 2 (some FieldType.int) 3 62 (fun ks => Ok ks k 8) (fun ad => [.ref (ad k), .int x1]) σ (fun _ => some (.int t0.1)) t0.2 := by
  refine Ct.of (plainFor_of_name (by decide)) (fun _ => Nat.le_of_ble_eq_true rfl) ?_
  intro X C _ hk hcl hR
  have C : Cx X RX8 cX8_remove 2 (some FieldType.int) 3 62 := C
  have hp : t0 = t0 := rfl
  show J X 0 [(0, .ref (Xad X k)), (1, .int x1)] [] σ
  unfold f_X8_remove at hf
  refine J.aload_n (pc := 0) C dX8_remove_0 rfl 0 rfl ?_
  refine J.getR (pc := 1) C kcX8 hk 0 rfl tw_298 rfl dX8_remove_1 ?_
  refine J.getR (pc := 4) C kcX5 (ok_8_0 hcl hk) 4 rfl tw_228 rfl dX8_remove_4 ?_
  refine J.iload_n (pc := 7) C dX8_remove_7 rfl 1 rfl ?_
  obtain ⟨r_2, h_1, hf⟩ := bnd_some hf
  refine J.callV (pc := 8) C (m_X0_has h_1) (ok_5_4 hcl (ok_8_0 hcl hk)) wyX0_has tvX0_has_i tvX0_has_s tw_541 kcX0 rfl (ok_5_4 hcl (ok_8_0 hcl hk)) [.int x1] [] rfl rfl (Nat.le_of_ble_eq_true rfl) (Nat.le_of_ble_eq_true rfl) (Nat.le_of_ble_eq_true rfl) (stk' := [.int r_2]) rfl dX8_remove_8 rfl ?_
  refine J.if_ne (pc := 11) C (tgt := 16) dX8_remove_11 (by decide) hf (fun hf => ?_) (fun hf => ?_)
  · refine J.aload_n (pc := 16) C dX8_remove_16 rfl 0 rfl ?_
    refine J.getR (pc := 17) C kcX8 hk 0 rfl tw_298 rfl dX8_remove_17 ?_
    refine J.getR (pc := 20) C kcX5 (ok_8_0 hcl hk) 4 rfl tw_228 rfl dX8_remove_20 ?_
    refine J.iload_n (pc := 23) C dX8_remove_23 rfl 1 rfl ?_
    obtain ⟨σ_5, h_3, hf⟩ := bnd_some hf
    refine J.callV (pc := 24) C (m_X0_takeOut h_3) (ok_5_4 hcl (ok_8_0 hcl hk)) wyX0_takeOut tvX0_takeOut_i tvX0_takeOut_s tw_693 kcX0 rfl (ok_5_4 hcl (ok_8_0 hcl hk)) [.int x1] [] rfl rfl (Nat.le_of_ble_eq_true rfl) (Nat.le_of_ble_eq_true rfl) (Nat.le_of_ble_eq_true rfl) (stk' := []) rfl dX8_remove_24 rfl ?_
    refine J.aload_n (pc := 27) C dX8_remove_27 rfl 0 rfl ?_
    refine J.getR (pc := 28) C kcX8 hk 0 rfl tw_298 rfl dX8_remove_28 ?_
    refine J.getR (pc := 31) C kcX5 (ok_8_0 hcl hk) 4 rfl tw_228 rfl dX8_remove_31 ?_
    refine J.getI (pc := 34) C kcX0 (ok_5_4 hcl (ok_8_0 hcl hk)) 3 rfl tw_209 rfl dX8_remove_34 ?_
    exact J.iretM (pc := 37) C hR ((Option.some.inj hf).trans hp) dX8_remove_37
  · refine J.iconst (pc := 14) C (v := (-1)) dX8_remove_14 (by decide) ?_
    exact J.iretM (pc := 15) C hR ((Option.some.inj hf).trans hp) dX8_remove_15
set_option maxHeartbeats 4000000 in
set_option maxRecDepth 100000 in
theorem m_X8_move {l : Launch} {n : Nat} {σ : Mem} {k : Nat} {x1 : Int32} {x2 : Int32} {t0 : (Int32 × Mem)} (hf : f_X8_move n σ k x1 x2 = some t0) : Ct l yX8_move cX8_move 3 (some FieldType.int) 4 90 (fun ks => Ok ks k 8) (fun ad => [.ref (ad k), .int x1, .int x2]) σ (fun _ => some (.int t0.1)) t0.2 := by
  refine Ct.of (plainFor_of_name (by decide)) (fun _ => Nat.le_of_ble_eq_true rfl) ?_
  intro X C _ hk hcl hR
  have C : Cx X RX8 cX8_move 3 (some FieldType.int) 4 90 := C
  have hp : t0 = t0 := rfl
  show J X 0 [(0, .ref (Xad X k)), (1, .int x1), (2, .int x2)] [] σ
  unfold f_X8_move at hf
  refine J.aload_n (pc := 0) C dX8_move_0 rfl 0 rfl ?_
  refine J.getR (pc := 1) C kcX8 hk 0 rfl tw_298 rfl dX8_move_1 ?_
  refine J.getR (pc := 4) C kcX5 (ok_8_0 hcl hk) 4 rfl tw_228 rfl dX8_move_4 ?_
  refine J.iload_n (pc := 7) C dX8_move_7 rfl 1 rfl ?_
  obtain ⟨r_2, h_1, hf⟩ := bnd_some hf
  refine J.callV (pc := 8) C (m_X0_has h_1) (ok_5_4 hcl (ok_8_0 hcl hk)) wyX0_has tvX0_has_i tvX0_has_s tw_541 kcX0 rfl (ok_5_4 hcl (ok_8_0 hcl hk)) [.int x1] [] rfl rfl (Nat.le_of_ble_eq_true rfl) (Nat.le_of_ble_eq_true rfl) (Nat.le_of_ble_eq_true rfl) (stk' := [.int r_2]) rfl dX8_move_8 rfl ?_
  refine J.if_ne (pc := 11) C (tgt := 16) dX8_move_11 (by decide) hf (fun hf => ?_) (fun hf => ?_)
  · refine J.iload_n (pc := 16) C dX8_move_16 rfl 2 rfl ?_
    refine J.ldc (pc := 17) C (v := (-100000)) dX8_move_17 tw_559 ?_
    refine J.ldc (pc := 19) C (v := 100000) dX8_move_19 tw_526 ?_
    obtain ⟨r_4, h_3, hf⟩ := bnd_some hf
    refine J.callS (pc := 21) C (m_X8_within h_3) trivial wyX8_within tsX8_within tw_318 [.int x2, .int (-100000), .int 100000] [] rfl rfl (Nat.le_of_ble_eq_true rfl) (Nat.le_of_ble_eq_true rfl) (Nat.le_of_ble_eq_true rfl) (stk' := [.int r_4]) rfl dX8_move_21 rfl ?_
    refine J.if_eq (pc := 24) C (tgt := 50) dX8_move_24 (by decide) hf (fun hf => ?_) (fun hf => ?_)
    · refine J.bipush (pc := 50) C (v := (-2)) dX8_move_50 (by decide) ?_
      exact J.iretM (pc := 52) C hR ((Option.some.inj hf).trans hp) dX8_move_52
    · refine J.aload_n (pc := 27) C dX8_move_27 rfl 0 rfl ?_
      refine J.getR (pc := 28) C kcX8 hk 0 rfl tw_298 rfl dX8_move_28 ?_
      refine J.getR (pc := 31) C kcX5 (ok_8_0 hcl hk) 4 rfl tw_228 rfl dX8_move_31 ?_
      refine J.getR (pc := 34) C kcX0 (ok_5_4 hcl (ok_8_0 hcl hk)) 0 rfl tw_201 rfl dX8_move_34 ?_
      refine J.iload_n (pc := 37) C dX8_move_37 rfl 1 rfl ?_
      refine J.iald (pc := 38) C (ok_0_0 hcl (ok_5_4 hcl (ok_8_0 hcl hk))) hf dX8_move_38 (fun hf => ?_)
      refine J.iload_n (pc := 39) C dX8_move_39 rfl 2 rfl ?_
      refine J.iadd (pc := 40) C dX8_move_40 ?_
      refine J.iconst (pc := 41) C (v := 0) dX8_move_41 (by decide) ?_
      refine J.ldc (pc := 42) C (v := 100000) dX8_move_42 tw_526 ?_
      obtain ⟨r_6, h_5, hf⟩ := bnd_some hf
      refine J.callS (pc := 44) C (m_X8_within h_5) trivial wyX8_within tsX8_within tw_318 [.int ((σ (ptr (ptr (ptr k 0) 4) 0) (ix x1)) + x2), .int 0, .int 100000] [] rfl rfl (Nat.le_of_ble_eq_true rfl) (Nat.le_of_ble_eq_true rfl) (Nat.le_of_ble_eq_true rfl) (stk' := [.int r_6]) rfl dX8_move_44 rfl ?_
      refine J.if_ne (pc := 47) C (tgt := 53) dX8_move_47 (by decide) hf (fun hf => ?_) (fun hf => ?_)
      · refine J.aload_n (pc := 53) C dX8_move_53 rfl 0 rfl ?_
        refine J.getR (pc := 54) C kcX8 hk 0 rfl tw_298 rfl dX8_move_54 ?_
        refine J.getR (pc := 57) C kcX5 (ok_8_0 hcl hk) 4 rfl tw_228 rfl dX8_move_57 ?_
        refine J.iload_n (pc := 60) C dX8_move_60 rfl 1 rfl ?_
        refine J.iload_n (pc := 61) C dX8_move_61 rfl 2 rfl ?_
        obtain ⟨r_8, σ_9, h_7, hf⟩ := bnd2_some hf
        refine J.callV (pc := 62) C (m_X0_postpone h_7) (ok_5_4 hcl (ok_8_0 hcl hk)) wyX0_postpone tvX0_postpone_i tvX0_postpone_s tw_560 kcX0 rfl (ok_5_4 hcl (ok_8_0 hcl hk)) [.int x1, .int x2] [] rfl rfl (Nat.le_of_ble_eq_true rfl) (Nat.le_of_ble_eq_true rfl) (Nat.le_of_ble_eq_true rfl) (stk' := [.int r_8]) rfl dX8_move_62 rfl ?_
        exact J.iretM (pc := 65) C hR ((Option.some.inj hf).trans hp) dX8_move_65
      · refine J.bipush (pc := 50) C (v := (-2)) dX8_move_50 (by decide) ?_
        exact J.iretM (pc := 52) C hR ((Option.some.inj hf).trans hp) dX8_move_52
  · refine J.iconst (pc := 14) C (v := (-1)) dX8_move_14 (by decide) ?_
    exact J.iretM (pc := 15) C hR ((Option.some.inj hf).trans hp) dX8_move_15
set_option maxHeartbeats 4000000 in
set_option maxRecDepth 100000 in
theorem m_X8_part {l : Launch} {σ : Mem} {k : Nat} {x1 : Int32} {x2 : Int32} {t0 : Int32} (hf : f_X8_part σ k x1 x2 = some t0) : Ct l yX8_part cX8_part 3 (some FieldType.int) 2 43 (fun ks => Ok ks k 8) (fun ad => [.ref (ad k), .int x1, .int x2]) σ (fun _ => some (.int t0)) σ := by
  refine Ct.of (plainFor_of_name (by decide)) (fun _ => Nat.le_of_ble_eq_true rfl) ?_
  intro X C _ hk hcl hR
  have C : Cx X RX8 cX8_part 3 (some FieldType.int) 2 43 := C
  have hp : t0 = t0 := rfl
  show J X 0 [(0, .ref (Xad X k)), (1, .int x1), (2, .int x2)] [] σ
  unfold f_X8_part at hf
  refine J.aload_n (pc := 0) C dX8_part_0 rfl 0 rfl ?_
  refine J.getR (pc := 1) C kcX8 hk 0 rfl tw_298 rfl dX8_part_1 ?_
  refine J.getR (pc := 4) C kcX5 (ok_8_0 hcl hk) 4 rfl tw_228 rfl dX8_part_4 ?_
  refine J.iload_n (pc := 7) C dX8_part_7 rfl 1 rfl ?_
  obtain ⟨r_2, h_1, hf⟩ := bnd_some hf
  refine J.callV (pc := 8) C (m_X0_has h_1) (ok_5_4 hcl (ok_8_0 hcl hk)) wyX0_has tvX0_has_i tvX0_has_s tw_541 kcX0 rfl (ok_5_4 hcl (ok_8_0 hcl hk)) [.int x1] [] rfl rfl (Nat.le_of_ble_eq_true rfl) (Nat.le_of_ble_eq_true rfl) (Nat.le_of_ble_eq_true rfl) (stk' := [.int r_2]) rfl dX8_part_8 rfl ?_
  refine J.if_ne (pc := 11) C (tgt := 16) dX8_part_11 (by decide) hf (fun hf => ?_) (fun hf => ?_)
  · refine J.iload_n (pc := 16) C dX8_part_16 rfl 2 rfl ?_
    refine J.tblIn (pc := 17) C dX8_part_17 0 hf (by decide) (by decide) rfl (tgt := 44) (by decide) (fun hf => ?_) (fun hn0 hf => ?_)
    · refine J.aload_n (pc := 44) C dX8_part_44 rfl 0 rfl ?_
      refine J.getR (pc := 45) C kcX8 hk 0 rfl tw_298 rfl dX8_part_45 ?_
      refine J.getR (pc := 48) C kcX5 (ok_8_0 hcl hk) 4 rfl tw_228 rfl dX8_part_48 ?_
      refine J.getR (pc := 51) C kcX0 (ok_5_4 hcl (ok_8_0 hcl hk)) 0 rfl tw_201 rfl dX8_part_51 ?_
      refine J.iload_n (pc := 54) C dX8_part_54 rfl 1 rfl ?_
      refine J.iald (pc := 55) C (ok_0_0 hcl (ok_5_4 hcl (ok_8_0 hcl hk))) hf dX8_part_55 (fun hf => ?_)
      exact J.iretP (pc := 56) C hR ((Option.some.inj hf).trans hp) dX8_part_56
    refine J.tblIn (pc := 17) C dX8_part_17 1 hf (by decide) (by decide) rfl (tgt := 57) (by decide) (fun hf => ?_) (fun hn1 hf => ?_)
    · refine J.aload_n (pc := 57) C dX8_part_57 rfl 0 rfl ?_
      refine J.getR (pc := 58) C kcX8 hk 0 rfl tw_298 rfl dX8_part_58 ?_
      refine J.getR (pc := 61) C kcX5 (ok_8_0 hcl hk) 4 rfl tw_228 rfl dX8_part_61 ?_
      refine J.getR (pc := 64) C kcX0 (ok_5_4 hcl (ok_8_0 hcl hk)) 1 rfl tw_203 rfl dX8_part_64 ?_
      refine J.iload_n (pc := 67) C dX8_part_67 rfl 1 rfl ?_
      refine J.iald (pc := 68) C (ok_0_1 hcl (ok_5_4 hcl (ok_8_0 hcl hk))) hf dX8_part_68 (fun hf => ?_)
      exact J.iretP (pc := 69) C hR ((Option.some.inj hf).trans hp) dX8_part_69
    refine J.tblIn (pc := 17) C dX8_part_17 2 hf (by decide) (by decide) rfl (tgt := 70) (by decide) (fun hf => ?_) (fun hn2 hf => ?_)
    · refine J.aload_n (pc := 70) C dX8_part_70 rfl 0 rfl ?_
      refine J.getR (pc := 71) C kcX8 hk 0 rfl tw_298 rfl dX8_part_71 ?_
      refine J.getR (pc := 74) C kcX5 (ok_8_0 hcl hk) 4 rfl tw_228 rfl dX8_part_74 ?_
      refine J.getR (pc := 77) C kcX0 (ok_5_4 hcl (ok_8_0 hcl hk)) 2 rfl tw_205 rfl dX8_part_77 ?_
      refine J.iload_n (pc := 80) C dX8_part_80 rfl 1 rfl ?_
      refine J.iald (pc := 81) C (ok_0_2 hcl (ok_5_4 hcl (ok_8_0 hcl hk))) hf dX8_part_81 (fun hf => ?_)
      exact J.iretP (pc := 82) C hR ((Option.some.inj hf).trans hp) dX8_part_82
    refine J.tblOut (pc := 17) C dX8_part_17 (by have q0 := lv_neT hn0 (a := 0) (by decide); have q1 := lv_neT hn1 (a := 1) (by decide); have q2 := lv_neT hn2 (a := 2) (by decide); omega) (tgt := 83) (by decide) ?_
    refine J.bipush (pc := 83) C (v := (-2)) dX8_part_83 (by decide) ?_
    exact J.iretP (pc := 85) C hR ((Option.some.inj hf).trans hp) dX8_part_85
  · refine J.iconst (pc := 14) C (v := (-1)) dX8_part_14 (by decide) ?_
    exact J.iretP (pc := 15) C hR ((Option.some.inj hf).trans hp) dX8_part_15
set_option maxHeartbeats 4000000 in
set_option maxRecDepth 100000 in
theorem m_X8_command {l : Launch} {n : Nat} {σ : Mem} {k : Nat} {x1 : Int32} {x2 : Int32} {t0 : (Int32 × Mem)} (hf : f_X8_command n σ k x1 x2 = some t0) : Ct l yX8_command cX8_command 3 (some FieldType.int) 1 23 (fun ks => Ok ks k 8) (fun ad => [.ref (ad k), .int x1, .int x2]) σ (fun _ => some (.int t0.1)) t0.2 := by
  refine Ct.of (plainFor_of_name (by decide)) (fun _ => Nat.le_of_ble_eq_true rfl) ?_
  intro X C _ hk hcl hR
  have C : Cx X RX8 cX8_command 3 (some FieldType.int) 1 23 := C
  have hp : t0 = t0 := rfl
  show J X 0 [(0, .ref (Xad X k)), (1, .int x1), (2, .int x2)] [] σ
  unfold f_X8_command at hf
  refine J.iload_n (pc := 0) C dX8_command_0 rfl 1 rfl ?_
  refine J.iconst (pc := 1) C (v := 1) dX8_command_1 (by decide) ?_
  refine J.sipush (pc := 2) C (v := 4095) dX8_command_2 (by decide) ?_
  obtain ⟨r_2, h_1, hf⟩ := bnd_some hf
  refine J.callS (pc := 5) C (m_X8_within h_1) trivial wyX8_within tsX8_within tw_318 [.int x1, .int 1, .int 4095] [] rfl rfl (Nat.le_of_ble_eq_true rfl) (Nat.le_of_ble_eq_true rfl) (Nat.le_of_ble_eq_true rfl) (stk' := [.int r_2]) rfl dX8_command_5 rfl ?_
  refine J.if_eq (pc := 8) C (tgt := 22) dX8_command_8 (by decide) hf (fun hf => ?_) (fun hf => ?_)
  · refine J.bipush (pc := 22) C (v := (-2)) dX8_command_22 (by decide) ?_
    exact J.iretM (pc := 24) C hR ((Option.some.inj hf).trans hp) dX8_command_24
  · refine J.iload_n (pc := 11) C dX8_command_11 rfl 2 rfl ?_
    refine J.iconst (pc := 12) C (v := 0) dX8_command_12 (by decide) ?_
    refine J.sipush (pc := 13) C (v := 1000) dX8_command_13 (by decide) ?_
    obtain ⟨r_4, h_3, hf⟩ := bnd_some hf
    refine J.callS (pc := 16) C (m_X8_within h_3) trivial wyX8_within tsX8_within tw_318 [.int x2, .int 0, .int 1000] [] rfl rfl (Nat.le_of_ble_eq_true rfl) (Nat.le_of_ble_eq_true rfl) (Nat.le_of_ble_eq_true rfl) (stk' := [.int r_4]) rfl dX8_command_16 rfl ?_
    refine J.if_ne (pc := 19) C (tgt := 25) dX8_command_19 (by decide) hf (fun hf => ?_) (fun hf => ?_)
    · refine J.aload_n (pc := 25) C dX8_command_25 rfl 0 rfl ?_
      refine J.getR (pc := 26) C kcX8 hk 0 rfl tw_298 rfl dX8_command_26 ?_
      refine J.getR (pc := 29) C kcX5 (ok_8_0 hcl hk) 1 rfl tw_222 rfl dX8_command_29 ?_
      refine J.iload_n (pc := 32) C dX8_command_32 rfl 1 rfl ?_
      refine J.iload_n (pc := 33) C dX8_command_33 rfl 2 rfl ?_
      obtain ⟨σ_7, h_5, hf⟩ := bnd_some hf
      refine J.callV (pc := 34) C (m_X1_obey h_5) (ok_5_1 hcl (ok_8_0 hcl hk)) wyX1_obey tvX1_obey_i tvX1_obey_s tw_550 kcX1 rfl (ok_5_1 hcl (ok_8_0 hcl hk)) [.int x1, .int x2] [] rfl rfl (Nat.le_of_ble_eq_true rfl) (Nat.le_of_ble_eq_true rfl) (Nat.le_of_ble_eq_true rfl) (stk' := []) rfl dX8_command_34 rfl ?_
      refine J.aload_n (pc := 37) C dX8_command_37 rfl 0 rfl ?_
      refine J.getR (pc := 38) C kcX8 hk 0 rfl tw_298 rfl dX8_command_38 ?_
      refine J.getI (pc := 41) C kcX5 (ok_8_0 hcl hk) 5 rfl tw_230 rfl dX8_command_41 ?_
      exact J.iretM (pc := 44) C hR ((Option.some.inj hf).trans hp) dX8_command_44
    · refine J.bipush (pc := 22) C (v := (-2)) dX8_command_22 (by decide) ?_
      exact J.iretM (pc := 24) C hR ((Option.some.inj hf).trans hp) dX8_command_24
set_option maxHeartbeats 4000000 in
set_option maxRecDepth 100000 in
theorem m_X8_tick {l : Launch} {n : Nat} {σ : Mem} {k : Nat} {x1 : Int32} {t0 : (Int32 × Mem)} (hf : f_X8_tick n σ k x1 = some t0) : Ct l yX8_tick cX8_tick 3 (some FieldType.int) 5 116 (fun ks => Ok ks k 8) (fun ad => [.ref (ad k), .int x1]) σ (fun _ => some (.int t0.1)) t0.2 := by
  refine Ct.of (plainFor_of_name (by decide)) (fun _ => Nat.le_of_ble_eq_true rfl) ?_
  intro X C _ hk hcl hR
  have C : Cx X RX8 cX8_tick 3 (some FieldType.int) 5 116 := C
  have L33 : ∀ (σ : Mem) (x1 : Int32) (x2 : Int32) (t : (Int32 × Mem)), f_X8_tick_L33 n σ k x1 x2 = some t → t = t0 → J X 33 [(0, .ref (Xad X k)), (1, .int x1), (2, .int x2)] [] σ := by
    intro σ x1 x2 t hf hp
    unfold f_X8_tick_L33 at hf
    refine J_iter (JJ := fun (s : Mem × Int32) => J X 33 [(0, .ref (Xad X k)), (1, .int x1), (2, .int (s.2))] [] s.1) (Ps := fun t => t = t0) ?_ n (σ, x2) t hf hp
    clear hf hp
    intro s t hf hp hq
    obtain ⟨σ, x2⟩ := s
    have hp := And.intro hp hq
    clear hq
    have hf : f_X8_tick_B33 n σ k x1 x2 = some t := hf
    show J X 33 [(0, .ref (Xad X k)), (1, .int x1), (2, .int x2)] [] σ
    unfold f_X8_tick_B33 at hf
    refine J.iload_n (pc := 33) C dX8_tick_33 rfl 2 rfl ?_
    refine J.iload_n (pc := 34) C dX8_tick_34 rfl 1 rfl ?_
    refine J.icmp_ge (pc := 35) C (tgt := 51) dX8_tick_35 (by decide) hf (fun hf => ?_) (fun hf => ?_)
    · refine J.aload_n (pc := 51) C dX8_tick_51 rfl 0 rfl ?_
      refine J.getR (pc := 52) C kcX8 hk 0 rfl tw_298 rfl dX8_tick_52 ?_
      refine J.getI (pc := 55) C kcX5 (ok_8_0 hcl hk) 5 rfl tw_230 rfl dX8_tick_55 ?_
      exact J.iretM (pc := 58) C hR ((hp.1 _ (Option.some.inj hf).symm)) dX8_tick_58
    · refine J.aload_n (pc := 38) C dX8_tick_38 rfl 0 rfl ?_
      refine J.getR (pc := 39) C kcX8 hk 0 rfl tw_298 rfl dX8_tick_39 ?_
      obtain ⟨σ_5, h_3, hf⟩ := bnd_some hf
      refine J.callV (pc := 42) C (m_X5_makeTick h_3) (ok_8_0 hcl hk) wyX5_makeTick tvX5_makeTick_i tvX5_makeTick_s tw_416 kcX5 rfl (ok_8_0 hcl hk) [] [] rfl rfl (Nat.le_of_ble_eq_true rfl) (Nat.le_of_ble_eq_true rfl) (Nat.le_of_ble_eq_true rfl) (stk' := []) rfl dX8_tick_42 rfl ?_
      obtain ⟨x2_6, hx_x2_6, hf⟩ := nm_some hf
      refine J.iinc (pc := 45) C (v := x2_6) (loc' := [(2, .int x2_6), (0, .ref (Xad X k)), (1, .int x1)]) dX8_tick_45 (k := 2) rfl (by rw [hx_x2_6]; rfl) (by decide) rfl ?_
      refine J.goto (pc := 48) C (tgt := 33) dX8_tick_48 (by decide) ?_
      exact J.sub (loc' := [(0, .ref (Xad X k)), (1, .int x1), (2, .int x2_6)]) [1, 2, 0] rfl (hp.2 _ (Option.some.inj hf).symm)
  have hp : t0 = t0 := rfl
  show J X 0 [(0, .ref (Xad X k)), (1, .int x1)] [] σ
  unfold f_X8_tick at hf
  refine J.iload_n (pc := 0) C dX8_tick_0 rfl 1 rfl ?_
  refine J.iconst (pc := 1) C (v := 1) dX8_tick_1 (by decide) ?_
  refine J.sipush (pc := 2) C (v := 2000) dX8_tick_2 (by decide) ?_
  obtain ⟨r_2, h_1, hf⟩ := bnd_some hf
  refine J.callS (pc := 5) C (m_X8_within h_1) trivial wyX8_within tsX8_within tw_318 [.int x1, .int 1, .int 2000] [] rfl rfl (Nat.le_of_ble_eq_true rfl) (Nat.le_of_ble_eq_true rfl) (Nat.le_of_ble_eq_true rfl) (stk' := [.int r_2]) rfl dX8_tick_5 rfl ?_
  refine J.if_ne (pc := 8) C (tgt := 14) dX8_tick_8 (by decide) hf (fun hf => ?_) (fun hf => ?_)
  · refine J.aload_n (pc := 14) C dX8_tick_14 rfl 0 rfl ?_
    refine J.getR (pc := 15) C kcX8 hk 0 rfl tw_298 rfl dX8_tick_15 ?_
    refine J.getI (pc := 18) C kcX5 (ok_8_0 hcl hk) 5 rfl tw_230 rfl dX8_tick_18 ?_
    refine J.iload_n (pc := 21) C dX8_tick_21 rfl 1 rfl ?_
    refine J.iadd (pc := 22) C dX8_tick_22 ?_
    refine J.ldc (pc := 23) C (v := 200000) dX8_tick_23 tw_415 ?_
    refine J.icmp_le (pc := 25) C (tgt := 31) dX8_tick_25 (by decide) hf (fun hf => ?_) (fun hf => ?_)
    · refine J.iconst (pc := 31) C (v := 0) dX8_tick_31 (by decide) ?_
      refine J.istore_n (pc := 32) C (loc' := [(2, .int 0), (0, .ref (Xad X k)), (1, .int x1)]) dX8_tick_32 rfl (by decide) rfl ?_
      exact J.sub (loc' := [(0, .ref (Xad X k)), (1, .int x1), (2, .int 0)]) [1, 2, 0] rfl (L33 σ x1 0 _ hf hp)
    · refine J.bipush (pc := 28) C (v := (-5)) dX8_tick_28 (by decide) ?_
      exact J.iretM (pc := 30) C hR ((Option.some.inj hf).trans hp) dX8_tick_30
  · refine J.bipush (pc := 11) C (v := (-2)) dX8_tick_11 (by decide) ?_
    exact J.iretM (pc := 13) C hR ((Option.some.inj hf).trans hp) dX8_tick_13
set_option maxHeartbeats 4000000 in
set_option maxRecDepth 100000 in
theorem m_X8_rewind {l : Launch} {n : Nat} {σ : Mem} {k : Nat} {t0 : (Int32 × Mem)} (hf : f_X8_rewind n σ k = some t0) : Ct l yX8_rewind cX8_rewind 2 (some FieldType.int) 3 61 (fun ks => Ok ks k 8) (fun ad => [.ref (ad k)]) σ (fun _ => some (.int t0.1)) t0.2 := by
  refine Ct.of (plainFor_of_name (by decide)) (fun _ => Nat.le_of_ble_eq_true rfl) ?_
  intro X C _ hk hcl hR
  have C : Cx X RX8 cX8_rewind 2 (some FieldType.int) 3 61 := C
  have hp : t0 = t0 := rfl
  show J X 0 [(0, .ref (Xad X k))] [] σ
  unfold f_X8_rewind at hf
  refine J.aload_n (pc := 0) C dX8_rewind_0 rfl 0 rfl ?_
  refine J.getR (pc := 1) C kcX8 hk 0 rfl tw_298 rfl dX8_rewind_1 ?_
  refine J.getI (pc := 4) C kcX5 (ok_8_0 hcl hk) 5 rfl tw_230 rfl dX8_rewind_4 ?_
  refine J.nmI hf (fun x1_1 hf => ?_)
  refine J.istore_n (pc := 7) C (loc' := [(1, .int x1_1), (0, .ref (Xad X k))]) dX8_rewind_7 rfl (by decide) rfl ?_
  refine J.aload_n (pc := 8) C dX8_rewind_8 rfl 1 rfl ?_
  refine J.getR (pc := 9) C kcX8 hk 0 rfl tw_298 rfl dX8_rewind_9 ?_
  obtain ⟨σ_4, h_2, hf⟩ := bnd_some hf
  refine J.callV (pc := 12) C (m_X5_goBack h_2) (ok_8_0 hcl hk) wyX5_goBack tvX5_goBack_i tvX5_goBack_s tw_683 kcX5 rfl (ok_8_0 hcl hk) [] [] rfl rfl (Nat.le_of_ble_eq_true rfl) (Nat.le_of_ble_eq_true rfl) (Nat.le_of_ble_eq_true rfl) (stk' := []) rfl dX8_rewind_12 rfl ?_
  refine J.iload_n (pc := 15) C dX8_rewind_15 rfl 0 rfl ?_
  exact J.iretM (pc := 16) C hR ((Option.some.inj hf).trans hp) dX8_rewind_16
set_option maxHeartbeats 4000000 in
set_option maxRecDepth 100000 in
theorem m_X8_spray {l : Launch} {σ : Mem} {k : Nat} {x1 : Int32} {x2 : Int32} {t0 : Int32} (hf : f_X8_spray σ k x1 x2 = some t0) : Ct l yX8_spray cX8_spray 3 (some FieldType.int) 2 43 (fun ks => Ok ks k 8) (fun ad => [.ref (ad k), .int x1, .int x2]) σ (fun _ => some (.int t0)) σ := by
  refine Ct.of (plainFor_of_name (by decide)) (fun _ => Nat.le_of_ble_eq_true rfl) ?_
  intro X C _ hk hcl hR
  have C : Cx X RX8 cX8_spray 3 (some FieldType.int) 2 43 := C
  have hp : t0 = t0 := rfl
  show J X 0 [(0, .ref (Xad X k)), (1, .int x1), (2, .int x2)] [] σ
  unfold f_X8_spray at hf
  refine J.aload_n (pc := 0) C dX8_spray_0 rfl 0 rfl ?_
  refine J.getR (pc := 1) C kcX8 hk 0 rfl tw_298 rfl dX8_spray_1 ?_
  refine J.getR (pc := 4) C kcX5 (ok_8_0 hcl hk) 1 rfl tw_222 rfl dX8_spray_4 ?_
  refine J.iload_n (pc := 7) C dX8_spray_7 rfl 1 rfl ?_
  obtain ⟨r_2, h_1, hf⟩ := bnd_some hf
  refine J.callV (pc := 8) C (m_X1_has h_1) (ok_5_1 hcl (ok_8_0 hcl hk)) wyX1_has tvX1_has_i tvX1_has_s tw_355 kcX1 rfl (ok_5_1 hcl (ok_8_0 hcl hk)) [.int x1] [] rfl rfl (Nat.le_of_ble_eq_true rfl) (Nat.le_of_ble_eq_true rfl) (Nat.le_of_ble_eq_true rfl) (stk' := [.int r_2]) rfl dX8_spray_8 rfl ?_
  refine J.if_ne (pc := 11) C (tgt := 16) dX8_spray_11 (by decide) hf (fun hf => ?_) (fun hf => ?_)
  · refine J.iload_n (pc := 16) C dX8_spray_16 rfl 2 rfl ?_
    refine J.tblIn (pc := 17) C dX8_spray_17 6 hf (by decide) (by decide) rfl (tgt := 56) (by decide) (fun hf => ?_) (fun hn6 hf => ?_)
    · refine J.aload_n (pc := 56) C dX8_spray_56 rfl 0 rfl ?_
      refine J.getR (pc := 57) C kcX8 hk 0 rfl tw_298 rfl dX8_spray_57 ?_
      refine J.getR (pc := 60) C kcX5 (ok_8_0 hcl hk) 1 rfl tw_222 rfl dX8_spray_60 ?_
      refine J.getR (pc := 63) C kcX1 (ok_5_1 hcl (ok_8_0 hcl hk)) 1 rfl tw_101 rfl dX8_spray_63 ?_
      refine J.iload_n (pc := 66) C dX8_spray_66 rfl 1 rfl ?_
      refine J.iald (pc := 67) C (ok_1_1 hcl (ok_5_1 hcl (ok_8_0 hcl hk))) hf dX8_spray_67 (fun hf => ?_)
      exact J.iretP (pc := 68) C hR ((Option.some.inj hf).trans hp) dX8_spray_68
    refine J.tblIn (pc := 17) C dX8_spray_17 7 hf (by decide) (by decide) rfl (tgt := 69) (by decide) (fun hf => ?_) (fun hn7 hf => ?_)
    · refine J.aload_n (pc := 69) C dX8_spray_69 rfl 0 rfl ?_
      refine J.getR (pc := 70) C kcX8 hk 0 rfl tw_298 rfl dX8_spray_70 ?_
      refine J.getR (pc := 73) C kcX5 (ok_8_0 hcl hk) 1 rfl tw_222 rfl dX8_spray_73 ?_
      refine J.getR (pc := 76) C kcX1 (ok_5_1 hcl (ok_8_0 hcl hk)) 2 rfl tw_103 rfl dX8_spray_76 ?_
      refine J.iload_n (pc := 79) C dX8_spray_79 rfl 1 rfl ?_
      refine J.iald (pc := 80) C (ok_1_2 hcl (ok_5_1 hcl (ok_8_0 hcl hk))) hf dX8_spray_80 (fun hf => ?_)
      exact J.iretP (pc := 81) C hR ((Option.some.inj hf).trans hp) dX8_spray_81
    refine J.tblIn (pc := 17) C dX8_spray_17 8 hf (by decide) (by decide) rfl (tgt := 82) (by decide) (fun hf => ?_) (fun hn8 hf => ?_)
    · refine J.aload_n (pc := 82) C dX8_spray_82 rfl 0 rfl ?_
      refine J.getR (pc := 83) C kcX8 hk 0 rfl tw_298 rfl dX8_spray_83 ?_
      refine J.getR (pc := 86) C kcX5 (ok_8_0 hcl hk) 1 rfl tw_222 rfl dX8_spray_86 ?_
      refine J.getR (pc := 89) C kcX1 (ok_5_1 hcl (ok_8_0 hcl hk)) 3 rfl tw_105 rfl dX8_spray_89 ?_
      refine J.iload_n (pc := 92) C dX8_spray_92 rfl 1 rfl ?_
      refine J.iald (pc := 93) C (ok_1_3 hcl (ok_5_1 hcl (ok_8_0 hcl hk))) hf dX8_spray_93 (fun hf => ?_)
      exact J.iretP (pc := 94) C hR ((Option.some.inj hf).trans hp) dX8_spray_94
    refine J.tblIn (pc := 17) C dX8_spray_17 9 hf (by decide) (by decide) rfl (tgt := 95) (by decide) (fun hf => ?_) (fun hn9 hf => ?_)
    · refine J.aload_n (pc := 95) C dX8_spray_95 rfl 0 rfl ?_
      refine J.getR (pc := 96) C kcX8 hk 0 rfl tw_298 rfl dX8_spray_96 ?_
      refine J.getR (pc := 99) C kcX5 (ok_8_0 hcl hk) 1 rfl tw_222 rfl dX8_spray_99 ?_
      refine J.getR (pc := 102) C kcX1 (ok_5_1 hcl (ok_8_0 hcl hk)) 4 rfl tw_107 rfl dX8_spray_102 ?_
      refine J.iload_n (pc := 105) C dX8_spray_105 rfl 1 rfl ?_
      refine J.iald (pc := 106) C (ok_1_4 hcl (ok_5_1 hcl (ok_8_0 hcl hk))) hf dX8_spray_106 (fun hf => ?_)
      exact J.iretP (pc := 107) C hR ((Option.some.inj hf).trans hp) dX8_spray_107
    refine J.tblIn (pc := 17) C dX8_spray_17 10 hf (by decide) (by decide) rfl (tgt := 108) (by decide) (fun hf => ?_) (fun hn10 hf => ?_)
    · refine J.aload_n (pc := 108) C dX8_spray_108 rfl 0 rfl ?_
      refine J.getR (pc := 109) C kcX8 hk 0 rfl tw_298 rfl dX8_spray_109 ?_
      refine J.getR (pc := 112) C kcX5 (ok_8_0 hcl hk) 1 rfl tw_222 rfl dX8_spray_112 ?_
      refine J.getR (pc := 115) C kcX1 (ok_5_1 hcl (ok_8_0 hcl hk)) 5 rfl tw_109 rfl dX8_spray_115 ?_
      refine J.iload_n (pc := 118) C dX8_spray_118 rfl 1 rfl ?_
      refine J.iald (pc := 119) C (ok_1_5 hcl (ok_5_1 hcl (ok_8_0 hcl hk))) hf dX8_spray_119 (fun hf => ?_)
      exact J.iretP (pc := 120) C hR ((Option.some.inj hf).trans hp) dX8_spray_120
    refine J.tblIn (pc := 17) C dX8_spray_17 11 hf (by decide) (by decide) rfl (tgt := 121) (by decide) (fun hf => ?_) (fun hn11 hf => ?_)
    · refine J.aload_n (pc := 121) C dX8_spray_121 rfl 0 rfl ?_
      refine J.getR (pc := 122) C kcX8 hk 0 rfl tw_298 rfl dX8_spray_122 ?_
      refine J.getR (pc := 125) C kcX5 (ok_8_0 hcl hk) 1 rfl tw_222 rfl dX8_spray_125 ?_
      refine J.getR (pc := 128) C kcX1 (ok_5_1 hcl (ok_8_0 hcl hk)) 6 rfl tw_111 rfl dX8_spray_128 ?_
      refine J.iload_n (pc := 131) C dX8_spray_131 rfl 1 rfl ?_
      refine J.iald (pc := 132) C (ok_1_6 hcl (ok_5_1 hcl (ok_8_0 hcl hk))) hf dX8_spray_132 (fun hf => ?_)
      exact J.iretP (pc := 133) C hR ((Option.some.inj hf).trans hp) dX8_spray_133
    refine J.tblOut (pc := 17) C dX8_spray_17 (by have q6 := lv_neT hn6 (a := 6) (by decide); have q7 := lv_neT hn7 (a := 7) (by decide); have q8 := lv_neT hn8 (a := 8) (by decide); have q9 := lv_neT hn9 (a := 9) (by decide); have q10 := lv_neT hn10 (a := 10) (by decide); have q11 := lv_neT hn11 (a := 11) (by decide); omega) (tgt := 134) (by decide) ?_
    refine J.iload_n (pc := 134) C dX8_spray_134 rfl 2 rfl ?_
    refine J.iconst (pc := 135) C (v := 0) dX8_spray_135 (by decide) ?_
    refine J.iconst (pc := 136) C (v := 5) dX8_spray_136 (by decide) ?_
    obtain ⟨r_4, h_3, hf⟩ := bnd_some hf
    refine J.callS (pc := 137) C (m_X8_within h_3) trivial wyX8_within tsX8_within tw_318 [.int x2, .int 0, .int 5] [] rfl rfl (Nat.le_of_ble_eq_true rfl) (Nat.le_of_ble_eq_true rfl) (Nat.le_of_ble_eq_true rfl) (stk' := [.int r_4]) rfl dX8_spray_137 rfl ?_
    refine J.if_eq (pc := 140) C (tgt := 161) dX8_spray_140 (by decide) hf (fun hf => ?_) (fun hf => ?_)
    · refine J.bipush (pc := 161) C (v := (-2)) dX8_spray_161 (by decide) ?_
      exact J.iretP (pc := 163) C hR ((Option.some.inj hf).trans hp) dX8_spray_163
    · refine J.aload_n (pc := 143) C dX8_spray_143 rfl 0 rfl ?_
      refine J.getR (pc := 144) C kcX8 hk 0 rfl tw_298 rfl dX8_spray_144 ?_
      refine J.getR (pc := 147) C kcX5 (ok_8_0 hcl hk) 1 rfl tw_222 rfl dX8_spray_147 ?_
      refine J.getR (pc := 150) C kcX1 (ok_5_1 hcl (ok_8_0 hcl hk)) 0 rfl tw_99 rfl dX8_spray_150 ?_
      refine J.iload_n (pc := 153) C dX8_spray_153 rfl 1 rfl ?_
      refine J.iload_n (pc := 154) C dX8_spray_154 rfl 2 rfl ?_
      obtain ⟨r_6, h_5, hf⟩ := bnd_some hf
      refine J.callV (pc := 155) C (m_X4_value h_5) (ok_1_0 hcl (ok_5_1 hcl (ok_8_0 hcl hk))) wyX4_value tvX4_value_i tvX4_value_s tw_399 kcX4 rfl (ok_1_0 hcl (ok_5_1 hcl (ok_8_0 hcl hk))) [.int x1, .int x2] [] rfl rfl (Nat.le_of_ble_eq_true rfl) (Nat.le_of_ble_eq_true rfl) (Nat.le_of_ble_eq_true rfl) (stk' := [.int r_6]) rfl dX8_spray_155 rfl ?_
      refine J.goto (pc := 158) C (tgt := 163) dX8_spray_158 (by decide) ?_
      exact J.iretP (pc := 163) C hR ((Option.some.inj hf).trans hp) dX8_spray_163
  · refine J.iconst (pc := 14) C (v := (-1)) dX8_spray_14 (by decide) ?_
    exact J.iretP (pc := 15) C hR ((Option.some.inj hf).trans hp) dX8_spray_15
set_option maxHeartbeats 4000000 in
set_option maxRecDepth 100000 in
theorem m_X8_pressure {l : Launch} {σ : Mem} {k : Nat} {x1 : Int32} {x2 : Int32} {t0 : Int32} (hf : f_X8_pressure σ k x1 x2 = some t0) : Ct l yX8_pressure cX8_pressure 3 (some FieldType.int) 1 23 (fun ks => Ok ks k 8) (fun ad => [.ref (ad k), .int x1, .int x2]) σ (fun _ => some (.int t0)) σ := by
  refine Ct.of (plainFor_of_name (by decide)) (fun _ => Nat.le_of_ble_eq_true rfl) ?_
  intro X C _ hk hcl hR
  have C : Cx X RX8 cX8_pressure 3 (some FieldType.int) 1 23 := C
  have hp : t0 = t0 := rfl
  show J X 0 [(0, .ref (Xad X k)), (1, .int x1), (2, .int x2)] [] σ
  unfold f_X8_pressure at hf
  refine J.iload_n (pc := 0) C dX8_pressure_0 rfl 1 rfl ?_
  refine J.iconst (pc := 1) C (v := 0) dX8_pressure_1 (by decide) ?_
  refine J.iconst (pc := 2) C (v := 2) dX8_pressure_2 (by decide) ?_
  obtain ⟨r_2, h_1, hf⟩ := bnd_some hf
  refine J.callS (pc := 3) C (m_X8_within h_1) trivial wyX8_within tsX8_within tw_318 [.int x1, .int 0, .int 2] [] rfl rfl (Nat.le_of_ble_eq_true rfl) (Nat.le_of_ble_eq_true rfl) (Nat.le_of_ble_eq_true rfl) (stk' := [.int r_2]) rfl dX8_pressure_3 rfl ?_
  refine J.if_ne (pc := 6) C (tgt := 11) dX8_pressure_6 (by decide) hf (fun hf => ?_) (fun hf => ?_)
  · refine J.iload_n (pc := 11) C dX8_pressure_11 rfl 2 rfl ?_
    refine J.tblIn (pc := 12) C dX8_pressure_12 2 hf (by decide) (by decide) rfl (tgt := 40) (by decide) (fun hf => ?_) (fun hn2 hf => ?_)
    · refine J.aload_n (pc := 40) C dX8_pressure_40 rfl 0 rfl ?_
      refine J.getR (pc := 41) C kcX8 hk 0 rfl tw_298 rfl dX8_pressure_41 ?_
      refine J.getR (pc := 44) C kcX5 (ok_8_0 hcl hk) 2 rfl tw_224 rfl dX8_pressure_44 ?_
      refine J.getR (pc := 47) C kcX3 (ok_5_2 hcl (ok_8_0 hcl hk)) 1 rfl tw_156 rfl dX8_pressure_47 ?_
      refine J.iload_n (pc := 50) C dX8_pressure_50 rfl 1 rfl ?_
      refine J.iald (pc := 51) C (ok_3_1 hcl (ok_5_2 hcl (ok_8_0 hcl hk))) hf dX8_pressure_51 (fun hf => ?_)
      exact J.iretP (pc := 52) C hR ((Option.some.inj hf).trans hp) dX8_pressure_52
    refine J.tblIn (pc := 12) C dX8_pressure_12 3 hf (by decide) (by decide) rfl (tgt := 53) (by decide) (fun hf => ?_) (fun hn3 hf => ?_)
    · refine J.aload_n (pc := 53) C dX8_pressure_53 rfl 0 rfl ?_
      refine J.getR (pc := 54) C kcX8 hk 0 rfl tw_298 rfl dX8_pressure_54 ?_
      refine J.getR (pc := 57) C kcX5 (ok_8_0 hcl hk) 2 rfl tw_224 rfl dX8_pressure_57 ?_
      refine J.getR (pc := 60) C kcX3 (ok_5_2 hcl (ok_8_0 hcl hk)) 2 rfl tw_158 rfl dX8_pressure_60 ?_
      refine J.iload_n (pc := 63) C dX8_pressure_63 rfl 1 rfl ?_
      refine J.iald (pc := 64) C (ok_3_2 hcl (ok_5_2 hcl (ok_8_0 hcl hk))) hf dX8_pressure_64 (fun hf => ?_)
      exact J.iretP (pc := 65) C hR ((Option.some.inj hf).trans hp) dX8_pressure_65
    refine J.tblIn (pc := 12) C dX8_pressure_12 4 hf (by decide) (by decide) rfl (tgt := 66) (by decide) (fun hf => ?_) (fun hn4 hf => ?_)
    · refine J.aload_n (pc := 66) C dX8_pressure_66 rfl 0 rfl ?_
      refine J.getR (pc := 67) C kcX8 hk 0 rfl tw_298 rfl dX8_pressure_67 ?_
      refine J.getR (pc := 70) C kcX5 (ok_8_0 hcl hk) 2 rfl tw_224 rfl dX8_pressure_70 ?_
      refine J.getR (pc := 73) C kcX3 (ok_5_2 hcl (ok_8_0 hcl hk)) 3 rfl tw_160 rfl dX8_pressure_73 ?_
      refine J.iload_n (pc := 76) C dX8_pressure_76 rfl 1 rfl ?_
      refine J.iald (pc := 77) C (ok_3_3 hcl (ok_5_2 hcl (ok_8_0 hcl hk))) hf dX8_pressure_77 (fun hf => ?_)
      exact J.iretP (pc := 78) C hR ((Option.some.inj hf).trans hp) dX8_pressure_78
    refine J.tblOut (pc := 12) C dX8_pressure_12 (by have q2 := lv_neT hn2 (a := 2) (by decide); have q3 := lv_neT hn3 (a := 3) (by decide); have q4 := lv_neT hn4 (a := 4) (by decide); omega) (tgt := 79) (by decide) ?_
    refine J.iload_n (pc := 79) C dX8_pressure_79 rfl 2 rfl ?_
    refine J.iconst (pc := 80) C (v := 0) dX8_pressure_80 (by decide) ?_
    refine J.iconst (pc := 81) C (v := 1) dX8_pressure_81 (by decide) ?_
    obtain ⟨r_4, h_3, hf⟩ := bnd_some hf
    refine J.callS (pc := 82) C (m_X8_within h_3) trivial wyX8_within tsX8_within tw_318 [.int x2, .int 0, .int 1] [] rfl rfl (Nat.le_of_ble_eq_true rfl) (Nat.le_of_ble_eq_true rfl) (Nat.le_of_ble_eq_true rfl) (stk' := [.int r_4]) rfl dX8_pressure_82 rfl ?_
    refine J.if_eq (pc := 85) C (tgt := 106) dX8_pressure_85 (by decide) hf (fun hf => ?_) (fun hf => ?_)
    · refine J.bipush (pc := 106) C (v := (-2)) dX8_pressure_106 (by decide) ?_
      exact J.iretP (pc := 108) C hR ((Option.some.inj hf).trans hp) dX8_pressure_108
    · refine J.aload_n (pc := 88) C dX8_pressure_88 rfl 0 rfl ?_
      refine J.getR (pc := 89) C kcX8 hk 0 rfl tw_298 rfl dX8_pressure_89 ?_
      refine J.getR (pc := 92) C kcX5 (ok_8_0 hcl hk) 2 rfl tw_224 rfl dX8_pressure_92 ?_
      refine J.getR (pc := 95) C kcX3 (ok_5_2 hcl (ok_8_0 hcl hk)) 0 rfl tw_154 rfl dX8_pressure_95 ?_
      refine J.iload_n (pc := 98) C dX8_pressure_98 rfl 1 rfl ?_
      refine J.iload_n (pc := 99) C dX8_pressure_99 rfl 2 rfl ?_
      obtain ⟨r_6, h_5, hf⟩ := bnd_some hf
      refine J.callV (pc := 100) C (m_X4_value h_5) (ok_3_0 hcl (ok_5_2 hcl (ok_8_0 hcl hk))) wyX4_value tvX4_value_i tvX4_value_s tw_399 kcX4 rfl (ok_3_0 hcl (ok_5_2 hcl (ok_8_0 hcl hk))) [.int x1, .int x2] [] rfl rfl (Nat.le_of_ble_eq_true rfl) (Nat.le_of_ble_eq_true rfl) (Nat.le_of_ble_eq_true rfl) (stk' := [.int r_6]) rfl dX8_pressure_100 rfl ?_
      refine J.goto (pc := 103) C (tgt := 108) dX8_pressure_103 (by decide) ?_
      exact J.iretP (pc := 108) C hR ((Option.some.inj hf).trans hp) dX8_pressure_108
  · refine J.iconst (pc := 9) C (v := (-1)) dX8_pressure_9 (by decide) ?_
    exact J.iretP (pc := 10) C hR ((Option.some.inj hf).trans hp) dX8_pressure_10
set_option maxHeartbeats 4000000 in
set_option maxRecDepth 100000 in
theorem m_X8_state {l : Launch} {n : Nat} {σ : Mem} {k : Nat} {x1 : Int32} {t0 : Int32} (hf : f_X8_state n σ k x1 = some t0) : Ct l yX8_state cX8_state 2 (some FieldType.int) 1 23 (fun ks => Ok ks k 8) (fun ad => [.ref (ad k), .int x1]) σ (fun _ => some (.int t0)) σ := by
  refine Ct.of (plainFor_of_name (by decide)) (fun _ => Nat.le_of_ble_eq_true rfl) ?_
  intro X C _ hk hcl hR
  have C : Cx X RX8 cX8_state 2 (some FieldType.int) 1 23 := C
  have hp : t0 = t0 := rfl
  show J X 0 [(0, .ref (Xad X k)), (1, .int x1)] [] σ
  unfold f_X8_state at hf
  refine J.iload_n (pc := 0) C dX8_state_0 rfl 1 rfl ?_
  refine J.tblIn (pc := 1) C dX8_state_1 0 hf (by decide) (by decide) rfl (tgt := 56) (by decide) (fun hf => ?_) (fun hn0 hf => ?_)
  · refine J.aload_n (pc := 56) C dX8_state_56 rfl 0 rfl ?_
    refine J.getR (pc := 57) C kcX8 hk 0 rfl tw_298 rfl dX8_state_57 ?_
    refine J.getI (pc := 60) C kcX5 (ok_8_0 hcl hk) 5 rfl tw_230 rfl dX8_state_60 ?_
    exact J.iretP (pc := 63) C hR ((Option.some.inj hf).trans hp) dX8_state_63
  refine J.tblIn (pc := 1) C dX8_state_1 1 hf (by decide) (by decide) rfl (tgt := 64) (by decide) (fun hf => ?_) (fun hn1 hf => ?_)
  · refine J.aload_n (pc := 64) C dX8_state_64 rfl 0 rfl ?_
    refine J.getR (pc := 65) C kcX8 hk 0 rfl tw_298 rfl dX8_state_65 ?_
    refine J.getR (pc := 68) C kcX5 (ok_8_0 hcl hk) 1 rfl tw_222 rfl dX8_state_68 ?_
    refine J.getI (pc := 71) C kcX1 (ok_5_1 hcl (ok_8_0 hcl hk)) 8 rfl tw_114 rfl dX8_state_71 ?_
    exact J.iretP (pc := 74) C hR ((Option.some.inj hf).trans hp) dX8_state_74
  refine J.tblIn (pc := 1) C dX8_state_1 2 hf (by decide) (by decide) rfl (tgt := 75) (by decide) (fun hf => ?_) (fun hn2 hf => ?_)
  · refine J.aload_n (pc := 75) C dX8_state_75 rfl 0 rfl ?_
    refine J.getR (pc := 76) C kcX8 hk 0 rfl tw_298 rfl dX8_state_76 ?_
    refine J.getR (pc := 79) C kcX5 (ok_8_0 hcl hk) 4 rfl tw_228 rfl dX8_state_79 ?_
    refine J.getI (pc := 82) C kcX0 (ok_5_4 hcl (ok_8_0 hcl hk)) 3 rfl tw_209 rfl dX8_state_82 ?_
    exact J.iretP (pc := 85) C hR ((Option.some.inj hf).trans hp) dX8_state_85
  refine J.tblIn (pc := 1) C dX8_state_1 3 hf (by decide) (by decide) rfl (tgt := 86) (by decide) (fun hf => ?_) (fun hn3 hf => ?_)
  · refine J.aload_n (pc := 86) C dX8_state_86 rfl 0 rfl ?_
    refine J.getR (pc := 87) C kcX8 hk 0 rfl tw_298 rfl dX8_state_87 ?_
    refine J.getR (pc := 90) C kcX5 (ok_8_0 hcl hk) 3 rfl tw_226 rfl dX8_state_90 ?_
    refine J.getI (pc := 93) C kcX7 (ok_5_3 hcl (ok_8_0 hcl hk)) 0 rfl tw_178 rfl dX8_state_93 ?_
    exact J.iretP (pc := 96) C hR ((Option.some.inj hf).trans hp) dX8_state_96
  refine J.tblIn (pc := 1) C dX8_state_1 4 hf (by decide) (by decide) rfl (tgt := 97) (by decide) (fun hf => ?_) (fun hn4 hf => ?_)
  · refine J.aload_n (pc := 97) C dX8_state_97 rfl 0 rfl ?_
    refine J.getR (pc := 98) C kcX8 hk 0 rfl tw_298 rfl dX8_state_98 ?_
    refine J.getR (pc := 101) C kcX5 (ok_8_0 hcl hk) 3 rfl tw_226 rfl dX8_state_101 ?_
    obtain ⟨r_6, h_5, hf⟩ := bnd_some hf
    refine J.callV (pc := 104) C (m_X7_measured h_5) (ok_5_3 hcl (ok_8_0 hcl hk)) wyX7_measured tvX7_measured_i tvX7_measured_s tw_391 kcX7 rfl (ok_5_3 hcl (ok_8_0 hcl hk)) [] [] rfl rfl (Nat.le_of_ble_eq_true rfl) (Nat.le_of_ble_eq_true rfl) (Nat.le_of_ble_eq_true rfl) (stk' := [.int r_6]) rfl dX8_state_104 rfl ?_
    exact J.iretP (pc := 107) C hR ((Option.some.inj hf).trans hp) dX8_state_107
  refine J.tblIn (pc := 1) C dX8_state_1 5 hf (by decide) (by decide) rfl (tgt := 108) (by decide) (fun hf => ?_) (fun hn5 hf => ?_)
  · refine J.aload_n (pc := 108) C dX8_state_108 rfl 0 rfl ?_
    refine J.getR (pc := 109) C kcX8 hk 0 rfl tw_298 rfl dX8_state_109 ?_
    refine J.getR (pc := 112) C kcX5 (ok_8_0 hcl hk) 3 rfl tw_226 rfl dX8_state_112 ?_
    refine J.getI (pc := 115) C kcX7 (ok_5_3 hcl (ok_8_0 hcl hk)) 2 rfl tw_182 rfl dX8_state_115 ?_
    exact J.iretP (pc := 118) C hR ((Option.some.inj hf).trans hp) dX8_state_118
  refine J.tblIn (pc := 1) C dX8_state_1 6 hf (by decide) (by decide) rfl (tgt := 119) (by decide) (fun hf => ?_) (fun hn6 hf => ?_)
  · refine J.aload_n (pc := 119) C dX8_state_119 rfl 0 rfl ?_
    refine J.getR (pc := 120) C kcX8 hk 0 rfl tw_298 rfl dX8_state_120 ?_
    refine J.getR (pc := 123) C kcX5 (ok_8_0 hcl hk) 3 rfl tw_226 rfl dX8_state_123 ?_
    refine J.getI (pc := 126) C kcX7 (ok_5_3 hcl (ok_8_0 hcl hk)) 3 rfl tw_184 rfl dX8_state_126 ?_
    exact J.iretP (pc := 129) C hR ((Option.some.inj hf).trans hp) dX8_state_129
  refine J.tblIn (pc := 1) C dX8_state_1 7 hf (by decide) (by decide) rfl (tgt := 130) (by decide) (fun hf => ?_) (fun hn7 hf => ?_)
  · refine J.aload_n (pc := 130) C dX8_state_130 rfl 0 rfl ?_
    refine J.getR (pc := 131) C kcX8 hk 0 rfl tw_298 rfl dX8_state_131 ?_
    refine J.getI (pc := 134) C kcX5 (ok_8_0 hcl hk) 6 rfl tw_232 rfl dX8_state_134 ?_
    exact J.iretP (pc := 137) C hR ((Option.some.inj hf).trans hp) dX8_state_137
  refine J.tblIn (pc := 1) C dX8_state_1 8 hf (by decide) (by decide) rfl (tgt := 138) (by decide) (fun hf => ?_) (fun hn8 hf => ?_)
  · refine J.aload_n (pc := 138) C dX8_state_138 rfl 0 rfl ?_
    refine J.getR (pc := 139) C kcX8 hk 0 rfl tw_298 rfl dX8_state_139 ?_
    refine J.getR (pc := 142) C kcX5 (ok_8_0 hcl hk) 4 rfl tw_228 rfl dX8_state_142 ?_
    refine J.aload_n (pc := 145) C dX8_state_145 rfl 0 rfl ?_
    refine J.getR (pc := 146) C kcX8 hk 0 rfl tw_298 rfl dX8_state_146 ?_
    refine J.getI (pc := 149) C kcX5 (ok_8_0 hcl hk) 5 rfl tw_230 rfl dX8_state_149 ?_
    obtain ⟨r_8, h_7, hf⟩ := bnd_some hf
    refine J.callV (pc := 152) C (m_X0_next h_7) (ok_5_4 hcl (ok_8_0 hcl hk)) wyX0_next tvX0_next_i tvX0_next_s tw_395 kcX0 rfl (ok_5_4 hcl (ok_8_0 hcl hk)) [.int (σ (ptr k 0) 5)] [] rfl rfl (Nat.le_of_ble_eq_true rfl) (Nat.le_of_ble_eq_true rfl) (Nat.le_of_ble_eq_true rfl) (stk' := [.int r_8]) rfl dX8_state_152 rfl ?_
    exact J.iretP (pc := 155) C hR ((Option.some.inj hf).trans hp) dX8_state_155
  refine J.tblIn (pc := 1) C dX8_state_1 9 hf (by decide) (by decide) rfl (tgt := 156) (by decide) (fun hf => ?_) (fun hn9 hf => ?_)
  · refine J.aload_n (pc := 156) C dX8_state_156 rfl 0 rfl ?_
    refine J.getR (pc := 157) C kcX8 hk 4 rfl tw_302 rfl dX8_state_157 ?_
    refine J.getI (pc := 160) C kcX2 (ok_8_4 hcl hk) 2 rfl tw_277 rfl dX8_state_160 ?_
    exact J.iretP (pc := 163) C hR ((Option.some.inj hf).trans hp) dX8_state_163
  refine J.tblOut (pc := 1) C dX8_state_1 (by have q0 := lv_neT hn0 (a := 0) (by decide); have q1 := lv_neT hn1 (a := 1) (by decide); have q2 := lv_neT hn2 (a := 2) (by decide); have q3 := lv_neT hn3 (a := 3) (by decide); have q4 := lv_neT hn4 (a := 4) (by decide); have q5 := lv_neT hn5 (a := 5) (by decide); have q6 := lv_neT hn6 (a := 6) (by decide); have q7 := lv_neT hn7 (a := 7) (by decide); have q8 := lv_neT hn8 (a := 8) (by decide); have q9 := lv_neT hn9 (a := 9) (by decide); omega) (tgt := 164) (by decide) ?_
  refine J.iload_n (pc := 164) C dX8_state_164 rfl 1 rfl ?_
  refine J.bipush (pc := 165) C (v := 10) dX8_state_165 (by decide) ?_
  refine J.bipush (pc := 167) C (v := 15) dX8_state_167 (by decide) ?_
  obtain ⟨r_2, h_1, hf⟩ := bnd_some hf
  refine J.callS (pc := 169) C (m_X8_within h_1) trivial wyX8_within tsX8_within tw_318 [.int x1, .int 10, .int 15] [] rfl rfl (Nat.le_of_ble_eq_true rfl) (Nat.le_of_ble_eq_true rfl) (Nat.le_of_ble_eq_true rfl) (stk' := [.int r_2]) rfl dX8_state_169 rfl ?_
  refine J.if_eq (pc := 172) C (tgt := 193) dX8_state_172 (by decide) hf (fun hf => ?_) (fun hf => ?_)
  · refine J.bipush (pc := 193) C (v := (-2)) dX8_state_193 (by decide) ?_
    exact J.iretP (pc := 195) C hR ((Option.some.inj hf).trans hp) dX8_state_195
  · refine J.aload_n (pc := 175) C dX8_state_175 rfl 0 rfl ?_
    refine J.getR (pc := 176) C kcX8 hk 0 rfl tw_298 rfl dX8_state_176 ?_
    refine J.getR (pc := 179) C kcX5 (ok_8_0 hcl hk) 0 rfl tw_220 rfl dX8_state_179 ?_
    refine J.iconst (pc := 182) C (v := 0) dX8_state_182 (by decide) ?_
    refine J.iload_n (pc := 183) C dX8_state_183 rfl 1 rfl ?_
    refine J.bipush (pc := 184) C (v := 10) dX8_state_184 (by decide) ?_
    refine J.isub (pc := 186) C dX8_state_186 ?_
    obtain ⟨r_4, h_3, hf⟩ := bnd_some hf
    refine J.callV (pc := 187) C (m_X4_value h_3) (ok_5_0 hcl (ok_8_0 hcl hk)) wyX4_value tvX4_value_i tvX4_value_s tw_399 kcX4 rfl (ok_5_0 hcl (ok_8_0 hcl hk)) [.int 0, .int (x1 - 10)] [] rfl rfl (Nat.le_of_ble_eq_true rfl) (Nat.le_of_ble_eq_true rfl) (Nat.le_of_ble_eq_true rfl) (stk' := [.int r_4]) rfl dX8_state_187 rfl ?_
    refine J.goto (pc := 190) C (tgt := 195) dX8_state_190 (by decide) ?_
    exact J.iretP (pc := 195) C hR ((Option.some.inj hf).trans hp) dX8_state_195
set_option maxHeartbeats 4000000 in
set_option maxRecDepth 100000 in
theorem m_X8_firstShort {l : Launch} {n : Nat} {σ : Mem} {k : Nat} {x1 : Int32} {x2 : Int32} {t0 : (Int32 × Mem)} (hf : f_X8_firstShort n σ k x1 x2 = some t0) : Ct l yX8_firstShort cX8_firstShort 4 (some FieldType.int) 5 116 (fun ks => Ok ks k 8) (fun ad => [.ref (ad k), .int x1, .int x2]) σ (fun _ => some (.int t0.1)) t0.2 := by
  refine Ct.of (plainFor_of_name (by decide)) (fun _ => Nat.le_of_ble_eq_true rfl) ?_
  intro X C _ hk hcl hR
  have C : Cx X RX8 cX8_firstShort 4 (some FieldType.int) 5 116 := C
  have L2 : ∀ (σ : Mem) (x1 : Int32) (x2 : Int32) (x3 : Int32) (t : (Int32 × Mem)), f_X8_firstShort_L2 n σ k x1 x2 x3 = some t → t = t0 → J X 2 [(0, .ref (Xad X k)), (1, .int x1), (2, .int x2), (3, .int x3)] [] σ := by
    intro σ x1 x2 x3 t hf hp
    unfold f_X8_firstShort_L2 at hf
    refine J_iter (JJ := fun (s : Mem × Int32) => J X 2 [(0, .ref (Xad X k)), (1, .int x1), (2, .int x2), (3, .int (s.2))] [] s.1) (Ps := fun t => t = t0) ?_ n (σ, x3) t hf hp
    clear hf hp
    intro s t hf hp hq
    obtain ⟨σ, x3⟩ := s
    have hp := And.intro hp hq
    clear hq
    have hf : f_X8_firstShort_B2 n σ k x1 x2 x3 = some t := hf
    show J X 2 [(0, .ref (Xad X k)), (1, .int x1), (2, .int x2), (3, .int x3)] [] σ
    unfold f_X8_firstShort_B2 at hf
    refine J.iload_n (pc := 2) C dX8_firstShort_2 rfl 3 rfl ?_
    refine J.iload_n (pc := 3) C dX8_firstShort_3 rfl 1 rfl ?_
    refine J.icmp_ge (pc := 4) C (tgt := 36) dX8_firstShort_4 (by decide) hf (fun hf => ?_) (fun hf => ?_)
    · refine J.bipush (pc := 36) C (v := (-6)) dX8_firstShort_36 (by decide) ?_
      exact J.iretM (pc := 38) C hR ((hp.1 _ (Option.some.inj hf).symm)) dX8_firstShort_38
    · refine J.aload_n (pc := 7) C dX8_firstShort_7 rfl 0 rfl ?_
      refine J.getR (pc := 8) C kcX8 hk 1 rfl tw_299 rfl dX8_firstShort_8 ?_
      obtain ⟨σ_3, h_1, hf⟩ := bnd_some hf
      refine J.callV (pc := 11) C (m_X5_makeTick h_1) (ok_8_1 hcl hk) wyX5_makeTick tvX5_makeTick_i tvX5_makeTick_s tw_416 kcX5 rfl (ok_8_1 hcl hk) [] [] rfl rfl (Nat.le_of_ble_eq_true rfl) (Nat.le_of_ble_eq_true rfl) (Nat.le_of_ble_eq_true rfl) (stk' := []) rfl dX8_firstShort_11 rfl ?_
      refine J.aload_n (pc := 14) C dX8_firstShort_14 rfl 0 rfl ?_
      refine J.getR (pc := 15) C kcX8 hk 1 rfl tw_299 rfl dX8_firstShort_15 ?_
      refine J.getR (pc := 18) C kcX5 (ok_8_1 hcl hk) 2 rfl tw_224 rfl dX8_firstShort_18 ?_
      refine J.iload_n (pc := 21) C dX8_firstShort_21 rfl 2 rfl ?_
      obtain ⟨r_5, h_4, hf⟩ := bnd_some hf
      refine J.callV (pc := 22) C (m_X3_isShort h_4) (ok_5_2 hcl (ok_8_1 hcl hk)) wyX3_isShort tvX3_isShort_i tvX3_isShort_s tw_625 kcX3 rfl (ok_5_2 hcl (ok_8_1 hcl hk)) [.int x2] [] rfl rfl (Nat.le_of_ble_eq_true rfl) (Nat.le_of_ble_eq_true rfl) (Nat.le_of_ble_eq_true rfl) (stk' := [.int r_5]) rfl dX8_firstShort_22 rfl ?_
      refine J.if_eq (pc := 25) C (tgt := 30) dX8_firstShort_25 (by decide) hf (fun hf => ?_) (fun hf => ?_)
      · obtain ⟨x3_6, hx_x3_6, hf⟩ := nm_some hf
        refine J.iinc (pc := 30) C (v := x3_6) (loc' := [(3, .int x3_6), (0, .ref (Xad X k)), (1, .int x1), (2, .int x2)]) dX8_firstShort_30 (k := 3) rfl (by rw [hx_x3_6]; rfl) (by decide) rfl ?_
        refine J.goto (pc := 33) C (tgt := 2) dX8_firstShort_33 (by decide) ?_
        exact J.sub (loc' := [(0, .ref (Xad X k)), (1, .int x1), (2, .int x2), (3, .int x3_6)]) [1, 2, 3, 0] rfl (hp.2 _ (Option.some.inj hf).symm)
      · refine J.iload_n (pc := 28) C dX8_firstShort_28 rfl 3 rfl ?_
        exact J.iretM (pc := 29) C hR ((hp.1 _ (Option.some.inj hf).symm)) dX8_firstShort_29
  have hp : t0 = t0 := rfl
  show J X 0 [(0, .ref (Xad X k)), (1, .int x1), (2, .int x2)] [] σ
  unfold f_X8_firstShort at hf
  refine J.iconst (pc := 0) C (v := 0) dX8_firstShort_0 (by decide) ?_
  refine J.istore_n (pc := 1) C (loc' := [(3, .int 0), (0, .ref (Xad X k)), (1, .int x1), (2, .int x2)]) dX8_firstShort_1 rfl (by decide) rfl ?_
  exact J.sub (loc' := [(0, .ref (Xad X k)), (1, .int x1), (2, .int x2), (3, .int 0)]) [1, 2, 3, 0] rfl (L2 σ x1 x2 0 _ hf hp)
set_option maxHeartbeats 4000000 in
set_option maxRecDepth 100000 in
theorem m_X8_greatestDemand {l : Launch} {n : Nat} {σ : Mem} {k : Nat} {x1 : Int32} {x2 : Int32} {t0 : (Int32 × Mem)} (hf : f_X8_greatestDemand n σ k x1 x2 = some t0) : Ct l yX8_greatestDemand cX8_greatestDemand 5 (some FieldType.int) 5 116 (fun ks => Ok ks k 8) (fun ad => [.ref (ad k), .int x1, .int x2]) σ (fun _ => some (.int t0.1)) t0.2 := by
  refine Ct.of (plainFor_of_name (by decide)) (fun _ => Nat.le_of_ble_eq_true rfl) ?_
  intro X C _ hk hcl hR
  have C : Cx X RX8 cX8_greatestDemand 5 (some FieldType.int) 5 116 := C
  have L5 : ∀ (σ : Mem) (x1 : Int32) (x2 : Int32) (x3 : Int32) (x4 : Int32) (t : (Int32 × Mem)), f_X8_greatestDemand_L5 n σ k x1 x2 x3 x4 = some t → t = t0 → J X 5 [(0, .ref (Xad X k)), (1, .int x1), (2, .int x2), (3, .int x3), (4, .int x4)] [] σ := by
    intro σ x1 x2 x3 x4 t hf hp
    unfold f_X8_greatestDemand_L5 at hf
    refine J_iter (JJ := fun (s : Mem × Int32 × Int32) => J X 5 [(0, .ref (Xad X k)), (1, .int x1), (2, .int x2), (3, .int (s.2.1)), (4, .int (s.2.2))] [] s.1) (Ps := fun t => t = t0) ?_ n (σ, x3, x4) t hf hp
    clear hf hp
    intro s t hf hp hq
    obtain ⟨σ, x3, x4⟩ := s
    have hp := And.intro hp hq
    clear hq
    have hf : f_X8_greatestDemand_B5 n σ k x1 x2 x3 x4 = some t := hf
    show J X 5 [(0, .ref (Xad X k)), (1, .int x1), (2, .int x2), (3, .int x3), (4, .int x4)] [] σ
    unfold f_X8_greatestDemand_B5 at hf
    refine J.iload (pc := 5) C dX8_greatestDemand_5 4 rfl ?_
    refine J.iload_n (pc := 7) C dX8_greatestDemand_7 rfl 1 rfl ?_
    refine J.icmp_ge (pc := 8) C (tgt := 41) dX8_greatestDemand_8 (by decide) hf (fun hf => ?_) (fun hf => ?_)
    · refine J.iload_n (pc := 41) C dX8_greatestDemand_41 rfl 3 rfl ?_
      exact J.iretM (pc := 42) C hR ((hp.1 _ (Option.some.inj hf).symm)) dX8_greatestDemand_42
    · refine J.aload_n (pc := 11) C dX8_greatestDemand_11 rfl 0 rfl ?_
      refine J.getR (pc := 12) C kcX8 hk 1 rfl tw_299 rfl dX8_greatestDemand_12 ?_
      obtain ⟨σ_3, h_1, hf⟩ := bnd_some hf
      refine J.callV (pc := 15) C (m_X5_makeTick h_1) (ok_8_1 hcl hk) wyX5_makeTick tvX5_makeTick_i tvX5_makeTick_s tw_416 kcX5 rfl (ok_8_1 hcl hk) [] [] rfl rfl (Nat.le_of_ble_eq_true rfl) (Nat.le_of_ble_eq_true rfl) (Nat.le_of_ble_eq_true rfl) (stk' := []) rfl dX8_greatestDemand_15 rfl ?_
      refine J.iload_n (pc := 18) C dX8_greatestDemand_18 rfl 3 rfl ?_
      refine J.aload_n (pc := 19) C dX8_greatestDemand_19 rfl 0 rfl ?_
      refine J.getR (pc := 20) C kcX8 hk 1 rfl tw_299 rfl dX8_greatestDemand_20 ?_
      refine J.getR (pc := 23) C kcX5 (ok_8_1 hcl hk) 2 rfl tw_224 rfl dX8_greatestDemand_23 ?_
      refine J.getR (pc := 26) C kcX3 (ok_5_2 hcl (ok_8_1 hcl hk)) 2 rfl tw_158 rfl dX8_greatestDemand_26 ?_
      refine J.iload_n (pc := 29) C dX8_greatestDemand_29 rfl 2 rfl ?_
      refine J.iald (pc := 30) C (ok_3_2 hcl (ok_5_2 hcl (ok_8_1 hcl hk))) hf dX8_greatestDemand_30 (fun hf => ?_)
      refine J.mmaxI (pc := 31) C tw_477 twm_max_s twm_i twm_max_c (Nat.le_of_ble_eq_true rfl) (Nat.le_of_ble_eq_true rfl) dX8_greatestDemand_31 ?_
      refine J.nmI hf (fun x3_4 hf => ?_)
      refine J.istore_n (pc := 34) C (loc' := [(3, .int x3_4), (0, .ref (Xad X k)), (1, .int x1), (2, .int x2), (4, .int x4)]) dX8_greatestDemand_34 rfl (by decide) rfl ?_
      obtain ⟨x4_5, hx_x4_5, hf⟩ := nm_some hf
      refine J.iinc (pc := 35) C (v := x4_5) (loc' := [(4, .int x4_5), (3, .int x3_4), (0, .ref (Xad X k)), (1, .int x1), (2, .int x2)]) dX8_greatestDemand_35 (k := 4) rfl (by rw [hx_x4_5]; rfl) (by decide) rfl ?_
      refine J.goto (pc := 38) C (tgt := 5) dX8_greatestDemand_38 (by decide) ?_
      exact J.sub (loc' := [(0, .ref (Xad X k)), (1, .int x1), (2, .int x2), (3, .int x3_4), (4, .int x4_5)]) [2, 3, 4, 1, 0] rfl (hp.2 _ (Option.some.inj hf).symm)
  have hp : t0 = t0 := rfl
  show J X 0 [(0, .ref (Xad X k)), (1, .int x1), (2, .int x2)] [] σ
  unfold f_X8_greatestDemand at hf
  refine J.iconst (pc := 0) C (v := 0) dX8_greatestDemand_0 (by decide) ?_
  refine J.istore_n (pc := 1) C (loc' := [(3, .int 0), (0, .ref (Xad X k)), (1, .int x1), (2, .int x2)]) dX8_greatestDemand_1 rfl (by decide) rfl ?_
  refine J.iconst (pc := 2) C (v := 0) dX8_greatestDemand_2 (by decide) ?_
  refine J.istore (pc := 3) C (loc' := [(4, .int 0), (3, .int 0), (0, .ref (Xad X k)), (1, .int x1), (2, .int x2)]) dX8_greatestDemand_3 (by decide) rfl ?_
  exact J.sub (loc' := [(0, .ref (Xad X k)), (1, .int x1), (2, .int x2), (3, .int 0), (4, .int 0)]) [2, 3, 4, 1, 0] rfl (L5 σ x1 x2 0 0 _ hf hp)
set_option maxHeartbeats 4000000 in
set_option maxRecDepth 100000 in
theorem m_X8_greatestHeight {l : Launch} {n : Nat} {σ : Mem} {k : Nat} {x1 : Int32} {t0 : (Int32 × Mem)} (hf : f_X8_greatestHeight n σ k x1 = some t0) : Ct l yX8_greatestHeight cX8_greatestHeight 4 (some FieldType.int) 5 116 (fun ks => Ok ks k 8) (fun ad => [.ref (ad k), .int x1]) σ (fun _ => some (.int t0.1)) t0.2 := by
  refine Ct.of (plainFor_of_name (by decide)) (fun _ => Nat.le_of_ble_eq_true rfl) ?_
  intro X C _ hk hcl hR
  have C : Cx X RX8 cX8_greatestHeight 4 (some FieldType.int) 5 116 := C
  have L4 : ∀ (σ : Mem) (x1 : Int32) (x2 : Int32) (x3 : Int32) (t : (Int32 × Mem)), f_X8_greatestHeight_L4 n σ k x1 x2 x3 = some t → t = t0 → J X 4 [(0, .ref (Xad X k)), (1, .int x1), (2, .int x2), (3, .int x3)] [] σ := by
    intro σ x1 x2 x3 t hf hp
    unfold f_X8_greatestHeight_L4 at hf
    refine J_iter (JJ := fun (s : Mem × Int32 × Int32) => J X 4 [(0, .ref (Xad X k)), (1, .int x1), (2, .int (s.2.1)), (3, .int (s.2.2))] [] s.1) (Ps := fun t => t = t0) ?_ n (σ, x2, x3) t hf hp
    clear hf hp
    intro s t hf hp hq
    obtain ⟨σ, x2, x3⟩ := s
    have hp := And.intro hp hq
    clear hq
    have hf : f_X8_greatestHeight_B4 n σ k x1 x2 x3 = some t := hf
    show J X 4 [(0, .ref (Xad X k)), (1, .int x1), (2, .int x2), (3, .int x3)] [] σ
    unfold f_X8_greatestHeight_B4 at hf
    refine J.iload_n (pc := 4) C dX8_greatestHeight_4 rfl 3 rfl ?_
    refine J.iload_n (pc := 5) C dX8_greatestHeight_5 rfl 1 rfl ?_
    refine J.icmp_ge (pc := 6) C (tgt := 37) dX8_greatestHeight_6 (by decide) hf (fun hf => ?_) (fun hf => ?_)
    · refine J.iload_n (pc := 37) C dX8_greatestHeight_37 rfl 2 rfl ?_
      exact J.iretM (pc := 38) C hR ((hp.1 _ (Option.some.inj hf).symm)) dX8_greatestHeight_38
    · refine J.aload_n (pc := 9) C dX8_greatestHeight_9 rfl 0 rfl ?_
      refine J.getR (pc := 10) C kcX8 hk 1 rfl tw_299 rfl dX8_greatestHeight_10 ?_
      obtain ⟨σ_3, h_1, hf⟩ := bnd_some hf
      refine J.callV (pc := 13) C (m_X5_makeTick h_1) (ok_8_1 hcl hk) wyX5_makeTick tvX5_makeTick_i tvX5_makeTick_s tw_416 kcX5 rfl (ok_8_1 hcl hk) [] [] rfl rfl (Nat.le_of_ble_eq_true rfl) (Nat.le_of_ble_eq_true rfl) (Nat.le_of_ble_eq_true rfl) (stk' := []) rfl dX8_greatestHeight_13 rfl ?_
      refine J.iload_n (pc := 16) C dX8_greatestHeight_16 rfl 2 rfl ?_
      refine J.aload_n (pc := 17) C dX8_greatestHeight_17 rfl 0 rfl ?_
      refine J.getR (pc := 18) C kcX8 hk 1 rfl tw_299 rfl dX8_greatestHeight_18 ?_
      refine J.getR (pc := 21) C kcX5 (ok_8_1 hcl hk) 1 rfl tw_222 rfl dX8_greatestHeight_21 ?_
      obtain ⟨r_5, h_4, hf⟩ := bnd_some hf
      refine J.callV (pc := 24) C (m_X1_greatestHeightNow h_4) (ok_5_1 hcl (ok_8_1 hcl hk)) wyX1_greatestHeightNow tvX1_greatestHeightNow_i tvX1_greatestHeightNow_s tw_634 kcX1 rfl (ok_5_1 hcl (ok_8_1 hcl hk)) [] [.int x2] rfl rfl (Nat.le_of_ble_eq_true rfl) (Nat.le_of_ble_eq_true rfl) (Nat.le_of_ble_eq_true rfl) (stk' := [.int r_5, .int x2]) rfl dX8_greatestHeight_24 rfl ?_
      refine J.mmaxI (pc := 27) C tw_477 twm_max_s twm_i twm_max_c (Nat.le_of_ble_eq_true rfl) (Nat.le_of_ble_eq_true rfl) dX8_greatestHeight_27 ?_
      refine J.nmI hf (fun x2_6 hf => ?_)
      refine J.istore_n (pc := 30) C (loc' := [(2, .int x2_6), (0, .ref (Xad X k)), (1, .int x1), (3, .int x3)]) dX8_greatestHeight_30 rfl (by decide) rfl ?_
      obtain ⟨x3_7, hx_x3_7, hf⟩ := nm_some hf
      refine J.iinc (pc := 31) C (v := x3_7) (loc' := [(3, .int x3_7), (2, .int x2_6), (0, .ref (Xad X k)), (1, .int x1)]) dX8_greatestHeight_31 (k := 3) rfl (by rw [hx_x3_7]; rfl) (by decide) rfl ?_
      refine J.goto (pc := 34) C (tgt := 4) dX8_greatestHeight_34 (by decide) ?_
      exact J.sub (loc' := [(0, .ref (Xad X k)), (1, .int x1), (2, .int x2_6), (3, .int x3_7)]) [2, 3, 1, 0] rfl (hp.2 _ (Option.some.inj hf).symm)
  have hp : t0 = t0 := rfl
  show J X 0 [(0, .ref (Xad X k)), (1, .int x1)] [] σ
  unfold f_X8_greatestHeight at hf
  refine J.iconst (pc := 0) C (v := 0) dX8_greatestHeight_0 (by decide) ?_
  refine J.istore_n (pc := 1) C (loc' := [(2, .int 0), (0, .ref (Xad X k)), (1, .int x1)]) dX8_greatestHeight_1 rfl (by decide) rfl ?_
  refine J.iconst (pc := 2) C (v := 0) dX8_greatestHeight_2 (by decide) ?_
  refine J.istore_n (pc := 3) C (loc' := [(3, .int 0), (2, .int 0), (0, .ref (Xad X k)), (1, .int x1)]) dX8_greatestHeight_3 rfl (by decide) rfl ?_
  exact J.sub (loc' := [(0, .ref (Xad X k)), (1, .int x1), (2, .int 0), (3, .int 0)]) [2, 3, 1, 0] rfl (L4 σ x1 0 0 _ hf hp)
set_option maxHeartbeats 4000000 in
set_option maxRecDepth 100000 in
theorem m_X8_shortTicks {l : Launch} {n : Nat} {σ : Mem} {k : Nat} {x1 : Int32} {x2 : Int32} {t0 : (Int32 × Mem)} (hf : f_X8_shortTicks n σ k x1 x2 = some t0) : Ct l yX8_shortTicks cX8_shortTicks 5 (some FieldType.int) 5 116 (fun ks => Ok ks k 8) (fun ad => [.ref (ad k), .int x1, .int x2]) σ (fun _ => some (.int t0.1)) t0.2 := by
  refine Ct.of (plainFor_of_name (by decide)) (fun _ => Nat.le_of_ble_eq_true rfl) ?_
  intro X C _ hk hcl hR
  have C : Cx X RX8 cX8_shortTicks 5 (some FieldType.int) 5 116 := C
  have L16 : ∀ (σ : Mem) (x1 : Int32) (x2 : Int32) (x3 : Int32) (x4 : Int32) (t : (Int32 × Mem)), f_X8_shortTicks_L16 n σ k x1 x2 x3 x4 = some t → t = t0 → J X 16 [(0, .ref (Xad X k)), (1, .int x1), (2, .int x2), (3, .int x3), (4, .int x4)] [] σ := by
    intro σ x1 x2 x3 x4 t hf hp
    unfold f_X8_shortTicks_L16 at hf
    refine J_iter (JJ := fun (s : Mem × Int32) => J X 16 [(0, .ref (Xad X k)), (1, .int x1), (2, .int x2), (3, .int x3), (4, .int (s.2))] [] s.1) (Ps := fun t => t = t0) ?_ n (σ, x4) t hf hp
    clear hf hp
    intro s t hf hp hq
    obtain ⟨σ, x4⟩ := s
    have hp := And.intro hp hq
    clear hq
    have hf : f_X8_shortTicks_B16 n σ k x1 x2 x3 x4 = some t := hf
    show J X 16 [(0, .ref (Xad X k)), (1, .int x1), (2, .int x2), (3, .int x3), (4, .int x4)] [] σ
    unfold f_X8_shortTicks_B16 at hf
    refine J.iload (pc := 16) C dX8_shortTicks_16 4 rfl ?_
    refine J.iload_n (pc := 18) C dX8_shortTicks_18 rfl 1 rfl ?_
    refine J.icmp_ge (pc := 19) C (tgt := 35) dX8_shortTicks_19 (by decide) hf (fun hf => ?_) (fun hf => ?_)
    · refine J.aload_n (pc := 35) C dX8_shortTicks_35 rfl 0 rfl ?_
      refine J.getR (pc := 36) C kcX8 hk 1 rfl tw_299 rfl dX8_shortTicks_36 ?_
      refine J.getR (pc := 39) C kcX5 (ok_8_1 hcl hk) 2 rfl tw_224 rfl dX8_shortTicks_39 ?_
      refine J.getR (pc := 42) C kcX3 (ok_5_2 hcl (ok_8_1 hcl hk)) 3 rfl tw_160 rfl dX8_shortTicks_42 ?_
      refine J.iload_n (pc := 45) C dX8_shortTicks_45 rfl 2 rfl ?_
      refine J.iald (pc := 46) C (ok_3_3 hcl (ok_5_2 hcl (ok_8_1 hcl hk))) hf dX8_shortTicks_46 (fun hf => ?_)
      refine J.iload_n (pc := 47) C dX8_shortTicks_47 rfl 3 rfl ?_
      refine J.isub (pc := 48) C dX8_shortTicks_48 ?_
      exact J.iretM (pc := 49) C hR ((hp.1 _ (Option.some.inj hf).symm)) dX8_shortTicks_49
    · refine J.aload_n (pc := 22) C dX8_shortTicks_22 rfl 0 rfl ?_
      refine J.getR (pc := 23) C kcX8 hk 1 rfl tw_299 rfl dX8_shortTicks_23 ?_
      obtain ⟨σ_4, h_2, hf⟩ := bnd_some hf
      refine J.callV (pc := 26) C (m_X5_makeTick h_2) (ok_8_1 hcl hk) wyX5_makeTick tvX5_makeTick_i tvX5_makeTick_s tw_416 kcX5 rfl (ok_8_1 hcl hk) [] [] rfl rfl (Nat.le_of_ble_eq_true rfl) (Nat.le_of_ble_eq_true rfl) (Nat.le_of_ble_eq_true rfl) (stk' := []) rfl dX8_shortTicks_26 rfl ?_
      obtain ⟨x4_5, hx_x4_5, hf⟩ := nm_some hf
      refine J.iinc (pc := 29) C (v := x4_5) (loc' := [(4, .int x4_5), (0, .ref (Xad X k)), (1, .int x1), (2, .int x2), (3, .int x3)]) dX8_shortTicks_29 (k := 4) rfl (by rw [hx_x4_5]; rfl) (by decide) rfl ?_
      refine J.goto (pc := 32) C (tgt := 16) dX8_shortTicks_32 (by decide) ?_
      exact J.sub (loc' := [(0, .ref (Xad X k)), (1, .int x1), (2, .int x2), (3, .int x3), (4, .int x4_5)]) [1, 2, 3, 4, 0] rfl (hp.2 _ (Option.some.inj hf).symm)
  have hp : t0 = t0 := rfl
  show J X 0 [(0, .ref (Xad X k)), (1, .int x1), (2, .int x2)] [] σ
  unfold f_X8_shortTicks at hf
  refine J.aload_n (pc := 0) C dX8_shortTicks_0 rfl 0 rfl ?_
  refine J.getR (pc := 1) C kcX8 hk 1 rfl tw_299 rfl dX8_shortTicks_1 ?_
  refine J.getR (pc := 4) C kcX5 (ok_8_1 hcl hk) 2 rfl tw_224 rfl dX8_shortTicks_4 ?_
  refine J.getR (pc := 7) C kcX3 (ok_5_2 hcl (ok_8_1 hcl hk)) 3 rfl tw_160 rfl dX8_shortTicks_7 ?_
  refine J.iload_n (pc := 10) C dX8_shortTicks_10 rfl 2 rfl ?_
  refine J.iald (pc := 11) C (ok_3_3 hcl (ok_5_2 hcl (ok_8_1 hcl hk))) hf dX8_shortTicks_11 (fun hf => ?_)
  refine J.nmI hf (fun x3_1 hf => ?_)
  refine J.istore_n (pc := 12) C (loc' := [(3, .int x3_1), (0, .ref (Xad X k)), (1, .int x1), (2, .int x2)]) dX8_shortTicks_12 rfl (by decide) rfl ?_
  refine J.iconst (pc := 13) C (v := 0) dX8_shortTicks_13 (by decide) ?_
  refine J.istore (pc := 14) C (loc' := [(4, .int 0), (3, .int x3_1), (0, .ref (Xad X k)), (1, .int x1), (2, .int x2)]) dX8_shortTicks_14 (by decide) rfl ?_
  exact J.sub (loc' := [(0, .ref (Xad X k)), (1, .int x1), (2, .int x2), (3, .int x3_1), (4, .int 0)]) [2, 3, 4, 1, 0] rfl (L16 σ x1 x2 x3_1 0 _ hf hp)
set_option maxHeartbeats 4000000 in
set_option maxRecDepth 100000 in
theorem m_X8_wetTicks {l : Launch} {n : Nat} {σ : Mem} {k : Nat} {x1 : Int32} {t0 : (Int32 × Mem)} (hf : f_X8_wetTicks n σ k x1 = some t0) : Ct l yX8_wetTicks cX8_wetTicks 4 (some FieldType.int) 5 116 (fun ks => Ok ks k 8) (fun ad => [.ref (ad k), .int x1]) σ (fun _ => some (.int t0.1)) t0.2 := by
  refine Ct.of (plainFor_of_name (by decide)) (fun _ => Nat.le_of_ble_eq_true rfl) ?_
  intro X C _ hk hcl hR
  have C : Cx X RX8 cX8_wetTicks 4 (some FieldType.int) 5 116 := C
  have L10 : ∀ (σ : Mem) (x1 : Int32) (x2 : Int32) (x3 : Int32) (t : (Int32 × Mem)), f_X8_wetTicks_L10 n σ k x1 x2 x3 = some t → t = t0 → J X 10 [(0, .ref (Xad X k)), (1, .int x1), (2, .int x2), (3, .int x3)] [] σ := by
    intro σ x1 x2 x3 t hf hp
    unfold f_X8_wetTicks_L10 at hf
    refine J_iter (JJ := fun (s : Mem × Int32) => J X 10 [(0, .ref (Xad X k)), (1, .int x1), (2, .int x2), (3, .int (s.2))] [] s.1) (Ps := fun t => t = t0) ?_ n (σ, x3) t hf hp
    clear hf hp
    intro s t hf hp hq
    obtain ⟨σ, x3⟩ := s
    have hp := And.intro hp hq
    clear hq
    have hf : f_X8_wetTicks_B10 n σ k x1 x2 x3 = some t := hf
    show J X 10 [(0, .ref (Xad X k)), (1, .int x1), (2, .int x2), (3, .int x3)] [] σ
    unfold f_X8_wetTicks_B10 at hf
    refine J.iload_n (pc := 10) C dX8_wetTicks_10 rfl 3 rfl ?_
    refine J.iload_n (pc := 11) C dX8_wetTicks_11 rfl 1 rfl ?_
    refine J.icmp_ge (pc := 12) C (tgt := 28) dX8_wetTicks_12 (by decide) hf (fun hf => ?_) (fun hf => ?_)
    · refine J.aload_n (pc := 28) C dX8_wetTicks_28 rfl 0 rfl ?_
      refine J.getR (pc := 29) C kcX8 hk 1 rfl tw_299 rfl dX8_wetTicks_29 ?_
      refine J.getI (pc := 32) C kcX5 (ok_8_1 hcl hk) 6 rfl tw_232 rfl dX8_wetTicks_32 ?_
      refine J.iload_n (pc := 35) C dX8_wetTicks_35 rfl 2 rfl ?_
      refine J.isub (pc := 36) C dX8_wetTicks_36 ?_
      exact J.iretM (pc := 37) C hR ((hp.1 _ (Option.some.inj hf).symm)) dX8_wetTicks_37
    · refine J.aload_n (pc := 15) C dX8_wetTicks_15 rfl 0 rfl ?_
      refine J.getR (pc := 16) C kcX8 hk 1 rfl tw_299 rfl dX8_wetTicks_16 ?_
      obtain ⟨σ_4, h_2, hf⟩ := bnd_some hf
      refine J.callV (pc := 19) C (m_X5_makeTick h_2) (ok_8_1 hcl hk) wyX5_makeTick tvX5_makeTick_i tvX5_makeTick_s tw_416 kcX5 rfl (ok_8_1 hcl hk) [] [] rfl rfl (Nat.le_of_ble_eq_true rfl) (Nat.le_of_ble_eq_true rfl) (Nat.le_of_ble_eq_true rfl) (stk' := []) rfl dX8_wetTicks_19 rfl ?_
      obtain ⟨x3_5, hx_x3_5, hf⟩ := nm_some hf
      refine J.iinc (pc := 22) C (v := x3_5) (loc' := [(3, .int x3_5), (0, .ref (Xad X k)), (1, .int x1), (2, .int x2)]) dX8_wetTicks_22 (k := 3) rfl (by rw [hx_x3_5]; rfl) (by decide) rfl ?_
      refine J.goto (pc := 25) C (tgt := 10) dX8_wetTicks_25 (by decide) ?_
      exact J.sub (loc' := [(0, .ref (Xad X k)), (1, .int x1), (2, .int x2), (3, .int x3_5)]) [1, 2, 3, 0] rfl (hp.2 _ (Option.some.inj hf).symm)
  have hp : t0 = t0 := rfl
  show J X 0 [(0, .ref (Xad X k)), (1, .int x1)] [] σ
  unfold f_X8_wetTicks at hf
  refine J.aload_n (pc := 0) C dX8_wetTicks_0 rfl 0 rfl ?_
  refine J.getR (pc := 1) C kcX8 hk 1 rfl tw_299 rfl dX8_wetTicks_1 ?_
  refine J.getI (pc := 4) C kcX5 (ok_8_1 hcl hk) 6 rfl tw_232 rfl dX8_wetTicks_4 ?_
  refine J.nmI hf (fun x2_1 hf => ?_)
  refine J.istore_n (pc := 7) C (loc' := [(2, .int x2_1), (0, .ref (Xad X k)), (1, .int x1)]) dX8_wetTicks_7 rfl (by decide) rfl ?_
  refine J.iconst (pc := 8) C (v := 0) dX8_wetTicks_8 (by decide) ?_
  refine J.istore_n (pc := 9) C (loc' := [(3, .int 0), (2, .int x2_1), (0, .ref (Xad X k)), (1, .int x1)]) dX8_wetTicks_9 rfl (by decide) rfl ?_
  exact J.sub (loc' := [(0, .ref (Xad X k)), (1, .int x1), (2, .int x2_1), (3, .int 0)]) [2, 3, 1, 0] rfl (L10 σ x1 x2_1 0 _ hf hp)
set_option maxHeartbeats 4000000 in
set_option maxRecDepth 100000 in
theorem m_X8_ahead {l : Launch} {n : Nat} {σ : Mem} {k : Nat} {x1 : Int32} {x2 : Int32} {x3 : Int32} {t0 : (Int32 × Mem)} (hf : f_X8_ahead n σ k x1 x2 x3 = some t0) : Ct l yX8_ahead cX8_ahead 4 (some FieldType.int) 6 140 (fun ks => Ok ks k 8) (fun ad => [.ref (ad k), .int x1, .int x2, .int x3]) σ (fun _ => some (.int t0.1)) t0.2 := by
  refine Ct.of (plainFor_of_name (by decide)) (fun _ => Nat.le_of_ble_eq_true rfl) ?_
  intro X C _ hk hcl hR
  have C : Cx X RX8 cX8_ahead 4 (some FieldType.int) 6 140 := C
  have L39 : ∀ (σ : Mem) (x1 : Int32) (x2 : Int32) (x3 : Int32) (t : (Int32 × Mem)), f_X8_ahead_L39 n σ k x1 x2 x3 = some t → t = t0 → J X 39 [(0, .ref (Xad X k)), (1, .int x1), (2, .int x2), (3, .int x3)] [] σ := by
    intro σ x1 x2 x3 t hf hp
    unfold f_X8_ahead_L39 at hf
    refine J.aload_n (pc := 39) C dX8_ahead_39 rfl 0 rfl ?_
    refine J.getR (pc := 40) C kcX8 hk 1 rfl tw_299 rfl dX8_ahead_40 ?_
    refine J.aload_n (pc := 43) C dX8_ahead_43 rfl 0 rfl ?_
    refine J.getR (pc := 44) C kcX8 hk 0 rfl tw_298 rfl dX8_ahead_44 ?_
    obtain ⟨σ_7, h_5, hf⟩ := bnd_some hf
    refine J.callV (pc := 47) C (m_X5_copy h_5) ⟨(ok_8_1 hcl hk), (ok_8_0 hcl hk)⟩ wyX5_copy tvX5_copy_i tvX5_copy_s tw_580 kcX5 rfl (ok_8_1 hcl hk) [.ref (Xad X (ptr k 0))] [] rfl rfl (Nat.le_of_ble_eq_true rfl) (Nat.le_of_ble_eq_true rfl) (Nat.le_of_ble_eq_true rfl) (stk' := []) rfl dX8_ahead_47 rfl ?_
    refine J.iload_n (pc := 50) C dX8_ahead_50 rfl 3 rfl ?_
    refine J.tblIn (pc := 51) C dX8_ahead_51 0 hf (by decide) (by decide) rfl (tgt := 80) (by decide) (fun hf => ?_) (fun hn0 hf => ?_)
    · refine J.aload_n (pc := 80) C dX8_ahead_80 rfl 0 rfl ?_
      refine J.iload_n (pc := 81) C dX8_ahead_81 rfl 1 rfl ?_
      refine J.iload_n (pc := 82) C dX8_ahead_82 rfl 2 rfl ?_
      obtain ⟨r_12, σ_13, h_11, hf⟩ := bnd2_some hf
      refine J.callV (pc := 83) C (m_X8_greatestDemand h_11) hk wyX8_greatestDemand tvX8_greatestDemand_i tvX8_greatestDemand_s tw_613 kcX8 rfl hk [.int x1, .int x2] [] rfl rfl (Nat.le_of_ble_eq_true rfl) (Nat.le_of_ble_eq_true rfl) (Nat.le_of_ble_eq_true rfl) (stk' := [.int r_12]) rfl dX8_ahead_83 rfl ?_
      exact J.iretM (pc := 86) C hR ((Option.some.inj hf).trans hp) dX8_ahead_86
    refine J.tblIn (pc := 51) C dX8_ahead_51 1 hf (by decide) (by decide) rfl (tgt := 87) (by decide) (fun hf => ?_) (fun hn1 hf => ?_)
    · refine J.aload_n (pc := 87) C dX8_ahead_87 rfl 0 rfl ?_
      refine J.iload_n (pc := 88) C dX8_ahead_88 rfl 1 rfl ?_
      refine J.iload_n (pc := 89) C dX8_ahead_89 rfl 2 rfl ?_
      obtain ⟨r_15, σ_16, h_14, hf⟩ := bnd2_some hf
      refine J.callV (pc := 90) C (m_X8_shortTicks h_14) hk wyX8_shortTicks tvX8_shortTicks_i tvX8_shortTicks_s tw_617 kcX8 rfl hk [.int x1, .int x2] [] rfl rfl (Nat.le_of_ble_eq_true rfl) (Nat.le_of_ble_eq_true rfl) (Nat.le_of_ble_eq_true rfl) (stk' := [.int r_15]) rfl dX8_ahead_90 rfl ?_
      exact J.iretM (pc := 93) C hR ((Option.some.inj hf).trans hp) dX8_ahead_93
    refine J.tblIn (pc := 51) C dX8_ahead_51 2 hf (by decide) (by decide) rfl (tgt := 94) (by decide) (fun hf => ?_) (fun hn2 hf => ?_)
    · refine J.aload_n (pc := 94) C dX8_ahead_94 rfl 0 rfl ?_
      refine J.iload_n (pc := 95) C dX8_ahead_95 rfl 1 rfl ?_
      refine J.iload_n (pc := 96) C dX8_ahead_96 rfl 2 rfl ?_
      obtain ⟨r_18, σ_19, h_17, hf⟩ := bnd2_some hf
      refine J.callV (pc := 97) C (m_X8_firstShort h_17) hk wyX8_firstShort tvX8_firstShort_i tvX8_firstShort_s tw_621 kcX8 rfl hk [.int x1, .int x2] [] rfl rfl (Nat.le_of_ble_eq_true rfl) (Nat.le_of_ble_eq_true rfl) (Nat.le_of_ble_eq_true rfl) (stk' := [.int r_18]) rfl dX8_ahead_97 rfl ?_
      exact J.iretM (pc := 100) C hR ((Option.some.inj hf).trans hp) dX8_ahead_100
    refine J.tblIn (pc := 51) C dX8_ahead_51 3 hf (by decide) (by decide) rfl (tgt := 101) (by decide) (fun hf => ?_) (fun hn3 hf => ?_)
    · refine J.aload_n (pc := 101) C dX8_ahead_101 rfl 0 rfl ?_
      refine J.iload_n (pc := 102) C dX8_ahead_102 rfl 1 rfl ?_
      obtain ⟨r_21, σ_22, h_20, hf⟩ := bnd2_some hf
      refine J.callV (pc := 103) C (m_X8_wetTicks h_20) hk wyX8_wetTicks tvX8_wetTicks_i tvX8_wetTicks_s tw_626 kcX8 rfl hk [.int x1] [] rfl rfl (Nat.le_of_ble_eq_true rfl) (Nat.le_of_ble_eq_true rfl) (Nat.le_of_ble_eq_true rfl) (stk' := [.int r_21]) rfl dX8_ahead_103 rfl ?_
      exact J.iretM (pc := 106) C hR ((Option.some.inj hf).trans hp) dX8_ahead_106
    refine J.tblOut (pc := 51) C dX8_ahead_51 (by have q0 := lv_neT hn0 (a := 0) (by decide); have q1 := lv_neT hn1 (a := 1) (by decide); have q2 := lv_neT hn2 (a := 2) (by decide); have q3 := lv_neT hn3 (a := 3) (by decide); omega) (tgt := 107) (by decide) ?_
    refine J.aload_n (pc := 107) C dX8_ahead_107 rfl 0 rfl ?_
    refine J.iload_n (pc := 108) C dX8_ahead_108 rfl 1 rfl ?_
    obtain ⟨r_9, σ_10, h_8, hf⟩ := bnd2_some hf
    refine J.callV (pc := 109) C (m_X8_greatestHeight h_8) hk wyX8_greatestHeight tvX8_greatestHeight_i tvX8_greatestHeight_s tw_630 kcX8 rfl hk [.int x1] [] rfl rfl (Nat.le_of_ble_eq_true rfl) (Nat.le_of_ble_eq_true rfl) (Nat.le_of_ble_eq_true rfl) (stk' := [.int r_9]) rfl dX8_ahead_109 rfl ?_
    exact J.iretM (pc := 112) C hR ((Option.some.inj hf).trans hp) dX8_ahead_112
  have hp : t0 = t0 := rfl
  show J X 0 [(0, .ref (Xad X k)), (1, .int x1), (2, .int x2), (3, .int x3)] [] σ
  unfold f_X8_ahead at hf
  refine J.iload_n (pc := 0) C dX8_ahead_0 rfl 1 rfl ?_
  refine J.iconst (pc := 1) C (v := 1) dX8_ahead_1 (by decide) ?_
  refine J.sipush (pc := 2) C (v := 1000) dX8_ahead_2 (by decide) ?_
  obtain ⟨r_2, h_1, hf⟩ := bnd_some hf
  refine J.callS (pc := 5) C (m_X8_within h_1) trivial wyX8_within tsX8_within tw_318 [.int x1, .int 1, .int 1000] [] rfl rfl (Nat.le_of_ble_eq_true rfl) (Nat.le_of_ble_eq_true rfl) (Nat.le_of_ble_eq_true rfl) (stk' := [.int r_2]) rfl dX8_ahead_5 rfl ?_
  refine J.if_eq (pc := 8) C (tgt := 20) dX8_ahead_8 (by decide) hf (fun hf => ?_) (fun hf => ?_)
  · refine J.bipush (pc := 20) C (v := (-2)) dX8_ahead_20 (by decide) ?_
    exact J.iretM (pc := 22) C hR ((Option.some.inj hf).trans hp) dX8_ahead_22
  · refine J.iload_n (pc := 11) C dX8_ahead_11 rfl 3 rfl ?_
    refine J.iconst (pc := 12) C (v := 0) dX8_ahead_12 (by decide) ?_
    refine J.iconst (pc := 13) C (v := 4) dX8_ahead_13 (by decide) ?_
    obtain ⟨r_4, h_3, hf⟩ := bnd_some hf
    refine J.callS (pc := 14) C (m_X8_within h_3) trivial wyX8_within tsX8_within tw_318 [.int x3, .int 0, .int 4] [] rfl rfl (Nat.le_of_ble_eq_true rfl) (Nat.le_of_ble_eq_true rfl) (Nat.le_of_ble_eq_true rfl) (stk' := [.int r_4]) rfl dX8_ahead_14 rfl ?_
    refine J.if_ne (pc := 17) C (tgt := 23) dX8_ahead_17 (by decide) hf (fun hf => ?_) (fun hf => ?_)
    · refine J.iload_n (pc := 23) C dX8_ahead_23 rfl 3 rfl ?_
      refine J.iconst (pc := 24) C (v := 2) dX8_ahead_24 (by decide) ?_
      refine J.icmp_gt (pc := 25) C (tgt := 39) dX8_ahead_25 (by decide) hf (fun hf => ?_) (fun hf => ?_)
      · exact J.sub (loc' := [(0, .ref (Xad X k)), (1, .int x1), (2, .int x2), (3, .int x3)]) [0, 1, 2, 3] rfl (L39 σ x1 x2 x3 _ hf hp)
      · refine J.iload_n (pc := 28) C dX8_ahead_28 rfl 2 rfl ?_
        refine J.iconst (pc := 29) C (v := 0) dX8_ahead_29 (by decide) ?_
        refine J.iconst (pc := 30) C (v := 2) dX8_ahead_30 (by decide) ?_
        obtain ⟨r_24, h_23, hf⟩ := bnd_some hf
        refine J.callS (pc := 31) C (m_X8_within h_23) trivial wyX8_within tsX8_within tw_318 [.int x2, .int 0, .int 2] [] rfl rfl (Nat.le_of_ble_eq_true rfl) (Nat.le_of_ble_eq_true rfl) (Nat.le_of_ble_eq_true rfl) (stk' := [.int r_24]) rfl dX8_ahead_31 rfl ?_
        refine J.if_ne (pc := 34) C (tgt := 39) dX8_ahead_34 (by decide) hf (fun hf => ?_) (fun hf => ?_)
        · exact J.sub (loc' := [(0, .ref (Xad X k)), (1, .int x1), (2, .int x2), (3, .int x3)]) [0, 1, 2, 3] rfl (L39 σ x1 x2 x3 _ hf hp)
        · refine J.iconst (pc := 37) C (v := (-1)) dX8_ahead_37 (by decide) ?_
          exact J.iretM (pc := 38) C hR ((Option.some.inj hf).trans hp) dX8_ahead_38
    · refine J.bipush (pc := 20) C (v := (-2)) dX8_ahead_20 (by decide) ?_
      exact J.iretM (pc := 22) C hR ((Option.some.inj hf).trans hp) dX8_ahead_22
set_option maxHeartbeats 4000000 in
set_option maxRecDepth 100000 in
theorem m_X8_staysSupplied {l : Launch} {n : Nat} {σ : Mem} {k : Nat} {x1 : Int32} {t0 : (Int32 × Mem)} (hf : f_X8_staysSupplied n σ k x1 = some t0) : Ct l yX8_staysSupplied cX8_staysSupplied 3 (some FieldType.boolean) 5 116 (fun ks => Ok ks k 8) (fun ad => [.ref (ad k), .int x1]) σ (fun _ => some (.int t0.1)) t0.2 := by
  refine Ct.of (plainFor_of_name (by decide)) (fun _ => Nat.le_of_ble_eq_true rfl) ?_
  intro X C _ hk hcl hR
  have C : Cx X RX8 cX8_staysSupplied 3 (some FieldType.boolean) 5 116 := C
  have L2 : ∀ (σ : Mem) (x1 : Int32) (x2 : Int32) (t : (Int32 × Mem)), f_X8_staysSupplied_L2 n σ k x1 x2 = some t → t = t0 → J X 2 [(0, .ref (Xad X k)), (1, .int x1), (2, .int x2)] [] σ := by
    intro σ x1 x2 t hf hp
    unfold f_X8_staysSupplied_L2 at hf
    refine J_iter (JJ := fun (s : Mem × Int32) => J X 2 [(0, .ref (Xad X k)), (1, .int x1), (2, .int (s.2))] [] s.1) (Ps := fun t => t = t0) ?_ n (σ, x2) t hf hp
    clear hf hp
    intro s t hf hp hq
    obtain ⟨σ, x2⟩ := s
    have hp := And.intro hp hq
    clear hq
    have hf : f_X8_staysSupplied_B2 n σ k x1 x2 = some t := hf
    show J X 2 [(0, .ref (Xad X k)), (1, .int x1), (2, .int x2)] [] σ
    unfold f_X8_staysSupplied_B2 at hf
    refine J.iload_n (pc := 2) C dX8_staysSupplied_2 rfl 2 rfl ?_
    refine J.iload_n (pc := 3) C dX8_staysSupplied_3 rfl 1 rfl ?_
    refine J.icmp_ge (pc := 4) C (tgt := 35) dX8_staysSupplied_4 (by decide) hf (fun hf => ?_) (fun hf => ?_)
    · refine J.iconst (pc := 35) C (v := 1) dX8_staysSupplied_35 (by decide) ?_
      exact J.zretM (pc := 36) C rfl hR ((hp.1 _ (Option.some.inj hf).symm)) dX8_staysSupplied_36
    · refine J.aload_n (pc := 7) C dX8_staysSupplied_7 rfl 0 rfl ?_
      refine J.getR (pc := 8) C kcX8 hk 1 rfl tw_299 rfl dX8_staysSupplied_8 ?_
      obtain ⟨σ_3, h_1, hf⟩ := bnd_some hf
      refine J.callV (pc := 11) C (m_X5_makeTick h_1) (ok_8_1 hcl hk) wyX5_makeTick tvX5_makeTick_i tvX5_makeTick_s tw_416 kcX5 rfl (ok_8_1 hcl hk) [] [] rfl rfl (Nat.le_of_ble_eq_true rfl) (Nat.le_of_ble_eq_true rfl) (Nat.le_of_ble_eq_true rfl) (stk' := []) rfl dX8_staysSupplied_11 rfl ?_
      refine J.aload_n (pc := 14) C dX8_staysSupplied_14 rfl 0 rfl ?_
      refine J.getR (pc := 15) C kcX8 hk 1 rfl tw_299 rfl dX8_staysSupplied_15 ?_
      refine J.getR (pc := 18) C kcX5 (ok_8_1 hcl hk) 2 rfl tw_224 rfl dX8_staysSupplied_18 ?_
      obtain ⟨r_5, h_4, hf⟩ := bnd_some hf
      refine J.callV (pc := 21) C (m_X3_someShort h_4) (ok_5_2 hcl (ok_8_1 hcl hk)) wyX3_someShort tvX3_someShort_i tvX3_someShort_s tw_661 kcX3 rfl (ok_5_2 hcl (ok_8_1 hcl hk)) [] [] rfl rfl (Nat.le_of_ble_eq_true rfl) (Nat.le_of_ble_eq_true rfl) (Nat.le_of_ble_eq_true rfl) (stk' := [.int r_5]) rfl dX8_staysSupplied_21 rfl ?_
      refine J.if_eq (pc := 24) C (tgt := 29) dX8_staysSupplied_24 (by decide) hf (fun hf => ?_) (fun hf => ?_)
      · obtain ⟨x2_6, hx_x2_6, hf⟩ := nm_some hf
        refine J.iinc (pc := 29) C (v := x2_6) (loc' := [(2, .int x2_6), (0, .ref (Xad X k)), (1, .int x1)]) dX8_staysSupplied_29 (k := 2) rfl (by rw [hx_x2_6]; rfl) (by decide) rfl ?_
        refine J.goto (pc := 32) C (tgt := 2) dX8_staysSupplied_32 (by decide) ?_
        exact J.sub (loc' := [(0, .ref (Xad X k)), (1, .int x1), (2, .int x2_6)]) [1, 2, 0] rfl (hp.2 _ (Option.some.inj hf).symm)
      · refine J.iconst (pc := 27) C (v := 0) dX8_staysSupplied_27 (by decide) ?_
        exact J.zretM (pc := 28) C rfl hR ((hp.1 _ (Option.some.inj hf).symm)) dX8_staysSupplied_28
  have hp : t0 = t0 := rfl
  show J X 0 [(0, .ref (Xad X k)), (1, .int x1)] [] σ
  unfold f_X8_staysSupplied at hf
  refine J.iconst (pc := 0) C (v := 0) dX8_staysSupplied_0 (by decide) ?_
  refine J.istore_n (pc := 1) C (loc' := [(2, .int 0), (0, .ref (Xad X k)), (1, .int x1)]) dX8_staysSupplied_1 rfl (by decide) rfl ?_
  exact J.sub (loc' := [(0, .ref (Xad X k)), (1, .int x1), (2, .int 0)]) [1, 2, 0] rfl (L2 σ x1 0 _ hf hp)
set_option maxHeartbeats 4000000 in
set_option maxRecDepth 100000 in
theorem m_X8_delay {l : Launch} {n : Nat} {σ : Mem} {k : Nat} {x1 : Int32} {x2 : Int32} {x3 : Int32} {t0 : (Int32 × Mem)} (hf : f_X8_delay n σ k x1 x2 x3 = some t0) : Ct l yX8_delay cX8_delay 6 (some FieldType.int) 6 138 (fun ks => Ok ks k 8) (fun ad => [.ref (ad k), .int x1, .int x2, .int x3]) σ (fun _ => some (.int t0.1)) t0.2 := by
  refine Ct.of (plainFor_of_name (by decide)) (fun _ => Nat.le_of_ble_eq_true rfl) ?_
  intro X C _ hk hcl hR
  have C : Cx X RX8 cX8_delay 6 (some FieldType.int) 6 138 := C
  have L64 : ∀ (σ : Mem) (x1 : Int32) (x3 : Int32) (x4 : Int32) (x5 : Int32) (t : (Int32 × Mem)), f_X8_delay_L64 n σ k x1 x3 x4 x5 = some t → t = t0 → J X 64 [(0, .ref (Xad X k)), (1, .int x1), (3, .int x3), (4, .int x4), (5, .int x5)] [] σ := by
    intro σ x1 x3 x4 x5 t hf hp
    unfold f_X8_delay_L64 at hf
    refine J_iter (JJ := fun (s : Mem × Int32) => J X 64 [(0, .ref (Xad X k)), (1, .int x1), (3, .int x3), (4, .int x4), (5, .int (s.2))] [] s.1) (Ps := fun t => t = t0) ?_ n (σ, x5) t hf hp
    clear hf hp
    intro s t hf hp hq
    obtain ⟨σ, x5⟩ := s
    have hp := And.intro hp hq
    clear hq
    have hf : f_X8_delay_B64 n σ k x1 x3 x4 x5 = some t := hf
    show J X 64 [(0, .ref (Xad X k)), (1, .int x1), (3, .int x3), (4, .int x4), (5, .int x5)] [] σ
    unfold f_X8_delay_B64 at hf
    refine J.iload (pc := 64) C dX8_delay_64 4 rfl ?_
    refine J.iload (pc := 66) C dX8_delay_66 3 rfl ?_
    refine J.icmp_gt (pc := 68) C (tgt := 113) dX8_delay_68 (by decide) hf (fun hf => ?_) (fun hf => ?_)
    · refine J.bipush (pc := 113) C (v := (-6)) dX8_delay_113 (by decide) ?_
      exact J.iretM (pc := 115) C hR ((hp.1 _ (Option.some.inj hf).symm)) dX8_delay_115
    · refine J.aload_n (pc := 71) C dX8_delay_71 rfl 0 rfl ?_
      refine J.getR (pc := 72) C kcX8 hk 1 rfl tw_299 rfl dX8_delay_72 ?_
      refine J.aload_n (pc := 75) C dX8_delay_75 rfl 0 rfl ?_
      refine J.getR (pc := 76) C kcX8 hk 0 rfl tw_298 rfl dX8_delay_76 ?_
      obtain ⟨σ_10, h_8, hf⟩ := bnd_some hf
      refine J.callV (pc := 79) C (m_X5_copy h_8) ⟨(ok_8_1 hcl hk), (ok_8_0 hcl hk)⟩ wyX5_copy tvX5_copy_i tvX5_copy_s tw_580 kcX5 rfl (ok_8_1 hcl hk) [.ref (Xad X (ptr k 0))] [] rfl rfl (Nat.le_of_ble_eq_true rfl) (Nat.le_of_ble_eq_true rfl) (Nat.le_of_ble_eq_true rfl) (stk' := []) rfl dX8_delay_79 rfl ?_
      refine J.aload_n (pc := 82) C dX8_delay_82 rfl 0 rfl ?_
      refine J.getR (pc := 83) C kcX8 hk 1 rfl tw_299 rfl dX8_delay_83 ?_
      refine J.getR (pc := 86) C kcX5 (ok_8_1 hcl hk) 4 rfl tw_228 rfl dX8_delay_86 ?_
      refine J.iload_n (pc := 89) C dX8_delay_89 rfl 1 rfl ?_
      refine J.iload (pc := 90) C dX8_delay_90 4 rfl ?_
      obtain ⟨r_12, σ_13, h_11, hf⟩ := bnd2_some hf
      refine J.callV (pc := 92) C (m_X0_postpone h_11) (ok_5_4 hcl (ok_8_1 hcl hk)) wyX0_postpone tvX0_postpone_i tvX0_postpone_s tw_560 kcX0 rfl (ok_5_4 hcl (ok_8_1 hcl hk)) [.int x1, .int x5] [] rfl rfl (Nat.le_of_ble_eq_true rfl) (Nat.le_of_ble_eq_true rfl) (Nat.le_of_ble_eq_true rfl) (stk' := [.int r_12]) rfl dX8_delay_92 rfl ?_
      refine J.pop (pc := 95) C dX8_delay_95 rfl ?_
      refine J.aload_n (pc := 96) C dX8_delay_96 rfl 0 rfl ?_
      refine J.iload_n (pc := 97) C dX8_delay_97 rfl 2 rfl ?_
      obtain ⟨r_15, σ_16, h_14, hf⟩ := bnd2_some hf
      refine J.callV (pc := 98) C (m_X8_staysSupplied h_14) hk wyX8_staysSupplied tvX8_staysSupplied_i tvX8_staysSupplied_s tw_657 kcX8 rfl hk [.int x3] [] rfl rfl (Nat.le_of_ble_eq_true rfl) (Nat.le_of_ble_eq_true rfl) (Nat.le_of_ble_eq_true rfl) (stk' := [.int r_15]) rfl dX8_delay_98 rfl ?_
      refine J.if_eq (pc := 101) C (tgt := 107) dX8_delay_101 (by decide) hf (fun hf => ?_) (fun hf => ?_)
      · obtain ⟨x5_17, hx_x5_17, hf⟩ := nm_some hf
        refine J.iinc (pc := 107) C (v := x5_17) (loc' := [(5, .int x5_17), (0, .ref (Xad X k)), (1, .int x1), (3, .int x3), (4, .int x4)]) dX8_delay_107 (k := 4) rfl (by rw [hx_x5_17]; rfl) (by decide) rfl ?_
        refine J.goto (pc := 110) C (tgt := 64) dX8_delay_110 (by decide) ?_
        exact J.sub (loc' := [(0, .ref (Xad X k)), (1, .int x1), (3, .int x3), (4, .int x4), (5, .int x5_17)]) [1, 2, 3, 4, 0] rfl (hp.2 _ (Option.some.inj hf).symm)
      · refine J.iload (pc := 104) C dX8_delay_104 4 rfl ?_
        exact J.iretM (pc := 106) C hR ((hp.1 _ (Option.some.inj hf).symm)) dX8_delay_106
  have hp : t0 = t0 := rfl
  show J X 0 [(0, .ref (Xad X k)), (1, .int x1), (2, .int x2), (3, .int x3)] [] σ
  unfold f_X8_delay at hf
  refine J.aload_n (pc := 0) C dX8_delay_0 rfl 0 rfl ?_
  refine J.getR (pc := 1) C kcX8 hk 0 rfl tw_298 rfl dX8_delay_1 ?_
  refine J.getR (pc := 4) C kcX5 (ok_8_0 hcl hk) 4 rfl tw_228 rfl dX8_delay_4 ?_
  refine J.iload_n (pc := 7) C dX8_delay_7 rfl 1 rfl ?_
  obtain ⟨r_2, h_1, hf⟩ := bnd_some hf
  refine J.callV (pc := 8) C (m_X0_has h_1) (ok_5_4 hcl (ok_8_0 hcl hk)) wyX0_has tvX0_has_i tvX0_has_s tw_541 kcX0 rfl (ok_5_4 hcl (ok_8_0 hcl hk)) [.int x1] [] rfl rfl (Nat.le_of_ble_eq_true rfl) (Nat.le_of_ble_eq_true rfl) (Nat.le_of_ble_eq_true rfl) (stk' := [.int r_2]) rfl dX8_delay_8 rfl ?_
  refine J.if_ne (pc := 11) C (tgt := 16) dX8_delay_11 (by decide) hf (fun hf => ?_) (fun hf => ?_)
  · refine J.iload_n (pc := 16) C dX8_delay_16 rfl 2 rfl ?_
    refine J.iconst (pc := 17) C (v := 0) dX8_delay_17 (by decide) ?_
    refine J.bipush (pc := 18) C (v := 100) dX8_delay_18 (by decide) ?_
    obtain ⟨r_4, h_3, hf⟩ := bnd_some hf
    refine J.callS (pc := 20) C (m_X8_within h_3) trivial wyX8_within tsX8_within tw_318 [.int x2, .int 0, .int 100] [] rfl rfl (Nat.le_of_ble_eq_true rfl) (Nat.le_of_ble_eq_true rfl) (Nat.le_of_ble_eq_true rfl) (stk' := [.int r_4]) rfl dX8_delay_20 rfl ?_
    refine J.if_eq (pc := 23) C (tgt := 37) dX8_delay_23 (by decide) hf (fun hf => ?_) (fun hf => ?_)
    · refine J.bipush (pc := 37) C (v := (-2)) dX8_delay_37 (by decide) ?_
      exact J.iretM (pc := 39) C hR ((Option.some.inj hf).trans hp) dX8_delay_39
    · refine J.iload_n (pc := 26) C dX8_delay_26 rfl 3 rfl ?_
      refine J.iconst (pc := 27) C (v := 1) dX8_delay_27 (by decide) ?_
      refine J.sipush (pc := 28) C (v := 300) dX8_delay_28 (by decide) ?_
      obtain ⟨r_6, h_5, hf⟩ := bnd_some hf
      refine J.callS (pc := 31) C (m_X8_within h_5) trivial wyX8_within tsX8_within tw_318 [.int x3, .int 1, .int 300] [] rfl rfl (Nat.le_of_ble_eq_true rfl) (Nat.le_of_ble_eq_true rfl) (Nat.le_of_ble_eq_true rfl) (stk' := [.int r_6]) rfl dX8_delay_31 rfl ?_
      refine J.if_ne (pc := 34) C (tgt := 40) dX8_delay_34 (by decide) hf (fun hf => ?_) (fun hf => ?_)
      · refine J.iload_n (pc := 40) C dX8_delay_40 rfl 2 rfl ?_
        refine J.ldc (pc := 41) C (v := 100000) dX8_delay_41 tw_526 ?_
        refine J.aload_n (pc := 43) C dX8_delay_43 rfl 0 rfl ?_
        refine J.getR (pc := 44) C kcX8 hk 0 rfl tw_298 rfl dX8_delay_44 ?_
        refine J.getR (pc := 47) C kcX5 (ok_8_0 hcl hk) 4 rfl tw_228 rfl dX8_delay_47 ?_
        refine J.getR (pc := 50) C kcX0 (ok_5_4 hcl (ok_8_0 hcl hk)) 0 rfl tw_201 rfl dX8_delay_50 ?_
        refine J.iload_n (pc := 53) C dX8_delay_53 rfl 1 rfl ?_
        refine J.iald (pc := 54) C (ok_0_0 hcl (ok_5_4 hcl (ok_8_0 hcl hk))) hf dX8_delay_54 (fun hf => ?_)
        refine J.isub (pc := 55) C dX8_delay_55 ?_
        refine J.mminI (pc := 56) C tw_476 twm_min_s twm_i twm_min_c (Nat.le_of_ble_eq_true rfl) (Nat.le_of_ble_eq_true rfl) dX8_delay_56 ?_
        refine J.nmI hf (fun x4_7 hf => ?_)
        refine J.istore (pc := 59) C (loc' := [(4, .int x4_7), (0, .ref (Xad X k)), (1, .int x1), (2, .int x2), (3, .int x3)]) dX8_delay_59 (by decide) rfl ?_
        refine J.iconst (pc := 61) C (v := 0) dX8_delay_61 (by decide) ?_
        refine J.istore (pc := 62) C (loc' := [(5, .int 0), (4, .int x4_7), (0, .ref (Xad X k)), (1, .int x1), (2, .int x2), (3, .int x3)]) dX8_delay_62 (by decide) rfl ?_
        exact J.sub (loc' := [(0, .ref (Xad X k)), (1, .int x1), (3, .int x3), (4, .int x4_7), (5, .int 0)]) [2, 3, 5, 1, 0] rfl (L64 σ x1 x3 x4_7 0 _ hf hp)
      · refine J.bipush (pc := 37) C (v := (-2)) dX8_delay_37 (by decide) ?_
        exact J.iretM (pc := 39) C hR ((Option.some.inj hf).trans hp) dX8_delay_39
  · refine J.iconst (pc := 14) C (v := (-1)) dX8_delay_14 (by decide) ?_
    exact J.iretM (pc := 15) C hR ((Option.some.inj hf).trans hp) dX8_delay_15
set_option maxHeartbeats 4000000 in
set_option maxRecDepth 100000 in
theorem m_X8_staysDry {l : Launch} {n : Nat} {σ : Mem} {k : Nat} {x1 : Int32} {t0 : (Int32 × Mem)} (hf : f_X8_staysDry n σ k x1 = some t0) : Ct l yX8_staysDry cX8_staysDry 4 (some FieldType.boolean) 5 116 (fun ks => Ok ks k 8) (fun ad => [.ref (ad k), .int x1]) σ (fun _ => some (.int t0.1)) t0.2 := by
  refine Ct.of (plainFor_of_name (by decide)) (fun _ => Nat.le_of_ble_eq_true rfl) ?_
  intro X C _ hk hcl hR
  have C : Cx X RX8 cX8_staysDry 4 (some FieldType.boolean) 5 116 := C
  have L21 : ∀ (σ : Mem) (x1 : Int32) (x2 : Int32) (x3 : Int32) (t : (Int32 × Mem)), f_X8_staysDry_L21 n σ k x1 x2 x3 = some t → t = t0 → J X 21 [(0, .ref (Xad X k)), (1, .int x1), (2, .int x2), (3, .int x3)] [] σ := by
    intro σ x1 x2 x3 t hf hp
    unfold f_X8_staysDry_L21 at hf
    refine J_iter (JJ := fun (s : Mem × Int32) => J X 21 [(0, .ref (Xad X k)), (1, .int x1), (2, .int x2), (3, .int (s.2))] [] s.1) (Ps := fun t => t = t0) ?_ n (σ, x3) t hf hp
    clear hf hp
    intro s t hf hp hq
    obtain ⟨σ, x3⟩ := s
    have hp := And.intro hp hq
    clear hq
    have hf : f_X8_staysDry_B21 n σ k x1 x2 x3 = some t := hf
    show J X 21 [(0, .ref (Xad X k)), (1, .int x1), (2, .int x2), (3, .int x3)] [] σ
    unfold f_X8_staysDry_B21 at hf
    refine J.iload_n (pc := 21) C dX8_staysDry_21 rfl 3 rfl ?_
    refine J.iload_n (pc := 22) C dX8_staysDry_22 rfl 1 rfl ?_
    refine J.icmp_ge (pc := 23) C (tgt := 52) dX8_staysDry_23 (by decide) hf (fun hf => ?_) (fun hf => ?_)
    · refine J.iconst (pc := 52) C (v := 1) dX8_staysDry_52 (by decide) ?_
      exact J.zretM (pc := 53) C rfl hR ((hp.1 _ (Option.some.inj hf).symm)) dX8_staysDry_53
    · refine J.aload_n (pc := 26) C dX8_staysDry_26 rfl 0 rfl ?_
      refine J.getR (pc := 27) C kcX8 hk 1 rfl tw_299 rfl dX8_staysDry_27 ?_
      obtain ⟨σ_5, h_3, hf⟩ := bnd_some hf
      refine J.callV (pc := 30) C (m_X5_makeTick h_3) (ok_8_1 hcl hk) wyX5_makeTick tvX5_makeTick_i tvX5_makeTick_s tw_416 kcX5 rfl (ok_8_1 hcl hk) [] [] rfl rfl (Nat.le_of_ble_eq_true rfl) (Nat.le_of_ble_eq_true rfl) (Nat.le_of_ble_eq_true rfl) (stk' := []) rfl dX8_staysDry_30 rfl ?_
      refine J.aload_n (pc := 33) C dX8_staysDry_33 rfl 0 rfl ?_
      refine J.getR (pc := 34) C kcX8 hk 1 rfl tw_299 rfl dX8_staysDry_34 ?_
      refine J.getI (pc := 37) C kcX5 (ok_8_1 hcl hk) 6 rfl tw_232 rfl dX8_staysDry_37 ?_
      refine J.iload_n (pc := 40) C dX8_staysDry_40 rfl 2 rfl ?_
      refine J.icmp_le (pc := 41) C (tgt := 46) dX8_staysDry_41 (by decide) hf (fun hf => ?_) (fun hf => ?_)
      · obtain ⟨x3_6, hx_x3_6, hf⟩ := nm_some hf
        refine J.iinc (pc := 46) C (v := x3_6) (loc' := [(3, .int x3_6), (0, .ref (Xad X k)), (1, .int x1), (2, .int x2)]) dX8_staysDry_46 (k := 3) rfl (by rw [hx_x3_6]; rfl) (by decide) rfl ?_
        refine J.goto (pc := 49) C (tgt := 21) dX8_staysDry_49 (by decide) ?_
        exact J.sub (loc' := [(0, .ref (Xad X k)), (1, .int x1), (2, .int x2), (3, .int x3_6)]) [1, 2, 3, 0] rfl (hp.2 _ (Option.some.inj hf).symm)
      · refine J.iconst (pc := 44) C (v := 0) dX8_staysDry_44 (by decide) ?_
        exact J.zretM (pc := 45) C rfl hR ((hp.1 _ (Option.some.inj hf).symm)) dX8_staysDry_45
  have hp : t0 = t0 := rfl
  show J X 0 [(0, .ref (Xad X k)), (1, .int x1)] [] σ
  unfold f_X8_staysDry at hf
  refine J.aload_n (pc := 0) C dX8_staysDry_0 rfl 0 rfl ?_
  refine J.getR (pc := 1) C kcX8 hk 1 rfl tw_299 rfl dX8_staysDry_1 ?_
  refine J.getI (pc := 4) C kcX5 (ok_8_1 hcl hk) 6 rfl tw_232 rfl dX8_staysDry_4 ?_
  refine J.nmI hf (fun x2_1 hf => ?_)
  refine J.istore_n (pc := 7) C (loc' := [(2, .int x2_1), (0, .ref (Xad X k)), (1, .int x1)]) dX8_staysDry_7 rfl (by decide) rfl ?_
  refine J.aload_n (pc := 8) C dX8_staysDry_8 rfl 1 rfl ?_
  refine J.getR (pc := 9) C kcX8 hk 1 rfl tw_299 rfl dX8_staysDry_9 ?_
  refine J.getR (pc := 12) C kcX5 (ok_8_1 hcl hk) 1 rfl tw_222 rfl dX8_staysDry_12 ?_
  refine J.iconst (pc := 15) C (v := 0) dX8_staysDry_15 (by decide) ?_
  refine J.putM (pc := 16) C kcX1 (ok_5_1 hcl (ok_8_1 hcl hk)) 9 rfl tw_116 rfl rfl rfl rfl hf dX8_staysDry_16 (fun σ_2 hf => ?_)
  refine J.iconst (pc := 19) C (v := 0) dX8_staysDry_19 (by decide) ?_
  refine J.istore_n (pc := 20) C (loc' := [(3, .int 0), (2, .int x2_1), (0, .ref (Xad X k)), (1, .int x1)]) dX8_staysDry_20 rfl (by decide) rfl ?_
  exact J.sub (loc' := [(0, .ref (Xad X k)), (1, .int x1), (2, .int x2_1), (3, .int 0)]) [2, 3, 1, 0] rfl (L21 σ_2 x1 x2_1 0 _ hf hp)
set_option maxHeartbeats 4000000 in
set_option maxRecDepth 100000 in
theorem m_X8_safeCut {l : Launch} {n : Nat} {σ : Mem} {k : Nat} {x1 : Int32} {t0 : (Int32 × Mem)} (hf : f_X8_safeCut n σ k x1 = some t0) : Ct l yX8_safeCut cX8_safeCut 3 (some FieldType.int) 6 139 (fun ks => Ok ks k 8) (fun ad => [.ref (ad k), .int x1]) σ (fun _ => some (.int t0.1)) t0.2 := by
  refine Ct.of (plainFor_of_name (by decide)) (fun _ => Nat.le_of_ble_eq_true rfl) ?_
  intro X C _ hk hcl hR
  have C : Cx X RX8 cX8_safeCut 3 (some FieldType.int) 6 139 := C
  have L17 : ∀ (σ : Mem) (x1 : Int32) (x2 : Int32) (t : (Int32 × Mem)), f_X8_safeCut_L17 n σ k x1 x2 = some t → t = t0 → J X 17 [(0, .ref (Xad X k)), (1, .int x1), (2, .int x2)] [] σ := by
    intro σ x1 x2 t hf hp
    unfold f_X8_safeCut_L17 at hf
    refine J_iter (JJ := fun (s : Mem × Int32) => J X 17 [(0, .ref (Xad X k)), (1, .int x1), (2, .int (s.2))] [] s.1) (Ps := fun t => t = t0) ?_ n (σ, x2) t hf hp
    clear hf hp
    intro s t hf hp hq
    obtain ⟨σ, x2⟩ := s
    have hp := And.intro hp hq
    clear hq
    have hf : f_X8_safeCut_B17 n σ k x1 x2 = some t := hf
    show J X 17 [(0, .ref (Xad X k)), (1, .int x1), (2, .int x2)] [] σ
    unfold f_X8_safeCut_B17 at hf
    refine J.iload_n (pc := 17) C dX8_safeCut_17 rfl 2 rfl ?_
    refine J.if_lt (pc := 18) C (tgt := 77) dX8_safeCut_18 (by decide) hf (fun hf => ?_) (fun hf => ?_)
    · refine J.bipush (pc := 77) C (v := (-6)) dX8_safeCut_77 (by decide) ?_
      exact J.iretM (pc := 79) C hR ((hp.1 _ (Option.some.inj hf).symm)) dX8_safeCut_79
    · refine J.aload_n (pc := 21) C dX8_safeCut_21 rfl 0 rfl ?_
      refine J.getR (pc := 22) C kcX8 hk 1 rfl tw_299 rfl dX8_safeCut_22 ?_
      refine J.aload_n (pc := 25) C dX8_safeCut_25 rfl 0 rfl ?_
      refine J.getR (pc := 26) C kcX8 hk 0 rfl tw_298 rfl dX8_safeCut_26 ?_
      obtain ⟨σ_5, h_3, hf⟩ := bnd_some hf
      refine J.callV (pc := 29) C (m_X5_copy h_3) ⟨(ok_8_1 hcl hk), (ok_8_0 hcl hk)⟩ wyX5_copy tvX5_copy_i tvX5_copy_s tw_580 kcX5 rfl (ok_8_1 hcl hk) [.ref (Xad X (ptr k 0))] [] rfl rfl (Nat.le_of_ble_eq_true rfl) (Nat.le_of_ble_eq_true rfl) (Nat.le_of_ble_eq_true rfl) (stk' := []) rfl dX8_safeCut_29 rfl ?_
      refine J.aload_n (pc := 32) C dX8_safeCut_32 rfl 0 rfl ?_
      refine J.getR (pc := 33) C kcX8 hk 1 rfl tw_299 rfl dX8_safeCut_33 ?_
      refine J.getR (pc := 36) C kcX5 (ok_8_1 hcl hk) 0 rfl tw_220 rfl dX8_safeCut_36 ?_
      refine J.iconst (pc := 39) C (v := 0) dX8_safeCut_39 (by decide) ?_
      refine J.iconst (pc := 40) C (v := 3) dX8_safeCut_40 (by decide) ?_
      refine J.iload_n (pc := 41) C dX8_safeCut_41 rfl 2 rfl ?_
      obtain ⟨r_7, σ_8, h_6, hf⟩ := bnd2_some hf
      refine J.callV (pc := 42) C (m_X4_change h_6) (ok_5_0 hcl (ok_8_1 hcl hk)) wyX4_change tvX4_change_i tvX4_change_s tw_360 kcX4 rfl (ok_5_0 hcl (ok_8_1 hcl hk)) [.int 0, .int 3, .int x2] [] rfl rfl (Nat.le_of_ble_eq_true rfl) (Nat.le_of_ble_eq_true rfl) (Nat.le_of_ble_eq_true rfl) (stk' := [.int r_7]) rfl dX8_safeCut_42 rfl ?_
      refine J.pop (pc := 45) C dX8_safeCut_45 rfl ?_
      refine J.aload_n (pc := 46) C dX8_safeCut_46 rfl 0 rfl ?_
      refine J.iload_n (pc := 47) C dX8_safeCut_47 rfl 1 rfl ?_
      obtain ⟨r_10, σ_11, h_9, hf⟩ := bnd2_some hf
      refine J.callV (pc := 48) C (m_X8_staysDry h_9) hk wyX8_staysDry tvX8_staysDry_i tvX8_staysDry_s tw_672 kcX8 rfl hk [.int x1] [] rfl rfl (Nat.le_of_ble_eq_true rfl) (Nat.le_of_ble_eq_true rfl) (Nat.le_of_ble_eq_true rfl) (stk' := [.int r_10]) rfl dX8_safeCut_48 rfl ?_
      refine J.if_eq (pc := 51) C (tgt := 56) dX8_safeCut_51 (by decide) hf (fun hf => ?_) (fun hf => ?_)
      · refine J.iload_n (pc := 56) C dX8_safeCut_56 rfl 2 rfl ?_
        refine J.aload_n (pc := 57) C dX8_safeCut_57 rfl 0 rfl ?_
        refine J.getR (pc := 58) C kcX8 hk 1 rfl tw_299 rfl dX8_safeCut_58 ?_
        refine J.getR (pc := 61) C kcX5 (ok_8_1 hcl hk) 1 rfl tw_222 rfl dX8_safeCut_61 ?_
        refine J.getI (pc := 64) C kcX1 (ok_5_1 hcl (ok_8_1 hcl hk)) 9 rfl tw_116 rfl dX8_safeCut_64 ?_
        refine J.mminI (pc := 67) C tw_476 twm_min_s twm_i twm_min_c (Nat.le_of_ble_eq_true rfl) (Nat.le_of_ble_eq_true rfl) dX8_safeCut_67 ?_
        refine J.nmI hf (fun x2_12 hf => ?_)
        refine J.istore_n (pc := 70) C (loc' := [(2, .int x2_12), (0, .ref (Xad X k)), (1, .int x1)]) dX8_safeCut_70 rfl (by decide) rfl ?_
        obtain ⟨x2_13, hx_x2_13, hf⟩ := nm_some hf
        refine J.iinc (pc := 71) C (v := x2_13) (loc' := [(2, .int x2_13), (0, .ref (Xad X k)), (1, .int x1)]) dX8_safeCut_71 (k := 0) rfl (by rw [hx_x2_13]; rfl) (by decide) rfl ?_
        refine J.goto (pc := 74) C (tgt := 17) dX8_safeCut_74 (by decide) ?_
        exact J.sub (loc' := [(0, .ref (Xad X k)), (1, .int x1), (2, .int x2_13)]) [1, 2, 0] rfl (hp.2 _ (Option.some.inj hf).symm)
      · refine J.iload_n (pc := 54) C dX8_safeCut_54 rfl 2 rfl ?_
        exact J.iretM (pc := 55) C hR ((hp.1 _ (Option.some.inj hf).symm)) dX8_safeCut_55
  have hp : t0 = t0 := rfl
  show J X 0 [(0, .ref (Xad X k)), (1, .int x1)] [] σ
  unfold f_X8_safeCut at hf
  refine J.iload_n (pc := 0) C dX8_safeCut_0 rfl 1 rfl ?_
  refine J.iconst (pc := 1) C (v := 1) dX8_safeCut_1 (by decide) ?_
  refine J.bipush (pc := 2) C (v := 100) dX8_safeCut_2 (by decide) ?_
  obtain ⟨r_2, h_1, hf⟩ := bnd_some hf
  refine J.callS (pc := 4) C (m_X8_within h_1) trivial wyX8_within tsX8_within tw_318 [.int x1, .int 1, .int 100] [] rfl rfl (Nat.le_of_ble_eq_true rfl) (Nat.le_of_ble_eq_true rfl) (Nat.le_of_ble_eq_true rfl) (stk' := [.int r_2]) rfl dX8_safeCut_4 rfl ?_
  refine J.if_ne (pc := 7) C (tgt := 13) dX8_safeCut_7 (by decide) hf (fun hf => ?_) (fun hf => ?_)
  · refine J.sipush (pc := 13) C (v := 1000) dX8_safeCut_13 (by decide) ?_
    refine J.istore_n (pc := 16) C (loc' := [(2, .int 1000), (0, .ref (Xad X k)), (1, .int x1)]) dX8_safeCut_16 rfl (by decide) rfl ?_
    exact J.sub (loc' := [(0, .ref (Xad X k)), (1, .int x1), (2, .int 1000)]) [1, 2, 0] rfl (L17 σ x1 1000 _ hf hp)
  · refine J.bipush (pc := 10) C (v := (-2)) dX8_safeCut_10 (by decide) ?_
    exact J.iretM (pc := 12) C hR ((Option.some.inj hf).trans hp) dX8_safeCut_12
set_option maxHeartbeats 4000000 in
set_option maxRecDepth 100000 in
theorem m_X8_say {l : Launch} {σ : Mem} {k : Nat} {x1 : Int32} {t0 : (Int32 × Mem)} (hf : f_X8_say σ k x1 = some t0) : Ct l yX8_say cX8_say 2 (some FieldType.int) 1 22 (fun ks => Ok ks k 8) (fun ad => [.ref (ad k), .int x1]) σ (fun _ => some (.int t0.1)) t0.2 := by
  refine Ct.of (plainFor_of_name (by decide)) (fun _ => Nat.le_of_ble_eq_true rfl) ?_
  intro X C _ hk hcl hR
  have C : Cx X RX8 cX8_say 2 (some FieldType.int) 1 22 := C
  have hp : t0 = t0 := rfl
  show J X 0 [(0, .ref (Xad X k)), (1, .int x1)] [] σ
  unfold f_X8_say at hf
  refine J.iload_n (pc := 0) C dX8_say_0 rfl 1 rfl ?_
  refine J.bipush (pc := 1) C (v := 33) dX8_say_1 (by decide) ?_
  refine J.bipush (pc := 3) C (v := 126) dX8_say_3 (by decide) ?_
  obtain ⟨r_2, h_1, hf⟩ := bnd_some hf
  refine J.callS (pc := 5) C (m_X8_within h_1) trivial wyX8_within tsX8_within tw_318 [.int x1, .int 33, .int 126] [] rfl rfl (Nat.le_of_ble_eq_true rfl) (Nat.le_of_ble_eq_true rfl) (Nat.le_of_ble_eq_true rfl) (stk' := [.int r_2]) rfl dX8_say_5 rfl ?_
  refine J.if_ne (pc := 8) C (tgt := 14) dX8_say_8 (by decide) hf (fun hf => ?_) (fun hf => ?_)
  · refine J.aload_n (pc := 14) C dX8_say_14 rfl 0 rfl ?_
    refine J.getR (pc := 15) C kcX8 hk 4 rfl tw_302 rfl dX8_say_15 ?_
    refine J.iload_n (pc := 18) C dX8_say_18 rfl 1 rfl ?_
    refine J.i2c (pc := 19) C dX8_say_19 ?_
    obtain ⟨r_4, σ_5, h_3, hf⟩ := bnd2_some hf
    refine J.callV (pc := 20) C (m_X2_append h_3) (ok_8_4 hcl hk) wyX2_append tvX2_append_i tvX2_append_s tw_704 kcX2 rfl (ok_8_4 hcl hk) [.int ((x1.toUInt32 % 65536).toInt32)] [] rfl rfl (Nat.le_of_ble_eq_true rfl) (Nat.le_of_ble_eq_true rfl) (Nat.le_of_ble_eq_true rfl) (stk' := [.int r_4]) rfl dX8_say_20 rfl ?_
    exact J.iretM (pc := 23) C hR ((Option.some.inj hf).trans hp) dX8_say_23
  · refine J.bipush (pc := 11) C (v := (-2)) dX8_say_11 (by decide) ?_
    exact J.iretM (pc := 13) C hR ((Option.some.inj hf).trans hp) dX8_say_13
set_option maxHeartbeats 4000000 in
set_option maxRecDepth 100000 in
theorem m_X8_read {l : Launch} {n : Nat} {σ : Mem} {k : Nat} {x1 : Int32} {t0 : (Int32 × Mem)} (hf : f_X8_read n σ k x1 = some t0) : Ct l yX8_read cX8_read 4 (some FieldType.int) 6 127 (fun ks => Ok ks k 8) (fun ad => [.ref (ad k), .int x1]) σ (fun _ => some (.int t0.1)) t0.2 := by
  refine Ct.of (plainFor_of_name (by decide)) (fun _ => Nat.le_of_ble_eq_true rfl) ?_
  intro X C _ hk hcl hR
  have C : Cx X RX8 cX8_read 4 (some FieldType.int) 6 127 := C
  have L61 : ∀ (σ : Mem) (x1 : Int32) (x2 : Int32) (x3 : Int32) (t : (Int32 × Mem)), f_X8_read_L61 n σ k x1 x2 x3 = some t → t = t0 → J X 61 [(0, .ref (Xad X k)), (1, .int x1), (2, .int x2), (3, .int x3)] [] σ := by
    intro σ x1 x2 x3 t hf hp
    unfold f_X8_read_L61 at hf
    refine J_iter (JJ := fun (s : Mem × Int32) => J X 61 [(0, .ref (Xad X k)), (1, .int x1), (2, .int x2), (3, .int (s.2))] [] s.1) (Ps := fun t => t = t0) ?_ n (σ, x3) t hf hp
    clear hf hp
    intro s t hf hp hq
    obtain ⟨σ, x3⟩ := s
    have hp := And.intro hp hq
    clear hq
    have hf : f_X8_read_B61 n σ k x1 x2 x3 = some t := hf
    show J X 61 [(0, .ref (Xad X k)), (1, .int x1), (2, .int x2), (3, .int x3)] [] σ
    unfold f_X8_read_B61 at hf
    refine J.iload_n (pc := 61) C dX8_read_61 rfl 3 rfl ?_
    refine J.iload_n (pc := 62) C dX8_read_62 rfl 2 rfl ?_
    refine J.icmp_ge (pc := 63) C (tgt := 121) dX8_read_63 (by decide) hf (fun hf => ?_) (fun hf => ?_)
    · refine J.aload_n (pc := 121) C dX8_read_121 rfl 0 rfl ?_
      refine J.getR (pc := 122) C kcX8 hk 4 rfl tw_302 rfl dX8_read_122 ?_
      refine J.iconst (pc := 125) C (v := 0) dX8_read_125 (by decide) ?_
      refine J.putM (pc := 126) C kcX2 (ok_8_4 hcl hk) 2 rfl tw_277 rfl rfl rfl rfl hf dX8_read_126 (fun σ_7 hf => ?_)
      refine J.iload_n (pc := 129) C dX8_read_129 rfl 2 rfl ?_
      exact J.iretM (pc := 130) C hR ((hp.1 _ (Option.some.inj hf).symm)) dX8_read_130
    · refine J.aload_n (pc := 66) C dX8_read_66 rfl 0 rfl ?_
      refine J.getR (pc := 67) C kcX8 hk 0 rfl tw_298 rfl dX8_read_67 ?_
      refine J.getR (pc := 70) C kcX5 (ok_8_0 hcl hk) 4 rfl tw_228 rfl dX8_read_70 ?_
      refine J.aload_n (pc := 73) C dX8_read_73 rfl 0 rfl ?_
      refine J.getR (pc := 74) C kcX8 hk 4 rfl tw_302 rfl dX8_read_74 ?_
      refine J.getR (pc := 77) C kcX2 (ok_8_4 hcl hk) 0 rfl tw_274 rfl dX8_read_77 ?_
      refine J.getR (pc := 80) C kcX0 (ok_2_0 hcl (ok_8_4 hcl hk)) 0 rfl tw_201 rfl dX8_read_80 ?_
      refine J.iload_n (pc := 83) C dX8_read_83 rfl 3 rfl ?_
      refine J.iald (pc := 84) C (ok_0_0 hcl (ok_2_0 hcl (ok_8_4 hcl hk))) hf dX8_read_84 (fun hf => ?_)
      refine J.iload_n (pc := 85) C dX8_read_85 rfl 1 rfl ?_
      refine J.iadd (pc := 86) C dX8_read_86 ?_
      refine J.aload_n (pc := 87) C dX8_read_87 rfl 0 rfl ?_
      refine J.getR (pc := 88) C kcX8 hk 4 rfl tw_302 rfl dX8_read_88 ?_
      refine J.getR (pc := 91) C kcX2 (ok_8_4 hcl hk) 0 rfl tw_274 rfl dX8_read_91 ?_
      refine J.getR (pc := 94) C kcX0 (ok_2_0 hcl (ok_8_4 hcl hk)) 1 rfl tw_203 rfl dX8_read_94 ?_
      refine J.iload_n (pc := 97) C dX8_read_97 rfl 3 rfl ?_
      refine J.iald (pc := 98) C (ok_0_1 hcl (ok_2_0 hcl (ok_8_4 hcl hk))) hf dX8_read_98 (fun hf => ?_)
      refine J.aload_n (pc := 99) C dX8_read_99 rfl 0 rfl ?_
      refine J.getR (pc := 100) C kcX8 hk 4 rfl tw_302 rfl dX8_read_100 ?_
      refine J.getR (pc := 103) C kcX2 (ok_8_4 hcl hk) 0 rfl tw_274 rfl dX8_read_103 ?_
      refine J.getR (pc := 106) C kcX0 (ok_2_0 hcl (ok_8_4 hcl hk)) 2 rfl tw_205 rfl dX8_read_106 ?_
      refine J.iload_n (pc := 109) C dX8_read_109 rfl 3 rfl ?_
      refine J.iald (pc := 110) C (ok_0_2 hcl (ok_2_0 hcl (ok_8_4 hcl hk))) hf dX8_read_110 (fun hf => ?_)
      obtain ⟨r_9, σ_10, h_8, hf⟩ := bnd2_some hf
      refine J.callV (pc := 111) C (m_X0_insert h_8) (ok_5_4 hcl (ok_8_0 hcl hk)) wyX0_insert tvX0_insert_i tvX0_insert_s tw_527 kcX0 rfl (ok_5_4 hcl (ok_8_0 hcl hk)) [.int ((σ (ptr (ptr (ptr k 4) 0) 0) (ix x3)) + x1), .int (σ (ptr (ptr (ptr k 4) 0) 1) (ix x3)), .int (σ (ptr (ptr (ptr k 4) 0) 2) (ix x3))] [] rfl rfl (Nat.le_of_ble_eq_true rfl) (Nat.le_of_ble_eq_true rfl) (Nat.le_of_ble_eq_true rfl) (stk' := [.int r_9]) rfl dX8_read_111 rfl ?_
      refine J.pop (pc := 114) C dX8_read_114 rfl ?_
      obtain ⟨x3_11, hx_x3_11, hf⟩ := nm_some hf
      refine J.iinc (pc := 115) C (v := x3_11) (loc' := [(3, .int x3_11), (0, .ref (Xad X k)), (1, .int x1), (2, .int x2)]) dX8_read_115 (k := 3) rfl (by rw [hx_x3_11]; rfl) (by decide) rfl ?_
      refine J.goto (pc := 118) C (tgt := 61) dX8_read_118 (by decide) ?_
      exact J.sub (loc' := [(0, .ref (Xad X k)), (1, .int x1), (2, .int x2), (3, .int x3_11)]) [1, 2, 3, 0] rfl (hp.2 _ (Option.some.inj hf).symm)
  have hp : t0 = t0 := rfl
  show J X 0 [(0, .ref (Xad X k)), (1, .int x1)] [] σ
  unfold f_X8_read at hf
  refine J.aload_n (pc := 0) C dX8_read_0 rfl 0 rfl ?_
  refine J.getR (pc := 1) C kcX8 hk 4 rfl tw_302 rfl dX8_read_1 ?_
  obtain ⟨r_2, σ_3, h_1, hf⟩ := bnd2_some hf
  refine J.callV (pc := 4) C (m_X2_findFault h_1) (ok_8_4 hcl hk) wyX2_findFault tvX2_findFault_i tvX2_findFault_s tw_712 kcX2 rfl (ok_8_4 hcl hk) [] [] rfl rfl (Nat.le_of_ble_eq_true rfl) (Nat.le_of_ble_eq_true rfl) (Nat.le_of_ble_eq_true rfl) (stk' := [.int r_2]) rfl dX8_read_4 rfl ?_
  refine J.bipush (pc := 7) C (v := (-6)) dX8_read_7 (by decide) ?_
  refine J.icmp_eq (pc := 9) C (tgt := 15) dX8_read_9 (by decide) hf (fun hf => ?_) (fun hf => ?_)
  · refine J.iload_n (pc := 15) C dX8_read_15 rfl 1 rfl ?_
    refine J.iconst (pc := 16) C (v := 0) dX8_read_16 (by decide) ?_
    refine J.ldc (pc := 17) C (v := 90000) dX8_read_17 tw_741 ?_
    obtain ⟨r_5, h_4, hf⟩ := bnd_some hf
    refine J.callS (pc := 19) C (m_X8_within h_4) trivial wyX8_within tsX8_within tw_318 [.int x1, .int 0, .int 90000] [] rfl rfl (Nat.le_of_ble_eq_true rfl) (Nat.le_of_ble_eq_true rfl) (Nat.le_of_ble_eq_true rfl) (stk' := [.int r_5]) rfl dX8_read_19 rfl ?_
    refine J.if_ne (pc := 22) C (tgt := 28) dX8_read_22 (by decide) hf (fun hf => ?_) (fun hf => ?_)
    · refine J.aload_n (pc := 28) C dX8_read_28 rfl 0 rfl ?_
      refine J.getR (pc := 29) C kcX8 hk 4 rfl tw_302 rfl dX8_read_29 ?_
      refine J.getR (pc := 32) C kcX2 (ok_8_4 hcl hk) 0 rfl tw_274 rfl dX8_read_32 ?_
      refine J.getI (pc := 35) C kcX0 (ok_2_0 hcl (ok_8_4 hcl hk)) 3 rfl tw_209 rfl dX8_read_35 ?_
      refine J.nmI hf (fun x2_6 hf => ?_)
      refine J.istore_n (pc := 38) C (loc' := [(2, .int x2_6), (0, .ref (Xad X k)), (1, .int x1)]) dX8_read_38 rfl (by decide) rfl ?_
      refine J.aload_n (pc := 39) C dX8_read_39 rfl 1 rfl ?_
      refine J.getR (pc := 40) C kcX8 hk 0 rfl tw_298 rfl dX8_read_40 ?_
      refine J.getR (pc := 43) C kcX5 (ok_8_0 hcl hk) 4 rfl tw_228 rfl dX8_read_43 ?_
      refine J.getI (pc := 46) C kcX0 (ok_5_4 hcl (ok_8_0 hcl hk)) 3 rfl tw_209 rfl dX8_read_46 ?_
      refine J.iload_n (pc := 49) C dX8_read_49 rfl 0 rfl ?_
      refine J.iadd (pc := 50) C dX8_read_50 ?_
      refine J.bipush (pc := 51) C (v := 60) dX8_read_51 (by decide) ?_
      refine J.icmp_le (pc := 53) C (tgt := 59) dX8_read_53 (by decide) hf (fun hf => ?_) (fun hf => ?_)
      · refine J.iconst (pc := 59) C (v := 0) dX8_read_59 (by decide) ?_
        refine J.istore_n (pc := 60) C (loc' := [(3, .int 0), (2, .int x2_6), (0, .ref (Xad X k)), (1, .int x1)]) dX8_read_60 rfl (by decide) rfl ?_
        exact J.sub (loc' := [(0, .ref (Xad X k)), (1, .int x1), (2, .int x2_6), (3, .int 0)]) [2, 3, 1, 0] rfl (L61 σ_3 x1 x2_6 0 _ hf hp)
      · refine J.bipush (pc := 56) C (v := (-4)) dX8_read_56 (by decide) ?_
        exact J.iretM (pc := 58) C hR ((Option.some.inj hf).trans hp) dX8_read_58
    · refine J.bipush (pc := 25) C (v := (-2)) dX8_read_25 (by decide) ?_
      exact J.iretM (pc := 27) C hR ((Option.some.inj hf).trans hp) dX8_read_27
  · refine J.bipush (pc := 12) C (v := (-3)) dX8_read_12 (by decide) ?_
    exact J.iretM (pc := 14) C hR ((Option.some.inj hf).trans hp) dX8_read_14
set_option maxHeartbeats 4000000 in
set_option maxRecDepth 100000 in
theorem m_X8_slotAt {l : Launch} {σ : Mem} {k : Nat} {x1 : Int32} {t0 : (Option Nat)} (hf : f_X8_slotAt σ k x1 = some t0) : Ct l yX8_slotAt cX8_slotAt 2 (some (FieldType.object "FountainShow$Slot")) 0 0 (fun ks => Ok ks k 8) (fun ad => [.ref (ad k), .int x1]) σ (fun ad => some (va_rf (Option.map ad t0))) σ := by
  refine Ct.of (plainFor_of_name (by decide)) (fun _ => Nat.le_of_ble_eq_true rfl) ?_
  intro X C _ hk hcl hR
  have C : Cx X RX8 cX8_slotAt 2 (some (FieldType.object "FountainShow$Slot")) 0 0 := C
  have hp : t0 = t0 := rfl
  show J X 0 [(0, .ref (Xad X k)), (1, .int x1)] [] σ
  unfold f_X8_slotAt at hf
  refine J.iload_n (pc := 0) C dX8_slotAt_0 rfl 1 rfl ?_
  refine J.look2 (pc := 1) C dX8_slotAt_1 (v0 := 0) (v1 := 1) rfl (by decide) (by decide) (by decide) (tgt0 := 28) (tgt1 := 33) (tgtd := 38) (by decide) (by decide) (by decide) hf (fun hf => ?_) (fun hf => ?_) (fun hf => ?_)
  · refine J.aload_n (pc := 28) C dX8_slotAt_28 rfl 0 rfl ?_
    refine J.getR (pc := 29) C kcX8 hk 2 rfl tw_300 rfl dX8_slotAt_29 ?_
    exact J.aretS (pc := 32) C hR ((Option.some.inj hf).trans hp) dX8_slotAt_32
  · refine J.aload_n (pc := 33) C dX8_slotAt_33 rfl 0 rfl ?_
    refine J.getR (pc := 34) C kcX8 hk 3 rfl tw_301 rfl dX8_slotAt_34 ?_
    exact J.aretS (pc := 37) C hR ((Option.some.inj hf).trans hp) dX8_slotAt_37
  · refine J.aconst_null (pc := 38) C dX8_slotAt_38 ?_
    exact J.aretN (pc := 39) C hR ((Option.some.inj hf).trans hp) dX8_slotAt_39
set_option maxHeartbeats 4000000 in
set_option maxRecDepth 100000 in
theorem m_X8_save {l : Launch} {σ : Mem} {k : Nat} {x1 : Int32} {t0 : (Int32 × Mem)} (hf : f_X8_save σ k x1 = some t0) : Ct l yX8_save cX8_save 3 (some FieldType.int) 5 102 (fun ks => Ok ks k 8) (fun ad => [.ref (ad k), .int x1]) σ (fun _ => some (.int t0.1)) t0.2 := by
  refine Ct.of (plainFor_of_name (by decide)) (fun _ => Nat.le_of_ble_eq_true rfl) ?_
  intro X C _ hk hcl hR
  have C : Cx X RX8 cX8_save 3 (some FieldType.int) 5 102 := C
  have hp : t0 = t0 := rfl
  show J X 0 [(0, .ref (Xad X k)), (1, .int x1)] [] σ
  unfold f_X8_save at hf
  refine J.aload_n (pc := 0) C dX8_save_0 rfl 0 rfl ?_
  refine J.iload_n (pc := 1) C dX8_save_1 rfl 1 rfl ?_
  obtain ⟨r_2, h_1, hf⟩ := bnd_some hf
  cases r_2 with
  | none =>
    refine J.callV (pc := 2) C (m_X8_slotAt h_1) hk wyX8_slotAt tvX8_slotAt_i tvX8_slotAt_s tw_642 kcX8 rfl hk [.int x1] [] rfl rfl (Nat.le_of_ble_eq_true rfl) (Nat.le_of_ble_eq_true rfl) (Nat.le_of_ble_eq_true rfl) (stk' := [.null]) rfl dX8_save_2 rfl ?_
    replace hf := mtc_none hf
    refine J.astoreN_n (pc := 5) C (loc' := [(2, .null), (0, .ref (Xad X k)), (1, .int x1)]) dX8_save_5 rfl (by decide) rfl ?_
    refine J.aloadN_n (pc := 6) C dX8_save_6 rfl 0 rfl ?_
    refine J.ifnonnullN (pc := 7) C dX8_save_7 ?_
    refine J.bipush (pc := 10) C (v := (-2)) dX8_save_10 (by decide) ?_
    exact J.iretM (pc := 12) C hR ((Option.some.inj hf).trans hp) dX8_save_12
  | some q_3 =>
    refine J.callV (pc := 2) C (m_X8_slotAt h_1) hk wyX8_slotAt tvX8_slotAt_i tvX8_slotAt_s tw_642 kcX8 rfl hk [.int x1] [] rfl rfl (Nat.le_of_ble_eq_true rfl) (Nat.le_of_ble_eq_true rfl) (Nat.le_of_ble_eq_true rfl) (stk' := [.ref (Xad X q_3)]) rfl dX8_save_2 rfl ?_
    obtain ⟨q_3_ok, hf⟩ := chk_some (mtc_some hf)
    refine J.astore_n (pc := 5) C (loc' := [(2, .ref (Xad X q_3)), (0, .ref (Xad X k)), (1, .int x1)]) dX8_save_5 rfl (by decide) rfl ?_
    refine J.aload_n (pc := 6) C dX8_save_6 rfl 0 rfl ?_
    refine J.ifnonnull (pc := 7) C (tgt := 13) dX8_save_7 (by decide) ?_
    refine J.aload_n (pc := 13) C dX8_save_13 rfl 0 rfl ?_
    refine J.getR (pc := 14) C kcX6 (ok_slot hcl hk q_3_ok) 0 rfl tw_257 rfl dX8_save_14 ?_
    refine J.aload_n (pc := 17) C dX8_save_17 rfl 1 rfl ?_
    refine J.getR (pc := 18) C kcX8 hk 0 rfl tw_298 rfl dX8_save_18 ?_
    obtain ⟨σ_6, h_4, hf⟩ := bnd_some hf
    refine J.callV (pc := 21) C (m_X5_copy h_4) ⟨(ok_6_0 hcl (ok_slot hcl hk q_3_ok)), (ok_8_0 hcl hk)⟩ wyX5_copy tvX5_copy_i tvX5_copy_s tw_580 kcX5 rfl (ok_6_0 hcl (ok_slot hcl hk q_3_ok)) [.ref (Xad X (ptr k 0))] [] rfl rfl (Nat.le_of_ble_eq_true rfl) (Nat.le_of_ble_eq_true rfl) (Nat.le_of_ble_eq_true rfl) (stk' := []) rfl dX8_save_21 rfl ?_
    refine J.aload_n (pc := 24) C dX8_save_24 rfl 0 rfl ?_
    refine J.iconst (pc := 25) C (v := 1) dX8_save_25 (by decide) ?_
    refine J.putM (pc := 26) C kcX6 (ok_slot hcl hk q_3_ok) 1 rfl tw_259 rfl rfl rfl rfl hf dX8_save_26 (fun σ_7 hf => ?_)
    refine J.aload_n (pc := 29) C dX8_save_29 rfl 1 rfl ?_
    refine J.getR (pc := 30) C kcX8 hk 0 rfl tw_298 rfl dX8_save_30 ?_
    refine J.getI (pc := 33) C kcX5 (ok_8_0 hcl hk) 5 rfl tw_230 rfl dX8_save_33 ?_
    exact J.iretM (pc := 36) C hR ((Option.some.inj hf).trans hp) dX8_save_36
set_option maxHeartbeats 4000000 in
set_option maxRecDepth 100000 in
theorem m_X8_restore {l : Launch} {σ : Mem} {k : Nat} {x1 : Int32} {t0 : (Int32 × Mem)} (hf : f_X8_restore σ k x1 = some t0) : Ct l yX8_restore cX8_restore 3 (some FieldType.int) 5 102 (fun ks => Ok ks k 8) (fun ad => [.ref (ad k), .int x1]) σ (fun _ => some (.int t0.1)) t0.2 := by
  refine Ct.of (plainFor_of_name (by decide)) (fun _ => Nat.le_of_ble_eq_true rfl) ?_
  intro X C _ hk hcl hR
  have C : Cx X RX8 cX8_restore 3 (some FieldType.int) 5 102 := C
  have hp : t0 = t0 := rfl
  show J X 0 [(0, .ref (Xad X k)), (1, .int x1)] [] σ
  unfold f_X8_restore at hf
  refine J.aload_n (pc := 0) C dX8_restore_0 rfl 0 rfl ?_
  refine J.iload_n (pc := 1) C dX8_restore_1 rfl 1 rfl ?_
  obtain ⟨r_2, h_1, hf⟩ := bnd_some hf
  cases r_2 with
  | none =>
    refine J.callV (pc := 2) C (m_X8_slotAt h_1) hk wyX8_slotAt tvX8_slotAt_i tvX8_slotAt_s tw_642 kcX8 rfl hk [.int x1] [] rfl rfl (Nat.le_of_ble_eq_true rfl) (Nat.le_of_ble_eq_true rfl) (Nat.le_of_ble_eq_true rfl) (stk' := [.null]) rfl dX8_restore_2 rfl ?_
    replace hf := mtc_none hf
    refine J.astoreN_n (pc := 5) C (loc' := [(2, .null), (0, .ref (Xad X k)), (1, .int x1)]) dX8_restore_5 rfl (by decide) rfl ?_
    refine J.aloadN_n (pc := 6) C dX8_restore_6 rfl 0 rfl ?_
    refine J.ifnonnullN (pc := 7) C dX8_restore_7 ?_
    refine J.bipush (pc := 10) C (v := (-2)) dX8_restore_10 (by decide) ?_
    exact J.iretM (pc := 12) C hR ((Option.some.inj hf).trans hp) dX8_restore_12
  | some q_3 =>
    refine J.callV (pc := 2) C (m_X8_slotAt h_1) hk wyX8_slotAt tvX8_slotAt_i tvX8_slotAt_s tw_642 kcX8 rfl hk [.int x1] [] rfl rfl (Nat.le_of_ble_eq_true rfl) (Nat.le_of_ble_eq_true rfl) (Nat.le_of_ble_eq_true rfl) (stk' := [.ref (Xad X q_3)]) rfl dX8_restore_2 rfl ?_
    obtain ⟨q_3_ok, hf⟩ := chk_some (mtc_some hf)
    refine J.astore_n (pc := 5) C (loc' := [(2, .ref (Xad X q_3)), (0, .ref (Xad X k)), (1, .int x1)]) dX8_restore_5 rfl (by decide) rfl ?_
    refine J.aload_n (pc := 6) C dX8_restore_6 rfl 0 rfl ?_
    refine J.ifnonnull (pc := 7) C (tgt := 13) dX8_restore_7 (by decide) ?_
    refine J.aload_n (pc := 13) C dX8_restore_13 rfl 0 rfl ?_
    refine J.getI (pc := 14) C kcX6 (ok_slot hcl hk q_3_ok) 1 rfl tw_259 rfl dX8_restore_14 ?_
    refine J.if_ne (pc := 17) C (tgt := 23) dX8_restore_17 (by decide) hf (fun hf => ?_) (fun hf => ?_)
    · refine J.aload_n (pc := 23) C dX8_restore_23 rfl 1 rfl ?_
      refine J.getR (pc := 24) C kcX8 hk 0 rfl tw_298 rfl dX8_restore_24 ?_
      refine J.aload_n (pc := 27) C dX8_restore_27 rfl 0 rfl ?_
      refine J.getR (pc := 28) C kcX6 (ok_slot hcl hk q_3_ok) 0 rfl tw_257 rfl dX8_restore_28 ?_
      obtain ⟨σ_6, h_4, hf⟩ := bnd_some hf
      refine J.callV (pc := 31) C (m_X5_copy h_4) ⟨(ok_8_0 hcl hk), (ok_6_0 hcl (ok_slot hcl hk q_3_ok))⟩ wyX5_copy tvX5_copy_i tvX5_copy_s tw_580 kcX5 rfl (ok_8_0 hcl hk) [.ref (Xad X (ptr q_3 0))] [] rfl rfl (Nat.le_of_ble_eq_true rfl) (Nat.le_of_ble_eq_true rfl) (Nat.le_of_ble_eq_true rfl) (stk' := []) rfl dX8_restore_31 rfl ?_
      refine J.aload_n (pc := 34) C dX8_restore_34 rfl 1 rfl ?_
      refine J.getR (pc := 35) C kcX8 hk 0 rfl tw_298 rfl dX8_restore_35 ?_
      refine J.getI (pc := 38) C kcX5 (ok_8_0 hcl hk) 5 rfl tw_230 rfl dX8_restore_38 ?_
      exact J.iretM (pc := 41) C hR ((Option.some.inj hf).trans hp) dX8_restore_41
    · refine J.bipush (pc := 20) C (v := (-5)) dX8_restore_20 (by decide) ?_
      exact J.iretM (pc := 22) C hR ((Option.some.inj hf).trans hp) dX8_restore_22
