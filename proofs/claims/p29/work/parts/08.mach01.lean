set_option maxHeartbeats 4000000 in
set_option maxRecDepth 100000 in
theorem m_X8_within {l : Launch} {x0 : Int32} {x1 : Int32} {x2 : Int32} {σ : Mem} {t0 : Int32} (hf : f_X8_within x0 x1 x2 = some t0) : Ct l yX8_within cX8_within 3 (some FieldType.boolean) 0 0 (fun _ => True) (fun _ => [.int x0, .int x1, .int x2]) σ (fun _ => some (.int t0)) σ := by
  refine Ct.of (plainFor_of_name (by decide)) (fun _ => Nat.le_of_ble_eq_true rfl) ?_
  intro X C _ _ hcl hR
  have C : Cx X RX8 cX8_within 3 (some FieldType.boolean) 0 0 := C
  have hp : t0 = t0 := rfl
  show J X 0 [(0, .int x0), (1, .int x1), (2, .int x2)] [] σ
  unfold f_X8_within at hf
  refine J.iload_n (pc := 0) C dX8_within_0 rfl 0 rfl ?_
  refine J.iload_n (pc := 1) C dX8_within_1 rfl 1 rfl ?_
  refine J.icmp_lt (pc := 2) C (tgt := 14) dX8_within_2 (by decide) hf (fun hf => ?_) (fun hf => ?_)
  · refine J.iconst (pc := 14) C (v := 0) dX8_within_14 (by decide) ?_
    exact J.zretP (pc := 15) C rfl hR ((Option.some.inj hf).trans hp) dX8_within_15
  · refine J.iload_n (pc := 5) C dX8_within_5 rfl 0 rfl ?_
    refine J.iload_n (pc := 6) C dX8_within_6 rfl 2 rfl ?_
    refine J.icmp_gt (pc := 7) C (tgt := 14) dX8_within_7 (by decide) hf (fun hf => ?_) (fun hf => ?_)
    · refine J.iconst (pc := 14) C (v := 0) dX8_within_14 (by decide) ?_
      exact J.zretP (pc := 15) C rfl hR ((Option.some.inj hf).trans hp) dX8_within_15
    · refine J.iconst (pc := 10) C (v := 1) dX8_within_10 (by decide) ?_
      refine J.goto (pc := 11) C (tgt := 15) dX8_within_11 (by decide) ?_
      exact J.zretP (pc := 15) C rfl hR ((Option.some.inj hf).trans hp) dX8_within_15
set_option maxHeartbeats 4000000 in
set_option maxRecDepth 100000 in
theorem m_X0_has {l : Launch} {σ : Mem} {k : Nat} {x1 : Int32} {t0 : Int32} (hf : f_X0_has σ k x1 = some t0) : Ct l yX0_has cX0_has 2 (some FieldType.boolean) 1 22 (fun ks => Ok ks k 0) (fun ad => [.ref (ad k), .int x1]) σ (fun _ => some (.int t0)) σ := by
  refine Ct.of (plainFor_of_name (by decide)) (fun _ => Nat.le_of_ble_eq_true rfl) ?_
  intro X C _ hk hcl hR
  have C : Cx X RX0 cX0_has 2 (some FieldType.boolean) 1 22 := C
  have hp : t0 = t0 := rfl
  show J X 0 [(0, .ref (Xad X k)), (1, .int x1)] [] σ
  unfold f_X0_has at hf
  refine J.iload_n (pc := 0) C dX0_has_0 rfl 1 rfl ?_
  refine J.iconst (pc := 1) C (v := 0) dX0_has_1 (by decide) ?_
  refine J.aload_n (pc := 2) C dX0_has_2 rfl 0 rfl ?_
  refine J.getI (pc := 3) C kcX0 hk 3 rfl tw_206 rfl dX0_has_3 ?_
  refine J.iconst (pc := 6) C (v := 1) dX0_has_6 (by decide) ?_
  refine J.isub (pc := 7) C dX0_has_7 ?_
  obtain ⟨r_2, h_1, hf⟩ := bnd_some hf
  refine J.callSN (pc := 8) C (m_X8_within h_1) trivial wyX8_within tsX8_within tn_545 [.int x1, .int 0, .int ((σ k 3) - 1)] [] rfl rfl (Nat.le_of_ble_eq_true rfl) (Nat.le_of_ble_eq_true rfl) (Nat.le_of_ble_eq_true rfl) (stk' := [.int r_2]) rfl dX0_has_8 rfl ?_
  obtain ⟨hbit, hf⟩ := chk_some hf
  exact J.zretP (pc := 11) C (bit_nar hbit) hR ((Option.some.inj hf).trans hp) dX0_has_11
set_option maxHeartbeats 4000000 in
set_option maxRecDepth 100000 in
theorem m_X8_copyRow {l : Launch} {σ : Mem} {x0 : Nat} {x1 : Nat} {t0 : Mem} (hf : f_X8_copyRow σ x0 x1 = some t0) : Ct l yX8_copyRow cX8_copyRow 2 none 1 18 (fun ks => Ok ks x0 100 ∧ Ok ks x1 100) (fun ad => [.ref (ad x0), .ref (ad x1)]) σ (fun _ => none) t0 := by
  refine Ct.of (plainFor_of_name (by decide)) (fun _ => Nat.le_of_ble_eq_true rfl) ?_
  intro X C _ hok hcl hR
  obtain ⟨hx0, hx1⟩ := hok
  have C : Cx X RX8 cX8_copyRow 2 none 1 18 := C
  have hp : t0 = t0 := rfl
  show J X 0 [(0, .ref (Xad X x0)), (1, .ref (Xad X x1))] [] σ
  unfold f_X8_copyRow at hf
  refine J.aload_n (pc := 0) C dX8_copyRow_0 rfl 0 rfl ?_
  refine J.iconst (pc := 1) C (v := 0) dX8_copyRow_1 (by decide) ?_
  refine J.aload_n (pc := 2) C dX8_copyRow_2 rfl 1 rfl ?_
  refine J.iconst (pc := 3) C (v := 0) dX8_copyRow_3 (by decide) ?_
  refine J.aload_n (pc := 4) C dX8_copyRow_4 rfl 0 rfl ?_
  refine J.arrlen (pc := 5) C hx0 dX8_copyRow_5 ?_
  refine J.aload_n (pc := 6) C dX8_copyRow_6 rfl 1 rfl ?_
  refine J.arrlen (pc := 7) C hx1 dX8_copyRow_7 ?_
  refine J.mminI (pc := 8) C tw_476 twm_min_s twm_i twm_min_c (Nat.le_of_ble_eq_true rfl) (Nat.le_of_ble_eq_true rfl) dX8_copyRow_8 ?_
  refine J.acopyM (pc := 11) C tw_591 twac_n twac_s twac_i (Nat.le_of_ble_eq_true rfl) (Nat.le_of_ble_eq_true rfl) hx0 hx1 hf dX8_copyRow_11 (fun σ_1 hf => ?_)
  exact J.vretM (pc := 14) C hR ((Option.some.inj hf).trans hp) dX8_copyRow_14
set_option maxHeartbeats 4000000 in
set_option maxRecDepth 100000 in
theorem m_X0_copy {l : Launch} {σ : Mem} {k : Nat} {x1 : Nat} {t0 : Mem} (hf : f_X0_copy σ k x1 = some t0) : Ct l yX0_copy cX0_copy 2 none 2 39 (fun ks => Ok ks k 0 ∧ Ok ks x1 0) (fun ad => [.ref (ad k), .ref (ad x1)]) σ (fun _ => none) t0 := by
  refine Ct.of (plainFor_of_name (by decide)) (fun _ => Nat.le_of_ble_eq_true rfl) ?_
  intro X C _ hok hcl hR
  obtain ⟨hk, hx1⟩ := hok
  have C : Cx X RX0 cX0_copy 2 none 2 39 := C
  have hp : t0 = t0 := rfl
  show J X 0 [(0, .ref (Xad X k)), (1, .ref (Xad X x1))] [] σ
  unfold f_X0_copy at hf
  refine J.aload_n (pc := 0) C dX0_copy_0 rfl 0 rfl ?_
  refine J.aload_n (pc := 1) C dX0_copy_1 rfl 1 rfl ?_
  refine J.getI (pc := 2) C kcX0 hx1 3 rfl tw_206 rfl dX0_copy_2 ?_
  refine J.putM (pc := 5) C kcX0 hk 3 rfl tw_206 rfl rfl rfl rfl hf dX0_copy_5 (fun σ_1 hf => ?_)
  refine J.aload_n (pc := 8) C dX0_copy_8 rfl 1 rfl ?_
  refine J.getR (pc := 9) C kcX0 hx1 0 rfl tw_200 rfl dX0_copy_9 ?_
  refine J.aload_n (pc := 12) C dX0_copy_12 rfl 0 rfl ?_
  refine J.getR (pc := 13) C kcX0 hk 0 rfl tw_200 rfl dX0_copy_13 ?_
  obtain ⟨σ_4, h_2, hf⟩ := bnd_some hf
  refine J.callSN (pc := 16) C (m_X8_copyRow h_2) ⟨(ok_0_0 hcl hx1), (ok_0_0 hcl hk)⟩ wyX8_copyRow tsX8_copyRow tn_612 [.ref (Xad X (ptr x1 0)), .ref (Xad X (ptr k 0))] [] rfl rfl (Nat.le_of_ble_eq_true rfl) (Nat.le_of_ble_eq_true rfl) (Nat.le_of_ble_eq_true rfl) (stk' := []) rfl dX0_copy_16 rfl ?_
  refine J.aload_n (pc := 19) C dX0_copy_19 rfl 1 rfl ?_
  refine J.getR (pc := 20) C kcX0 hx1 1 rfl tw_202 rfl dX0_copy_20 ?_
  refine J.aload_n (pc := 23) C dX0_copy_23 rfl 0 rfl ?_
  refine J.getR (pc := 24) C kcX0 hk 1 rfl tw_202 rfl dX0_copy_24 ?_
  obtain ⟨σ_7, h_5, hf⟩ := bnd_some hf
  refine J.callSN (pc := 27) C (m_X8_copyRow h_5) ⟨(ok_0_1 hcl hx1), (ok_0_1 hcl hk)⟩ wyX8_copyRow tsX8_copyRow tn_612 [.ref (Xad X (ptr x1 1)), .ref (Xad X (ptr k 1))] [] rfl rfl (Nat.le_of_ble_eq_true rfl) (Nat.le_of_ble_eq_true rfl) (Nat.le_of_ble_eq_true rfl) (stk' := []) rfl dX0_copy_27 rfl ?_
  refine J.aload_n (pc := 30) C dX0_copy_30 rfl 1 rfl ?_
  refine J.getR (pc := 31) C kcX0 hx1 2 rfl tw_204 rfl dX0_copy_31 ?_
  refine J.aload_n (pc := 34) C dX0_copy_34 rfl 0 rfl ?_
  refine J.getR (pc := 35) C kcX0 hk 2 rfl tw_204 rfl dX0_copy_35 ?_
  obtain ⟨σ_10, h_8, hf⟩ := bnd_some hf
  refine J.callSN (pc := 38) C (m_X8_copyRow h_8) ⟨(ok_0_2 hcl hx1), (ok_0_2 hcl hk)⟩ wyX8_copyRow tsX8_copyRow tn_612 [.ref (Xad X (ptr x1 2)), .ref (Xad X (ptr k 2))] [] rfl rfl (Nat.le_of_ble_eq_true rfl) (Nat.le_of_ble_eq_true rfl) (Nat.le_of_ble_eq_true rfl) (stk' := []) rfl dX0_copy_38 rfl ?_
  exact J.vretM (pc := 41) C hR ((Option.some.inj hf).trans hp) dX0_copy_41
set_option maxHeartbeats 4000000 in
set_option maxRecDepth 100000 in
theorem m_X0_next {l : Launch} {n : Nat} {σ : Mem} {k : Nat} {x1 : Int32} {t0 : Int32} (hf : f_X0_next n σ k x1 = some t0) : Ct l yX0_next cX0_next 3 (some FieldType.int) 0 0 (fun ks => Ok ks k 0) (fun ad => [.ref (ad k), .int x1]) σ (fun _ => some (.int t0)) σ := by
  refine Ct.of (plainFor_of_name (by decide)) (fun _ => Nat.le_of_ble_eq_true rfl) ?_
  intro X C _ hk hcl hR
  have C : Cx X RX0 cX0_next 3 (some FieldType.int) 0 0 := C
  have L2 : ∀ (x1 : Int32) (x2 : Int32) (t : Int32), f_X0_next_L2 n σ k x1 x2 = some t → t = t0 → J X 2 [(0, .ref (Xad X k)), (1, .int x1), (2, .int x2)] [] σ := by
    intro x1 x2 t hf hp
    unfold f_X0_next_L2 at hf
    refine J_iter (JJ := fun (s : Int32) => J X 2 [(0, .ref (Xad X k)), (1, .int x1), (2, .int s)] [] σ) (Ps := fun t => t = t0) ?_ n x2 t hf hp
    clear hf hp
    intro s t hf hp hq
    obtain ⟨x2, rfl⟩ : ∃ z, z = s := ⟨_, rfl⟩
    have hp := And.intro hp hq
    clear hq
    have hf : f_X0_next_B2 n σ k x1 x2 = some t := hf
    show J X 2 [(0, .ref (Xad X k)), (1, .int x1), (2, .int x2)] [] σ
    unfold f_X0_next_B2 at hf
    refine J.iload_n (pc := 2) C dX0_next_2 rfl 2 rfl ?_
    refine J.aload_n (pc := 3) C dX0_next_3 rfl 0 rfl ?_
    refine J.getI (pc := 4) C kcX0 hk 3 rfl tw_206 rfl dX0_next_4 ?_
    refine J.icmp_ge (pc := 7) C (tgt := 28) dX0_next_7 (by decide) hf (fun hf => ?_) (fun hf => ?_)
    · refine J.bipush (pc := 28) C (v := (-6)) dX0_next_28 (by decide) ?_
      exact J.iretP (pc := 30) C hR ((hp.1 _ (Option.some.inj hf).symm)) dX0_next_30
    · refine J.aload_n (pc := 10) C dX0_next_10 rfl 0 rfl ?_
      refine J.getR (pc := 11) C kcX0 hk 0 rfl tw_200 rfl dX0_next_11 ?_
      refine J.iload_n (pc := 14) C dX0_next_14 rfl 2 rfl ?_
      refine J.iald (pc := 15) C (ok_0_0 hcl hk) hf dX0_next_15 (fun hf => ?_)
      refine J.iload_n (pc := 16) C dX0_next_16 rfl 1 rfl ?_
      refine J.icmp_lt (pc := 17) C (tgt := 22) dX0_next_17 (by decide) hf (fun hf => ?_) (fun hf => ?_)
      · obtain ⟨x2_1, hx_x2_1, hf⟩ := nm_some hf
        refine J.iinc (pc := 22) C (v := x2_1) (loc' := [(2, .int x2_1), (0, .ref (Xad X k)), (1, .int x1)]) dX0_next_22 (k := 2) rfl (by rw [hx_x2_1]; rfl) (by decide) rfl ?_
        refine J.goto (pc := 25) C (tgt := 2) dX0_next_25 (by decide) ?_
        exact J.sub (loc' := [(0, .ref (Xad X k)), (1, .int x1), (2, .int x2_1)]) [1, 2, 0] rfl (hp.2 _ (Option.some.inj hf).symm)
      · refine J.iload_n (pc := 20) C dX0_next_20 rfl 2 rfl ?_
        exact J.iretP (pc := 21) C hR ((hp.1 _ (Option.some.inj hf).symm)) dX0_next_21
  have hp : t0 = t0 := rfl
  show J X 0 [(0, .ref (Xad X k)), (1, .int x1)] [] σ
  unfold f_X0_next at hf
  refine J.iconst (pc := 0) C (v := 0) dX0_next_0 (by decide) ?_
  refine J.istore_n (pc := 1) C (loc' := [(2, .int 0), (0, .ref (Xad X k)), (1, .int x1)]) dX0_next_1 rfl (by decide) rfl ?_
  exact J.sub (loc' := [(0, .ref (Xad X k)), (1, .int x1), (2, .int 0)]) [1, 2, 0] rfl (L2 x1 0 _ hf hp)
set_option maxHeartbeats 4000000 in
set_option maxRecDepth 100000 in
theorem m_X0_shift {l : Launch} {σ : Mem} {k : Nat} {x1 : Int32} {x2 : Int32} {x3 : Int32} {t0 : Mem} (hf : f_X0_shift σ k x1 x2 x3 = some t0) : Ct l yX0_shift cX0_shift 4 none 1 18 (fun ks => Ok ks k 0) (fun ad => [.ref (ad k), .int x1, .int x2, .int x3]) σ (fun _ => none) t0 := by
  refine Ct.of (plainFor_of_name (by decide)) (fun _ => Nat.le_of_ble_eq_true rfl) ?_
  intro X C _ hk hcl hR
  have C : Cx X RX0 cX0_shift 4 none 1 18 := C
  have hp : t0 = t0 := rfl
  show J X 0 [(0, .ref (Xad X k)), (1, .int x1), (2, .int x2), (3, .int x3)] [] σ
  unfold f_X0_shift at hf
  refine J.aload_n (pc := 0) C dX0_shift_0 rfl 0 rfl ?_
  refine J.getR (pc := 1) C kcX0 hk 0 rfl tw_200 rfl dX0_shift_1 ?_
  refine J.iload_n (pc := 4) C dX0_shift_4 rfl 1 rfl ?_
  refine J.aload_n (pc := 5) C dX0_shift_5 rfl 0 rfl ?_
  refine J.getR (pc := 6) C kcX0 hk 0 rfl tw_200 rfl dX0_shift_6 ?_
  refine J.iload_n (pc := 9) C dX0_shift_9 rfl 2 rfl ?_
  refine J.iload_n (pc := 10) C dX0_shift_10 rfl 3 rfl ?_
  refine J.acopyM (pc := 11) C tw_536 twac_n twac_s twac_i (Nat.le_of_ble_eq_true rfl) (Nat.le_of_ble_eq_true rfl) (ok_0_0 hcl hk) (ok_0_0 hcl hk) hf dX0_shift_11 (fun σ_1 hf => ?_)
  refine J.aload_n (pc := 14) C dX0_shift_14 rfl 0 rfl ?_
  refine J.getR (pc := 15) C kcX0 hk 1 rfl tw_202 rfl dX0_shift_15 ?_
  refine J.iload_n (pc := 18) C dX0_shift_18 rfl 1 rfl ?_
  refine J.aload_n (pc := 19) C dX0_shift_19 rfl 0 rfl ?_
  refine J.getR (pc := 20) C kcX0 hk 1 rfl tw_202 rfl dX0_shift_20 ?_
  refine J.iload_n (pc := 23) C dX0_shift_23 rfl 2 rfl ?_
  refine J.iload_n (pc := 24) C dX0_shift_24 rfl 3 rfl ?_
  refine J.acopyM (pc := 25) C tw_536 twac_n twac_s twac_i (Nat.le_of_ble_eq_true rfl) (Nat.le_of_ble_eq_true rfl) (ok_0_1 hcl hk) (ok_0_1 hcl hk) hf dX0_shift_25 (fun σ_2 hf => ?_)
  refine J.aload_n (pc := 28) C dX0_shift_28 rfl 0 rfl ?_
  refine J.getR (pc := 29) C kcX0 hk 2 rfl tw_204 rfl dX0_shift_29 ?_
  refine J.iload_n (pc := 32) C dX0_shift_32 rfl 1 rfl ?_
  refine J.aload_n (pc := 33) C dX0_shift_33 rfl 0 rfl ?_
  refine J.getR (pc := 34) C kcX0 hk 2 rfl tw_204 rfl dX0_shift_34 ?_
  refine J.iload_n (pc := 37) C dX0_shift_37 rfl 2 rfl ?_
  refine J.iload_n (pc := 38) C dX0_shift_38 rfl 3 rfl ?_
  refine J.acopyM (pc := 39) C tw_536 twac_n twac_s twac_i (Nat.le_of_ble_eq_true rfl) (Nat.le_of_ble_eq_true rfl) (ok_0_2 hcl hk) (ok_0_2 hcl hk) hf dX0_shift_39 (fun σ_3 hf => ?_)
  exact J.vretM (pc := 42) C hR ((Option.some.inj hf).trans hp) dX0_shift_42
set_option maxHeartbeats 4000000 in
set_option maxRecDepth 100000 in
theorem m_X0_insert {l : Launch} {n : Nat} {σ : Mem} {k : Nat} {x1 : Int32} {x2 : Int32} {x3 : Int32} {t0 : (Int32 × Mem)} (hf : f_X0_insert n σ k x1 x2 x3 = some t0) : Ct l yX0_insert cX0_insert 5 (some FieldType.int) 2 41 (fun ks => Ok ks k 0) (fun ad => [.ref (ad k), .int x1, .int x2, .int x3]) σ (fun _ => some (.int t0.1)) t0.2 := by
  refine Ct.of (plainFor_of_name (by decide)) (fun _ => Nat.le_of_ble_eq_true rfl) ?_
  intro X C _ hk hcl hR
  have C : Cx X RX0 cX0_insert 5 (some FieldType.int) 2 41 := C
  have L34 : ∀ (σ : Mem) (x1 : Int32) (x2 : Int32) (x3 : Int32) (x4 : Int32) (t : (Int32 × Mem)), f_X0_insert_L34 n σ k x1 x2 x3 x4 = some t → t = t0 → J X 34 [(0, .ref (Xad X k)), (1, .int x1), (2, .int x2), (3, .int x3), (4, .int x4)] [] σ := by
    intro σ x1 x2 x3 x4 t hf hp
    unfold f_X0_insert_L34 at hf
    refine J.aload_n (pc := 34) C dX0_insert_34 rfl 0 rfl ?_
    refine J.iload (pc := 35) C dX0_insert_35 4 rfl ?_
    refine J.iload (pc := 37) C dX0_insert_37 4 rfl ?_
    refine J.iconst (pc := 39) C (v := 1) dX0_insert_39 (by decide) ?_
    refine J.iadd (pc := 40) C dX0_insert_40 ?_
    refine J.aload_n (pc := 41) C dX0_insert_41 rfl 0 rfl ?_
    refine J.getI (pc := 42) C kcX0 hk 3 rfl tw_206 rfl dX0_insert_42 ?_
    refine J.iload (pc := 45) C dX0_insert_45 4 rfl ?_
    refine J.isub (pc := 47) C dX0_insert_47 ?_
    obtain ⟨σ_5, h_3, hf⟩ := bnd_some hf
    refine J.callV (pc := 48) C (m_X0_shift h_3) hk wyX0_shift tvX0_shift_i tvX0_shift_s tw_532 kcX0 rfl hk [.int x4, .int (x4 + 1), .int ((σ k 3) - x4)] [] rfl rfl (Nat.le_of_ble_eq_true rfl) (Nat.le_of_ble_eq_true rfl) (Nat.le_of_ble_eq_true rfl) (stk' := []) rfl dX0_insert_48 rfl ?_
    refine J.aload_n (pc := 51) C dX0_insert_51 rfl 0 rfl ?_
    refine J.getR (pc := 52) C kcX0 hk 0 rfl tw_200 rfl dX0_insert_52 ?_
    refine J.iload (pc := 55) C dX0_insert_55 4 rfl ?_
    refine J.iload_n (pc := 57) C dX0_insert_57 rfl 1 rfl ?_
    refine J.iastM (pc := 58) C (ok_0_0 hcl hk) hf dX0_insert_58 (fun σ_6 hf => ?_)
    refine J.aload_n (pc := 59) C dX0_insert_59 rfl 0 rfl ?_
    refine J.getR (pc := 60) C kcX0 hk 1 rfl tw_202 rfl dX0_insert_60 ?_
    refine J.iload (pc := 63) C dX0_insert_63 4 rfl ?_
    refine J.iload_n (pc := 65) C dX0_insert_65 rfl 2 rfl ?_
    refine J.iastM (pc := 66) C (ok_0_1 hcl hk) hf dX0_insert_66 (fun σ_7 hf => ?_)
    refine J.aload_n (pc := 67) C dX0_insert_67 rfl 0 rfl ?_
    refine J.getR (pc := 68) C kcX0 hk 2 rfl tw_204 rfl dX0_insert_68 ?_
    refine J.iload (pc := 71) C dX0_insert_71 4 rfl ?_
    refine J.iload_n (pc := 73) C dX0_insert_73 rfl 3 rfl ?_
    refine J.iastM (pc := 74) C (ok_0_2 hcl hk) hf dX0_insert_74 (fun σ_8 hf => ?_)
    refine J.aload_n (pc := 75) C dX0_insert_75 rfl 0 rfl ?_
    refine J.dup (pc := 76) C dX0_insert_76 rfl ?_
    refine J.getI (pc := 77) C kcX0 hk 3 rfl tw_206 rfl dX0_insert_77 ?_
    refine J.iconst (pc := 80) C (v := 1) dX0_insert_80 (by decide) ?_
    refine J.iadd (pc := 81) C dX0_insert_81 ?_
    refine J.putM (pc := 82) C kcX0 hk 3 rfl tw_206 rfl rfl rfl rfl hf dX0_insert_82 (fun σ_9 hf => ?_)
    refine J.iload (pc := 85) C dX0_insert_85 4 rfl ?_
    exact J.iretM (pc := 87) C hR ((Option.some.inj hf).trans hp) dX0_insert_87
  have hp : t0 = t0 := rfl
  show J X 0 [(0, .ref (Xad X k)), (1, .int x1), (2, .int x2), (3, .int x3)] [] σ
  unfold f_X0_insert at hf
  refine J.aload_n (pc := 0) C dX0_insert_0 rfl 0 rfl ?_
  refine J.getI (pc := 1) C kcX0 hk 3 rfl tw_206 rfl dX0_insert_1 ?_
  refine J.bipush (pc := 4) C (v := 60) dX0_insert_4 (by decide) ?_
  refine J.icmp_lt (pc := 6) C (tgt := 12) dX0_insert_6 (by decide) hf (fun hf => ?_) (fun hf => ?_)
  · refine J.aload_n (pc := 12) C dX0_insert_12 rfl 0 rfl ?_
    refine J.iload_n (pc := 13) C dX0_insert_13 rfl 1 rfl ?_
    refine J.iconst (pc := 14) C (v := 1) dX0_insert_14 (by decide) ?_
    refine J.iadd (pc := 15) C dX0_insert_15 ?_
    obtain ⟨r_2, h_1, hf⟩ := bnd_some hf
    refine J.callV (pc := 16) C (m_X0_next h_1) hk wyX0_next tvX0_next_i tvX0_next_s tw_531 kcX0 rfl hk [.int (x1 + 1)] [] rfl rfl (Nat.le_of_ble_eq_true rfl) (Nat.le_of_ble_eq_true rfl) (Nat.le_of_ble_eq_true rfl) (stk' := [.int r_2]) rfl dX0_insert_16 rfl ?_
    refine J.istore (pc := 19) C (loc' := [(4, .int r_2), (0, .ref (Xad X k)), (1, .int x1), (2, .int x2), (3, .int x3)]) dX0_insert_19 (by decide) rfl ?_
    refine J.iload (pc := 21) C dX0_insert_21 0 rfl ?_
    refine J.bipush (pc := 23) C (v := (-6)) dX0_insert_23 (by decide) ?_
    refine J.icmp_ne (pc := 25) C (tgt := 34) dX0_insert_25 (by decide) hf (fun hf => ?_) (fun hf => ?_)
    · exact J.sub (loc' := [(0, .ref (Xad X k)), (1, .int x1), (2, .int x2), (3, .int x3), (4, .int r_2)]) [1, 2, 3, 4, 0] rfl (L34 σ x1 x2 x3 r_2 _ hf hp)
    · refine J.aload_n (pc := 28) C dX0_insert_28 rfl 1 rfl ?_
      refine J.getI (pc := 29) C kcX0 hk 3 rfl tw_206 rfl dX0_insert_29 ?_
      refine J.nmI hf (fun x4_10 hf => ?_)
      refine J.istore (pc := 32) C (loc' := [(4, .int x4_10), (0, .ref (Xad X k)), (1, .int x1), (2, .int x2), (3, .int x3)]) dX0_insert_32 (by decide) rfl ?_
      exact J.sub (loc' := [(0, .ref (Xad X k)), (1, .int x1), (2, .int x2), (3, .int x3), (4, .int x4_10)]) [1, 2, 3, 4, 0] rfl (L34 σ x1 x2 x3 x4_10 _ hf hp)
  · refine J.bipush (pc := 9) C (v := (-4)) dX0_insert_9 (by decide) ?_
    exact J.iretM (pc := 11) C hR ((Option.some.inj hf).trans hp) dX0_insert_11
set_option maxHeartbeats 4000000 in
set_option maxRecDepth 100000 in
theorem m_X0_takeOut {l : Launch} {σ : Mem} {k : Nat} {x1 : Int32} {t0 : Mem} (hf : f_X0_takeOut σ k x1 = some t0) : Ct l yX0_takeOut cX0_takeOut 2 none 2 41 (fun ks => Ok ks k 0) (fun ad => [.ref (ad k), .int x1]) σ (fun _ => none) t0 := by
  refine Ct.of (plainFor_of_name (by decide)) (fun _ => Nat.le_of_ble_eq_true rfl) ?_
  intro X C _ hk hcl hR
  have C : Cx X RX0 cX0_takeOut 2 none 2 41 := C
  have hp : t0 = t0 := rfl
  show J X 0 [(0, .ref (Xad X k)), (1, .int x1)] [] σ
  unfold f_X0_takeOut at hf
  refine J.aload_n (pc := 0) C dX0_takeOut_0 rfl 0 rfl ?_
  refine J.iload_n (pc := 1) C dX0_takeOut_1 rfl 1 rfl ?_
  refine J.iconst (pc := 2) C (v := 1) dX0_takeOut_2 (by decide) ?_
  refine J.iadd (pc := 3) C dX0_takeOut_3 ?_
  refine J.iload_n (pc := 4) C dX0_takeOut_4 rfl 1 rfl ?_
  refine J.aload_n (pc := 5) C dX0_takeOut_5 rfl 0 rfl ?_
  refine J.getI (pc := 6) C kcX0 hk 3 rfl tw_206 rfl dX0_takeOut_6 ?_
  refine J.iload_n (pc := 9) C dX0_takeOut_9 rfl 1 rfl ?_
  refine J.isub (pc := 10) C dX0_takeOut_10 ?_
  refine J.iconst (pc := 11) C (v := 1) dX0_takeOut_11 (by decide) ?_
  refine J.isub (pc := 12) C dX0_takeOut_12 ?_
  obtain ⟨σ_3, h_1, hf⟩ := bnd_some hf
  refine J.callV (pc := 13) C (m_X0_shift h_1) hk wyX0_shift tvX0_shift_i tvX0_shift_s tw_532 kcX0 rfl hk [.int (x1 + 1), .int x1, .int (((σ k 3) - x1) - 1)] [] rfl rfl (Nat.le_of_ble_eq_true rfl) (Nat.le_of_ble_eq_true rfl) (Nat.le_of_ble_eq_true rfl) (stk' := []) rfl dX0_takeOut_13 rfl ?_
  refine J.aload_n (pc := 16) C dX0_takeOut_16 rfl 0 rfl ?_
  refine J.dup (pc := 17) C dX0_takeOut_17 rfl ?_
  refine J.getI (pc := 18) C kcX0 hk 3 rfl tw_206 rfl dX0_takeOut_18 ?_
  refine J.iconst (pc := 21) C (v := 1) dX0_takeOut_21 (by decide) ?_
  refine J.isub (pc := 22) C dX0_takeOut_22 ?_
  refine J.putM (pc := 23) C kcX0 hk 3 rfl tw_206 rfl rfl rfl rfl hf dX0_takeOut_23 (fun σ_4 hf => ?_)
  exact J.vretM (pc := 26) C hR ((Option.some.inj hf).trans hp) dX0_takeOut_26
set_option maxHeartbeats 4000000 in
set_option maxRecDepth 100000 in
theorem m_X0_postpone {l : Launch} {n : Nat} {σ : Mem} {k : Nat} {x1 : Int32} {x2 : Int32} {t0 : (Int32 × Mem)} (hf : f_X0_postpone n σ k x1 x2 = some t0) : Ct l yX0_postpone cX0_postpone 6 (some FieldType.int) 3 65 (fun ks => Ok ks k 0) (fun ad => [.ref (ad k), .int x1, .int x2]) σ (fun _ => some (.int t0.1)) t0.2 := by
  refine Ct.of (plainFor_of_name (by decide)) (fun _ => Nat.le_of_ble_eq_true rfl) ?_
  intro X C _ hk hcl hR
  have C : Cx X RX0 cX0_postpone 6 (some FieldType.int) 3 65 := C
  have hp : t0 = t0 := rfl
  show J X 0 [(0, .ref (Xad X k)), (1, .int x1), (2, .int x2)] [] σ
  unfold f_X0_postpone at hf
  refine J.aload_n (pc := 0) C dX0_postpone_0 rfl 0 rfl ?_
  refine J.getR (pc := 1) C kcX0 hk 0 rfl tw_200 rfl dX0_postpone_1 ?_
  refine J.iload_n (pc := 4) C dX0_postpone_4 rfl 1 rfl ?_
  refine J.iald (pc := 5) C (ok_0_0 hcl hk) hf dX0_postpone_5 (fun hf => ?_)
  refine J.iload_n (pc := 6) C dX0_postpone_6 rfl 2 rfl ?_
  refine J.iadd (pc := 7) C dX0_postpone_7 ?_
  refine J.nmI hf (fun x3_1 hf => ?_)
  refine J.istore_n (pc := 8) C (loc' := [(3, .int x3_1), (0, .ref (Xad X k)), (1, .int x1), (2, .int x2)]) dX0_postpone_8 rfl (by decide) rfl ?_
  refine J.aload_n (pc := 9) C dX0_postpone_9 rfl 1 rfl ?_
  refine J.getR (pc := 10) C kcX0 hk 1 rfl tw_202 rfl dX0_postpone_10 ?_
  refine J.iload_n (pc := 13) C dX0_postpone_13 rfl 2 rfl ?_
  refine J.iald (pc := 14) C (ok_0_1 hcl hk) hf dX0_postpone_14 (fun hf => ?_)
  refine J.nmI hf (fun x4_2 hf => ?_)
  refine J.istore (pc := 15) C (loc' := [(4, .int x4_2), (3, .int x3_1), (0, .ref (Xad X k)), (1, .int x1), (2, .int x2)]) dX0_postpone_15 (by decide) rfl ?_
  refine J.aload_n (pc := 17) C dX0_postpone_17 rfl 2 rfl ?_
  refine J.getR (pc := 18) C kcX0 hk 2 rfl tw_204 rfl dX0_postpone_18 ?_
  refine J.iload_n (pc := 21) C dX0_postpone_21 rfl 3 rfl ?_
  refine J.iald (pc := 22) C (ok_0_2 hcl hk) hf dX0_postpone_22 (fun hf => ?_)
  refine J.nmI hf (fun x5_3 hf => ?_)
  refine J.istore (pc := 23) C (loc' := [(5, .int x5_3), (4, .int x4_2), (3, .int x3_1), (0, .ref (Xad X k)), (1, .int x1), (2, .int x2)]) dX0_postpone_23 (by decide) rfl ?_
  refine J.aload_n (pc := 25) C dX0_postpone_25 rfl 3 rfl ?_
  refine J.iload_n (pc := 26) C dX0_postpone_26 rfl 4 rfl ?_
  obtain ⟨σ_6, h_4, hf⟩ := bnd_some hf
  refine J.callV (pc := 27) C (m_X0_takeOut h_4) hk wyX0_takeOut tvX0_takeOut_i tvX0_takeOut_s tw_564 kcX0 rfl hk [.int x1] [] rfl rfl (Nat.le_of_ble_eq_true rfl) (Nat.le_of_ble_eq_true rfl) (Nat.le_of_ble_eq_true rfl) (stk' := []) rfl dX0_postpone_27 rfl ?_
  refine J.aload_n (pc := 30) C dX0_postpone_30 rfl 3 rfl ?_
  refine J.iload_n (pc := 31) C dX0_postpone_31 rfl 2 rfl ?_
  refine J.iload (pc := 32) C dX0_postpone_32 1 rfl ?_
  refine J.iload (pc := 34) C dX0_postpone_34 0 rfl ?_
  obtain ⟨r_8, σ_9, h_7, hf⟩ := bnd2_some hf
  refine J.callV (pc := 36) C (m_X0_insert h_7) hk wyX0_insert tvX0_insert_i tvX0_insert_s tw_568 kcX0 rfl hk [.int x3_1, .int x4_2, .int x5_3] [] rfl rfl (Nat.le_of_ble_eq_true rfl) (Nat.le_of_ble_eq_true rfl) (Nat.le_of_ble_eq_true rfl) (stk' := [.int r_8]) rfl dX0_postpone_36 rfl ?_
  exact J.iretM (pc := 39) C hR ((Option.some.inj hf).trans hp) dX0_postpone_39
set_option maxHeartbeats 4000000 in
set_option maxRecDepth 100000 in
theorem m_X1_obey {l : Launch} {n : Nat} {σ : Mem} {k : Nat} {x1 : Int32} {x2 : Int32} {t0 : Mem} (hf : f_X1_obey n σ k x1 x2 = some t0) : Ct l yX1_obey cX1_obey 4 none 0 0 (fun ks => Ok ks k 1) (fun ad => [.ref (ad k), .int x1, .int x2]) σ (fun _ => none) t0 := by
  refine Ct.of (plainFor_of_name (by decide)) (fun _ => Nat.le_of_ble_eq_true rfl) ?_
  intro X C _ hk hcl hR
  have C : Cx X RX1 cX1_obey 4 none 0 0 := C
  have L2 : ∀ (σ : Mem) (x1 : Int32) (x2 : Int32) (x3 : Int32) (t : Mem), f_X1_obey_L2 n σ k x1 x2 x3 = some t → t = t0 → J X 2 [(0, .ref (Xad X k)), (1, .int x1), (2, .int x2), (3, .int x3)] [] σ := by
    intro σ x1 x2 x3 t hf hp
    unfold f_X1_obey_L2 at hf
    refine J_iter (JJ := fun (s : Mem × Int32) => J X 2 [(0, .ref (Xad X k)), (1, .int x1), (2, .int x2), (3, .int (s.2))] [] s.1) (Ps := fun t => t = t0) ?_ n (σ, x3) t hf hp
    clear hf hp
    intro s t hf hp hq
    obtain ⟨σ, x3⟩ := s
    have hp := And.intro hp hq
    clear hq
    have hf : f_X1_obey_B2 n σ k x1 x2 x3 = some t := hf
    show J X 2 [(0, .ref (Xad X k)), (1, .int x1), (2, .int x2), (3, .int x3)] [] σ
    unfold f_X1_obey_B2 at hf
    refine J.iload_n (pc := 2) C dX1_obey_2 rfl 3 rfl ?_
    refine J.aload_n (pc := 3) C dX1_obey_3 rfl 0 rfl ?_
    refine J.getI (pc := 4) C kcX1 hk 8 rfl tw_113 rfl dX1_obey_4 ?_
    refine J.icmp_ge (pc := 7) C (tgt := 32) dX1_obey_7 (by decide) hf (fun hf => ?_) (fun hf => ?_)
    · exact J.vretM (pc := 32) C hR ((hp.1 _ (Option.some.inj hf).symm)) dX1_obey_32
    · refine J.iload_n (pc := 10) C dX1_obey_10 rfl 1 rfl ?_
      refine J.iload_n (pc := 11) C dX1_obey_11 rfl 3 rfl ?_
      refine J.ishr (pc := 12) C dX1_obey_12 ?_
      refine J.iconst (pc := 13) C (v := 1) dX1_obey_13 (by decide) ?_
      refine J.iand (pc := 14) C dX1_obey_14 ?_
      refine J.iconst (pc := 15) C (v := 1) dX1_obey_15 (by decide) ?_
      refine J.icmp_ne (pc := 16) C (tgt := 26) dX1_obey_16 (by decide) hf (fun hf => ?_) (fun hf => ?_)
      · obtain ⟨x3_1, hx_x3_1, hf⟩ := nm_some hf
        refine J.iinc (pc := 26) C (v := x3_1) (loc' := [(3, .int x3_1), (0, .ref (Xad X k)), (1, .int x1), (2, .int x2)]) dX1_obey_26 (k := 3) rfl (by rw [hx_x3_1]; rfl) (by decide) rfl ?_
        refine J.goto (pc := 29) C (tgt := 2) dX1_obey_29 (by decide) ?_
        exact J.sub (loc' := [(0, .ref (Xad X k)), (1, .int x1), (2, .int x2), (3, .int x3_1)]) [1, 2, 3, 0] rfl (hp.2 _ (Option.some.inj hf).symm)
      · refine J.aload_n (pc := 19) C dX1_obey_19 rfl 0 rfl ?_
        refine J.getR (pc := 20) C kcX1 hk 1 rfl tw_100 rfl dX1_obey_20 ?_
        refine J.iload_n (pc := 23) C dX1_obey_23 rfl 3 rfl ?_
        refine J.iload_n (pc := 24) C dX1_obey_24 rfl 2 rfl ?_
        refine J.iastM (pc := 25) C (ok_1_1 hcl hk) hf dX1_obey_25 (fun σ_2 hf => ?_)
        obtain ⟨x3_3, hx_x3_3, hf⟩ := nm_some hf
        refine J.iinc (pc := 26) C (v := x3_3) (loc' := [(3, .int x3_3), (0, .ref (Xad X k)), (1, .int x1), (2, .int x2)]) dX1_obey_26 (k := 3) rfl (by rw [hx_x3_3]; rfl) (by decide) rfl ?_
        refine J.goto (pc := 29) C (tgt := 2) dX1_obey_29 (by decide) ?_
        exact J.sub (loc' := [(0, .ref (Xad X k)), (1, .int x1), (2, .int x2), (3, .int x3_3)]) [1, 2, 3, 0] rfl (hp.2 _ (Option.some.inj hf).symm)
  have hp : t0 = t0 := rfl
  show J X 0 [(0, .ref (Xad X k)), (1, .int x1), (2, .int x2)] [] σ
  unfold f_X1_obey at hf
  refine J.iconst (pc := 0) C (v := 0) dX1_obey_0 (by decide) ?_
  refine J.istore_n (pc := 1) C (loc' := [(3, .int 0), (0, .ref (Xad X k)), (1, .int x1), (2, .int x2)]) dX1_obey_1 rfl (by decide) rfl ?_
  exact J.sub (loc' := [(0, .ref (Xad X k)), (1, .int x1), (2, .int x2), (3, .int 0)]) [1, 2, 3, 0] rfl (L2 σ x1 x2 0 _ hf hp)
set_option maxHeartbeats 4000000 in
set_option maxRecDepth 100000 in
theorem m_X0_carryOut {l : Launch} {n : Nat} {σ : Mem} {k : Nat} {x2 : Nat} {x1 : Int32} {t0 : Mem} (hf : f_X0_carryOut n σ k x2 x1 = some t0) : Ct l yX0_carryOut cX0_carryOut 4 none 1 23 (fun ks => Ok ks k 0 ∧ Ok ks x2 1) (fun ad => [.ref (ad k), .int x1, .ref (ad x2)]) σ (fun _ => none) t0 := by
  refine Ct.of (plainFor_of_name (by decide)) (fun _ => Nat.le_of_ble_eq_true rfl) ?_
  intro X C _ hok hcl hR
  obtain ⟨hk, hx2⟩ := hok
  have C : Cx X RX0 cX0_carryOut 4 none 1 23 := C
  have L2 : ∀ (σ : Mem) (x1 : Int32) (x3 : Int32) (t : Mem), f_X0_carryOut_L2 n σ k x2 x1 x3 = some t → t = t0 → J X 2 [(0, .ref (Xad X k)), (1, .int x1), (2, .ref (Xad X x2)), (3, .int x3)] [] σ := by
    intro σ x1 x3 t hf hp
    unfold f_X0_carryOut_L2 at hf
    refine J_iter (JJ := fun (s : Mem × Int32) => J X 2 [(0, .ref (Xad X k)), (1, .int x1), (2, .ref (Xad X x2)), (3, .int (s.2))] [] s.1) (Ps := fun t => t = t0) ?_ n (σ, x3) t hf hp
    clear hf hp
    intro s t hf hp hq
    obtain ⟨σ, x3⟩ := s
    have hp := And.intro hp hq
    clear hq
    have hf : f_X0_carryOut_B2 n σ k x2 x1 x3 = some t := hf
    show J X 2 [(0, .ref (Xad X k)), (1, .int x1), (2, .ref (Xad X x2)), (3, .int x3)] [] σ
    unfold f_X0_carryOut_B2 at hf
    refine J.iload_n (pc := 2) C dX0_carryOut_2 rfl 3 rfl ?_
    refine J.aload_n (pc := 3) C dX0_carryOut_3 rfl 0 rfl ?_
    refine J.getI (pc := 4) C kcX0 hk 3 rfl tw_206 rfl dX0_carryOut_4 ?_
    refine J.icmp_ge (pc := 7) C (tgt := 52) dX0_carryOut_7 (by decide) hf (fun hf => ?_) (fun hf => ?_)
    · exact J.vretM (pc := 52) C hR ((hp.1 _ (Option.some.inj hf).symm)) dX0_carryOut_52
    · refine J.aload_n (pc := 10) C dX0_carryOut_10 rfl 0 rfl ?_
      refine J.getR (pc := 11) C kcX0 hk 0 rfl tw_200 rfl dX0_carryOut_11 ?_
      refine J.iload_n (pc := 14) C dX0_carryOut_14 rfl 3 rfl ?_
      refine J.iald (pc := 15) C (ok_0_0 hcl hk) hf dX0_carryOut_15 (fun hf => ?_)
      refine J.iload_n (pc := 16) C dX0_carryOut_16 rfl 1 rfl ?_
      refine J.icmp_gt (pc := 17) C (tgt := 52) dX0_carryOut_17 (by decide) hf (fun hf => ?_) (fun hf => ?_)
      · exact J.vretM (pc := 52) C hR ((hp.1 _ (Option.some.inj hf).symm)) dX0_carryOut_52
      · refine J.aload_n (pc := 20) C dX0_carryOut_20 rfl 0 rfl ?_
        refine J.getR (pc := 21) C kcX0 hk 0 rfl tw_200 rfl dX0_carryOut_21 ?_
        refine J.iload_n (pc := 24) C dX0_carryOut_24 rfl 3 rfl ?_
        refine J.iald (pc := 25) C (ok_0_0 hcl hk) hf dX0_carryOut_25 (fun hf => ?_)
        refine J.iload_n (pc := 26) C dX0_carryOut_26 rfl 1 rfl ?_
        refine J.icmp_ne (pc := 27) C (tgt := 46) dX0_carryOut_27 (by decide) hf (fun hf => ?_) (fun hf => ?_)
        · obtain ⟨x3_1, hx_x3_1, hf⟩ := nm_some hf
          refine J.iinc (pc := 46) C (v := x3_1) (loc' := [(3, .int x3_1), (0, .ref (Xad X k)), (1, .int x1), (2, .ref (Xad X x2))]) dX0_carryOut_46 (k := 3) rfl (by rw [hx_x3_1]; rfl) (by decide) rfl ?_
          refine J.goto (pc := 49) C (tgt := 2) dX0_carryOut_49 (by decide) ?_
          exact J.sub (loc' := [(0, .ref (Xad X k)), (1, .int x1), (2, .ref (Xad X x2)), (3, .int x3_1)]) [1, 2, 3, 0] rfl (hp.2 _ (Option.some.inj hf).symm)
        · refine J.aload_n (pc := 30) C dX0_carryOut_30 rfl 2 rfl ?_
          refine J.aload_n (pc := 31) C dX0_carryOut_31 rfl 0 rfl ?_
          refine J.getR (pc := 32) C kcX0 hk 1 rfl tw_202 rfl dX0_carryOut_32 ?_
          refine J.iload_n (pc := 35) C dX0_carryOut_35 rfl 3 rfl ?_
          refine J.iald (pc := 36) C (ok_0_1 hcl hk) hf dX0_carryOut_36 (fun hf => ?_)
          refine J.aload_n (pc := 37) C dX0_carryOut_37 rfl 0 rfl ?_
          refine J.getR (pc := 38) C kcX0 hk 2 rfl tw_204 rfl dX0_carryOut_38 ?_
          refine J.iload_n (pc := 41) C dX0_carryOut_41 rfl 3 rfl ?_
          refine J.iald (pc := 42) C (ok_0_2 hcl hk) hf dX0_carryOut_42 (fun hf => ?_)
          obtain ⟨σ_4, h_2, hf⟩ := bnd_some hf
          refine J.callV (pc := 43) C (m_X1_obey h_2) hx2 wyX1_obey tvX1_obey_i tvX1_obey_s tw_424 kcX1 rfl hx2 [.int (σ (ptr k 1) (ix x3)), .int (σ (ptr k 2) (ix x3))] [] rfl rfl (Nat.le_of_ble_eq_true rfl) (Nat.le_of_ble_eq_true rfl) (Nat.le_of_ble_eq_true rfl) (stk' := []) rfl dX0_carryOut_43 rfl ?_
          obtain ⟨x3_5, hx_x3_5, hf⟩ := nm_some hf
          refine J.iinc (pc := 46) C (v := x3_5) (loc' := [(3, .int x3_5), (0, .ref (Xad X k)), (1, .int x1), (2, .ref (Xad X x2))]) dX0_carryOut_46 (k := 3) rfl (by rw [hx_x3_5]; rfl) (by decide) rfl ?_
          refine J.goto (pc := 49) C (tgt := 2) dX0_carryOut_49 (by decide) ?_
          exact J.sub (loc' := [(0, .ref (Xad X k)), (1, .int x1), (2, .ref (Xad X x2)), (3, .int x3_5)]) [1, 2, 3, 0] rfl (hp.2 _ (Option.some.inj hf).symm)
  have hp : t0 = t0 := rfl
  show J X 0 [(0, .ref (Xad X k)), (1, .int x1), (2, .ref (Xad X x2))] [] σ
  unfold f_X0_carryOut at hf
  refine J.iconst (pc := 0) C (v := 0) dX0_carryOut_0 (by decide) ?_
  refine J.istore_n (pc := 1) C (loc' := [(3, .int 0), (0, .ref (Xad X k)), (1, .int x1), (2, .ref (Xad X x2))]) dX0_carryOut_1 rfl (by decide) rfl ?_
  exact J.sub (loc' := [(0, .ref (Xad X k)), (1, .int x1), (2, .ref (Xad X x2)), (3, .int 0)]) [1, 2, 3, 0] rfl (L2 σ x1 0 _ hf hp)
set_option maxHeartbeats 4000000 in
set_option maxRecDepth 100000 in
theorem m_X1_has {l : Launch} {σ : Mem} {k : Nat} {x1 : Int32} {t0 : Int32} (hf : f_X1_has σ k x1 = some t0) : Ct l yX1_has cX1_has 2 (some FieldType.boolean) 1 22 (fun ks => Ok ks k 1) (fun ad => [.ref (ad k), .int x1]) σ (fun _ => some (.int t0)) σ := by
  refine Ct.of (plainFor_of_name (by decide)) (fun _ => Nat.le_of_ble_eq_true rfl) ?_
  intro X C _ hk hcl hR
  have C : Cx X RX1 cX1_has 2 (some FieldType.boolean) 1 22 := C
  have hp : t0 = t0 := rfl
  show J X 0 [(0, .ref (Xad X k)), (1, .int x1)] [] σ
  unfold f_X1_has at hf
  refine J.iload_n (pc := 0) C dX1_has_0 rfl 1 rfl ?_
  refine J.iconst (pc := 1) C (v := 0) dX1_has_1 (by decide) ?_
  refine J.aload_n (pc := 2) C dX1_has_2 rfl 0 rfl ?_
  refine J.getI (pc := 3) C kcX1 hk 8 rfl tw_113 rfl dX1_has_3 ?_
  refine J.iconst (pc := 6) C (v := 1) dX1_has_6 (by decide) ?_
  refine J.isub (pc := 7) C dX1_has_7 ?_
  obtain ⟨r_2, h_1, hf⟩ := bnd_some hf
  refine J.callSN (pc := 8) C (m_X8_within h_1) trivial wyX8_within tsX8_within tn_359 [.int x1, .int 0, .int ((σ k 8) - 1)] [] rfl rfl (Nat.le_of_ble_eq_true rfl) (Nat.le_of_ble_eq_true rfl) (Nat.le_of_ble_eq_true rfl) (stk' := [.int r_2]) rfl dX1_has_8 rfl ?_
  obtain ⟨hbit, hf⟩ := chk_some hf
  exact J.zretP (pc := 11) C (bit_nar hbit) hR ((Option.some.inj hf).trans hp) dX1_has_11
set_option maxHeartbeats 4000000 in
set_option maxRecDepth 100000 in
theorem m_X4_reset {l : Launch} {n : Nat} {σ : Mem} {k : Nat} {t0 : Mem} (hf : f_X4_reset n σ k = some t0) : Ct l yX4_reset cX4_reset 2 none 1 18 (fun ks => Ok ks k 4) (fun ad => [.ref (ad k)]) σ (fun _ => none) t0 := by
  refine Ct.of (plainFor_of_name (by decide)) (fun _ => Nat.le_of_ble_eq_true rfl) ?_
  intro X C _ hk hcl hR
  have C : Cx X RX4 cX4_reset 2 none 1 18 := C
  have L2 : ∀ (σ : Mem) (x1 : Int32) (t : Mem), f_X4_reset_L2 n σ k x1 = some t → t = t0 → J X 2 [(0, .ref (Xad X k)), (1, .int x1)] [] σ := by
    intro σ x1 t hf hp
    unfold f_X4_reset_L2 at hf
    refine J_iter (JJ := fun (s : Mem × Int32) => J X 2 [(0, .ref (Xad X k)), (1, .int (s.2))] [] s.1) (Ps := fun t => t = t0) ?_ n (σ, x1) t hf hp
    clear hf hp
    intro s t hf hp hq
    obtain ⟨σ, x1⟩ := s
    have hp := And.intro hp hq
    clear hq
    have hf : f_X4_reset_B2 n σ k x1 = some t := hf
    show J X 2 [(0, .ref (Xad X k)), (1, .int x1)] [] σ
    unfold f_X4_reset_B2 at hf
    refine J.iload_n (pc := 2) C dX4_reset_2 rfl 1 rfl ?_
    refine J.aload_n (pc := 3) C dX4_reset_3 rfl 0 rfl ?_
    refine J.getI (pc := 4) C kcX4 hk 3 rfl tw_70 rfl dX4_reset_4 ?_
    refine J.icmp_ge (pc := 7) C (tgt := 40) dX4_reset_7 (by decide) hf (fun hf => ?_) (fun hf => ?_)
    · exact J.vretM (pc := 40) C hR ((hp.1 _ (Option.some.inj hf).symm)) dX4_reset_40
    · refine J.aload_n (pc := 10) C dX4_reset_10 rfl 0 rfl ?_
      refine J.getR (pc := 11) C kcX4 hk 2 rfl tw_69 rfl dX4_reset_11 ?_
      refine J.iconst (pc := 14) C (v := 0) dX4_reset_14 (by decide) ?_
      refine J.aload_n (pc := 15) C dX4_reset_15 rfl 0 rfl ?_
      refine J.getR (pc := 16) C kcX4 hk 4 rfl tw_71 rfl dX4_reset_16 ?_
      refine J.iload_n (pc := 19) C dX4_reset_19 rfl 1 rfl ?_
      refine J.aload_n (pc := 20) C dX4_reset_20 rfl 0 rfl ?_
      refine J.getR (pc := 21) C kcX4 hk 2 rfl tw_69 rfl dX4_reset_21 ?_
      refine J.srrlen (pc := 24) C (st_4_2 hk) dX4_reset_24 ?_
      refine J.imul (pc := 25) C dX4_reset_25 ?_
      refine J.aload_n (pc := 26) C dX4_reset_26 rfl 0 rfl ?_
      refine J.getR (pc := 27) C kcX4 hk 2 rfl tw_69 rfl dX4_reset_27 ?_
      refine J.srrlen (pc := 30) C (st_4_2 hk) dX4_reset_30 ?_
      refine J.scopyM (pc := 31) C tw_64 twac_n twac_s twac_i (Nat.le_of_ble_eq_true rfl) (Nat.le_of_ble_eq_true rfl) (st_4_2 hk) (ok_4_4 hcl hk) hf dX4_reset_31 (fun σ_1 hf => ?_)
      obtain ⟨x1_2, hx_x1_2, hf⟩ := nm_some hf
      refine J.iinc (pc := 34) C (v := x1_2) (loc' := [(1, .int x1_2), (0, .ref (Xad X k))]) dX4_reset_34 (k := 1) rfl (by rw [hx_x1_2]; rfl) (by decide) rfl ?_
      refine J.goto (pc := 37) C (tgt := 2) dX4_reset_37 (by decide) ?_
      exact J.sub (loc' := [(0, .ref (Xad X k)), (1, .int x1_2)]) [1, 0] rfl (hp.2 _ (Option.some.inj hf).symm)
  have hp : t0 = t0 := rfl
  show J X 0 [(0, .ref (Xad X k))] [] σ
  unfold f_X4_reset at hf
  refine J.iconst (pc := 0) C (v := 0) dX4_reset_0 (by decide) ?_
  refine J.istore_n (pc := 1) C (loc' := [(1, .int 0), (0, .ref (Xad X k))]) dX4_reset_1 rfl (by decide) rfl ?_
  exact J.sub (loc' := [(0, .ref (Xad X k)), (1, .int 0)]) [1, 0] rfl (L2 σ 0 _ hf hp)
set_option maxHeartbeats 4000000 in
set_option maxRecDepth 100000 in
theorem m_X1_begin {l : Launch} {n : Nat} {σ : Mem} {k : Nat} {x1 : Int32} {t0 : Mem} (hf : f_X1_begin n σ k x1 = some t0) : Ct l yX1_begin cX1_begin 2 none 2 39 (fun ks => Ok ks k 1) (fun ad => [.ref (ad k), .int x1]) σ (fun _ => none) t0 := by
  refine Ct.of (plainFor_of_name (by decide)) (fun _ => Nat.le_of_ble_eq_true rfl) ?_
  intro X C _ hk hcl hR
  have C : Cx X RX1 cX1_begin 2 none 2 39 := C
  have hp : t0 = t0 := rfl
  show J X 0 [(0, .ref (Xad X k)), (1, .int x1)] [] σ
  unfold f_X1_begin at hf
  refine J.aload_n (pc := 0) C dX1_begin_0 rfl 0 rfl ?_
  refine J.iload_n (pc := 1) C dX1_begin_1 rfl 1 rfl ?_
  refine J.putM (pc := 2) C kcX1 hk 8 rfl tw_113 rfl rfl rfl rfl hf dX1_begin_2 (fun σ_1 hf => ?_)
  refine J.aload_n (pc := 5) C dX1_begin_5 rfl 0 rfl ?_
  refine J.getR (pc := 6) C kcX1 hk 0 rfl tw_98 rfl dX1_begin_6 ?_
  obtain ⟨σ_4, h_2, hf⟩ := bnd_some hf
  refine J.callV (pc := 9) C (m_X4_reset h_2) (ok_1_0 hcl hk) wyX4_reset tvX4_reset_i tvX4_reset_s tw_330 kcX4 rfl (ok_1_0 hcl hk) [] [] rfl rfl (Nat.le_of_ble_eq_true rfl) (Nat.le_of_ble_eq_true rfl) (Nat.le_of_ble_eq_true rfl) (stk' := []) rfl dX1_begin_9 rfl ?_
  exact J.vretM (pc := 12) C hR ((Option.some.inj hf).trans hp) dX1_begin_12
set_option maxHeartbeats 4000000 in
set_option maxRecDepth 100000 in
theorem m_X8_clear {l : Launch} {n : Nat} {σ : Mem} {x0 : Nat} {t0 : Mem} (hf : f_X8_clear n σ x0 = some t0) : Ct l yX8_clear cX8_clear 2 none 0 0 (fun ks => Ok ks x0 100) (fun ad => [.ref (ad x0)]) σ (fun _ => none) t0 := by
  refine Ct.of (plainFor_of_name (by decide)) (fun _ => Nat.le_of_ble_eq_true rfl) ?_
  intro X C _ hx0 hcl hR
  have C : Cx X RX8 cX8_clear 2 none 0 0 := C
  have L2 : ∀ (σ : Mem) (x1 : Int32) (t : Mem), f_X8_clear_L2 n σ x0 x1 = some t → t = t0 → J X 2 [(0, .ref (Xad X x0)), (1, .int x1)] [] σ := by
    intro σ x1 t hf hp
    unfold f_X8_clear_L2 at hf
    refine J_iter (JJ := fun (s : Mem × Int32) => J X 2 [(0, .ref (Xad X x0)), (1, .int (s.2))] [] s.1) (Ps := fun t => t = t0) ?_ n (σ, x1) t hf hp
    clear hf hp
    intro s t hf hp hq
    obtain ⟨σ, x1⟩ := s
    have hp := And.intro hp hq
    clear hq
    have hf : f_X8_clear_B2 n σ x0 x1 = some t := hf
    show J X 2 [(0, .ref (Xad X x0)), (1, .int x1)] [] σ
    unfold f_X8_clear_B2 at hf
    refine J.iload_n (pc := 2) C dX8_clear_2 rfl 1 rfl ?_
    refine J.aload_n (pc := 3) C dX8_clear_3 rfl 0 rfl ?_
    refine J.arrlen (pc := 4) C hx0 dX8_clear_4 ?_
    refine J.icmp_ge (pc := 5) C (tgt := 18) dX8_clear_5 (by decide) hf (fun hf => ?_) (fun hf => ?_)
    · exact J.vretM (pc := 18) C hR ((hp.1 _ (Option.some.inj hf).symm)) dX8_clear_18
    · refine J.aload_n (pc := 8) C dX8_clear_8 rfl 0 rfl ?_
      refine J.iload_n (pc := 9) C dX8_clear_9 rfl 1 rfl ?_
      refine J.iconst (pc := 10) C (v := 0) dX8_clear_10 (by decide) ?_
      refine J.iastM (pc := 11) C hx0 hf dX8_clear_11 (fun σ_1 hf => ?_)
      obtain ⟨x1_2, hx_x1_2, hf⟩ := nm_some hf
      refine J.iinc (pc := 12) C (v := x1_2) (loc' := [(1, .int x1_2), (0, .ref (Xad X x0))]) dX8_clear_12 (k := 1) rfl (by rw [hx_x1_2]; rfl) (by decide) rfl ?_
      refine J.goto (pc := 15) C (tgt := 2) dX8_clear_15 (by decide) ?_
      exact J.sub (loc' := [(0, .ref (Xad X x0)), (1, .int x1_2)]) [1, 0] rfl (hp.2 _ (Option.some.inj hf).symm)
  have hp : t0 = t0 := rfl
  show J X 0 [(0, .ref (Xad X x0))] [] σ
  unfold f_X8_clear at hf
  refine J.iconst (pc := 0) C (v := 0) dX8_clear_0 (by decide) ?_
  refine J.istore_n (pc := 1) C (loc' := [(1, .int 0), (0, .ref (Xad X x0))]) dX8_clear_1 rfl (by decide) rfl ?_
  exact J.sub (loc' := [(0, .ref (Xad X x0)), (1, .int 0)]) [1, 0] rfl (L2 σ 0 _ hf hp)
set_option maxHeartbeats 4000000 in
set_option maxRecDepth 100000 in
theorem m_X1_goBack {l : Launch} {n : Nat} {σ : Mem} {k : Nat} {t0 : Mem} (hf : f_X1_goBack n σ k = some t0) : Ct l yX1_goBack cX1_goBack 1 none 1 21 (fun ks => Ok ks k 1) (fun ad => [.ref (ad k)]) σ (fun _ => none) t0 := by
  refine Ct.of (plainFor_of_name (by decide)) (fun _ => Nat.le_of_ble_eq_true rfl) ?_
  intro X C _ hk hcl hR
  have C : Cx X RX1 cX1_goBack 1 none 1 21 := C
  have hp : t0 = t0 := rfl
  show J X 0 [(0, .ref (Xad X k))] [] σ
  unfold f_X1_goBack at hf
  refine J.aload_n (pc := 0) C dX1_goBack_0 rfl 0 rfl ?_
  refine J.getR (pc := 1) C kcX1 hk 1 rfl tw_100 rfl dX1_goBack_1 ?_
  obtain ⟨σ_3, h_1, hf⟩ := bnd_some hf
  refine J.callSN (pc := 4) C (m_X8_clear h_1) (ok_1_1 hcl hk) wyX8_clear tsX8_clear tn_339 [.ref (Xad X (ptr k 1))] [] rfl rfl (Nat.le_of_ble_eq_true rfl) (Nat.le_of_ble_eq_true rfl) (Nat.le_of_ble_eq_true rfl) (stk' := []) rfl dX1_goBack_4 rfl ?_
  refine J.aload_n (pc := 7) C dX1_goBack_7 rfl 0 rfl ?_
  refine J.getR (pc := 8) C kcX1 hk 2 rfl tw_102 rfl dX1_goBack_8 ?_
  obtain ⟨σ_6, h_4, hf⟩ := bnd_some hf
  refine J.callSN (pc := 11) C (m_X8_clear h_4) (ok_1_2 hcl hk) wyX8_clear tsX8_clear tn_339 [.ref (Xad X (ptr k 2))] [] rfl rfl (Nat.le_of_ble_eq_true rfl) (Nat.le_of_ble_eq_true rfl) (Nat.le_of_ble_eq_true rfl) (stk' := []) rfl dX1_goBack_11 rfl ?_
  refine J.aload_n (pc := 14) C dX1_goBack_14 rfl 0 rfl ?_
  refine J.getR (pc := 15) C kcX1 hk 3 rfl tw_104 rfl dX1_goBack_15 ?_
  obtain ⟨σ_9, h_7, hf⟩ := bnd_some hf
  refine J.callSN (pc := 18) C (m_X8_clear h_7) (ok_1_3 hcl hk) wyX8_clear tsX8_clear tn_339 [.ref (Xad X (ptr k 3))] [] rfl rfl (Nat.le_of_ble_eq_true rfl) (Nat.le_of_ble_eq_true rfl) (Nat.le_of_ble_eq_true rfl) (stk' := []) rfl dX1_goBack_18 rfl ?_
  refine J.aload_n (pc := 21) C dX1_goBack_21 rfl 0 rfl ?_
  refine J.getR (pc := 22) C kcX1 hk 4 rfl tw_106 rfl dX1_goBack_22 ?_
  obtain ⟨σ_12, h_10, hf⟩ := bnd_some hf
  refine J.callSN (pc := 25) C (m_X8_clear h_10) (ok_1_4 hcl hk) wyX8_clear tsX8_clear tn_339 [.ref (Xad X (ptr k 4))] [] rfl rfl (Nat.le_of_ble_eq_true rfl) (Nat.le_of_ble_eq_true rfl) (Nat.le_of_ble_eq_true rfl) (stk' := []) rfl dX1_goBack_25 rfl ?_
  refine J.aload_n (pc := 28) C dX1_goBack_28 rfl 0 rfl ?_
  refine J.getR (pc := 29) C kcX1 hk 5 rfl tw_108 rfl dX1_goBack_29 ?_
  obtain ⟨σ_15, h_13, hf⟩ := bnd_some hf
  refine J.callSN (pc := 32) C (m_X8_clear h_13) (ok_1_5 hcl hk) wyX8_clear tsX8_clear tn_339 [.ref (Xad X (ptr k 5))] [] rfl rfl (Nat.le_of_ble_eq_true rfl) (Nat.le_of_ble_eq_true rfl) (Nat.le_of_ble_eq_true rfl) (stk' := []) rfl dX1_goBack_32 rfl ?_
  refine J.aload_n (pc := 35) C dX1_goBack_35 rfl 0 rfl ?_
  refine J.getR (pc := 36) C kcX1 hk 6 rfl tw_110 rfl dX1_goBack_36 ?_
  obtain ⟨σ_18, h_16, hf⟩ := bnd_some hf
  refine J.callSN (pc := 39) C (m_X8_clear h_16) (ok_1_6 hcl hk) wyX8_clear tsX8_clear tn_339 [.ref (Xad X (ptr k 6))] [] rfl rfl (Nat.le_of_ble_eq_true rfl) (Nat.le_of_ble_eq_true rfl) (Nat.le_of_ble_eq_true rfl) (stk' := []) rfl dX1_goBack_39 rfl ?_
  refine J.aload_n (pc := 42) C dX1_goBack_42 rfl 0 rfl ?_
  refine J.getR (pc := 43) C kcX1 hk 7 rfl tw_112 rfl dX1_goBack_43 ?_
  obtain ⟨σ_21, h_19, hf⟩ := bnd_some hf
  refine J.callSN (pc := 46) C (m_X8_clear h_19) (ok_1_7 hcl hk) wyX8_clear tsX8_clear tn_339 [.ref (Xad X (ptr k 7))] [] rfl rfl (Nat.le_of_ble_eq_true rfl) (Nat.le_of_ble_eq_true rfl) (Nat.le_of_ble_eq_true rfl) (stk' := []) rfl dX1_goBack_46 rfl ?_
  exact J.vretM (pc := 49) C hR ((Option.some.inj hf).trans hp) dX1_goBack_49
set_option maxHeartbeats 4000000 in
set_option maxRecDepth 100000 in
theorem m_X4_copy {l : Launch} {σ : Mem} {k : Nat} {x1 : Nat} {t0 : Mem} (hf : f_X4_copy σ k x1 = some t0) : Ct l yX4_copy cX4_copy 2 none 2 39 (fun ks => Ok ks k 4 ∧ Ok ks x1 4) (fun ad => [.ref (ad k), .ref (ad x1)]) σ (fun _ => none) t0 := by
  refine Ct.of (plainFor_of_name (by decide)) (fun _ => Nat.le_of_ble_eq_true rfl) ?_
  intro X C _ hok hcl hR
  obtain ⟨hk, hx1⟩ := hok
  have C : Cx X RX4 cX4_copy 2 none 2 39 := C
  have hp : t0 = t0 := rfl
  show J X 0 [(0, .ref (Xad X k)), (1, .ref (Xad X x1))] [] σ
  unfold f_X4_copy at hf
  refine J.aload_n (pc := 0) C dX4_copy_0 rfl 1 rfl ?_
  refine J.getR (pc := 1) C kcX4 hx1 4 rfl tw_71 rfl dX4_copy_1 ?_
  refine J.aload_n (pc := 4) C dX4_copy_4 rfl 0 rfl ?_
  refine J.getR (pc := 5) C kcX4 hk 4 rfl tw_71 rfl dX4_copy_5 ?_
  obtain ⟨σ_3, h_1, hf⟩ := bnd_some hf
  refine J.callSN (pc := 8) C (m_X8_copyRow h_1) ⟨(ok_4_4 hcl hx1), (ok_4_4 hcl hk)⟩ wyX8_copyRow tsX8_copyRow tn_588 [.ref (Xad X (ptr x1 4)), .ref (Xad X (ptr k 4))] [] rfl rfl (Nat.le_of_ble_eq_true rfl) (Nat.le_of_ble_eq_true rfl) (Nat.le_of_ble_eq_true rfl) (stk' := []) rfl dX4_copy_8 rfl ?_
  exact J.vretM (pc := 11) C hR ((Option.some.inj hf).trans hp) dX4_copy_11
set_option maxHeartbeats 4000000 in
set_option maxRecDepth 100000 in
theorem m_X1_copy {l : Launch} {σ : Mem} {k : Nat} {x1 : Nat} {t0 : Mem} (hf : f_X1_copy σ k x1 = some t0) : Ct l yX1_copy cX1_copy 2 none 3 60 (fun ks => Ok ks k 1 ∧ Ok ks x1 1) (fun ad => [.ref (ad k), .ref (ad x1)]) σ (fun _ => none) t0 := by
  refine Ct.of (plainFor_of_name (by decide)) (fun _ => Nat.le_of_ble_eq_true rfl) ?_
  intro X C _ hok hcl hR
  obtain ⟨hk, hx1⟩ := hok
  have C : Cx X RX1 cX1_copy 2 none 3 60 := C
  have hp : t0 = t0 := rfl
  show J X 0 [(0, .ref (Xad X k)), (1, .ref (Xad X x1))] [] σ
  unfold f_X1_copy at hf
  refine J.aload_n (pc := 0) C dX1_copy_0 rfl 0 rfl ?_
  refine J.aload_n (pc := 1) C dX1_copy_1 rfl 1 rfl ?_
  refine J.getI (pc := 2) C kcX1 hx1 8 rfl tw_113 rfl dX1_copy_2 ?_
  refine J.putM (pc := 5) C kcX1 hk 8 rfl tw_113 rfl rfl rfl rfl hf dX1_copy_5 (fun σ_1 hf => ?_)
  refine J.aload_n (pc := 8) C dX1_copy_8 rfl 0 rfl ?_
  refine J.getR (pc := 9) C kcX1 hk 0 rfl tw_98 rfl dX1_copy_9 ?_
  refine J.aload_n (pc := 12) C dX1_copy_12 rfl 1 rfl ?_
  refine J.getR (pc := 13) C kcX1 hx1 0 rfl tw_98 rfl dX1_copy_13 ?_
  obtain ⟨σ_4, h_2, hf⟩ := bnd_some hf
  refine J.callV (pc := 16) C (m_X4_copy h_2) ⟨(ok_1_0 hcl hk), (ok_1_0 hcl hx1)⟩ wyX4_copy tvX4_copy_i tvX4_copy_s tw_596 kcX4 rfl (ok_1_0 hcl hk) [.ref (Xad X (ptr x1 0))] [] rfl rfl (Nat.le_of_ble_eq_true rfl) (Nat.le_of_ble_eq_true rfl) (Nat.le_of_ble_eq_true rfl) (stk' := []) rfl dX1_copy_16 rfl ?_
  refine J.aload_n (pc := 19) C dX1_copy_19 rfl 1 rfl ?_
  refine J.getR (pc := 20) C kcX1 hx1 1 rfl tw_100 rfl dX1_copy_20 ?_
  refine J.aload_n (pc := 23) C dX1_copy_23 rfl 0 rfl ?_
  refine J.getR (pc := 24) C kcX1 hk 1 rfl tw_100 rfl dX1_copy_24 ?_
  obtain ⟨σ_7, h_5, hf⟩ := bnd_some hf
  refine J.callSN (pc := 27) C (m_X8_copyRow h_5) ⟨(ok_1_1 hcl hx1), (ok_1_1 hcl hk)⟩ wyX8_copyRow tsX8_copyRow tn_597 [.ref (Xad X (ptr x1 1)), .ref (Xad X (ptr k 1))] [] rfl rfl (Nat.le_of_ble_eq_true rfl) (Nat.le_of_ble_eq_true rfl) (Nat.le_of_ble_eq_true rfl) (stk' := []) rfl dX1_copy_27 rfl ?_
  refine J.aload_n (pc := 30) C dX1_copy_30 rfl 1 rfl ?_
  refine J.getR (pc := 31) C kcX1 hx1 2 rfl tw_102 rfl dX1_copy_31 ?_
  refine J.aload_n (pc := 34) C dX1_copy_34 rfl 0 rfl ?_
  refine J.getR (pc := 35) C kcX1 hk 2 rfl tw_102 rfl dX1_copy_35 ?_
  obtain ⟨σ_10, h_8, hf⟩ := bnd_some hf
  refine J.callSN (pc := 38) C (m_X8_copyRow h_8) ⟨(ok_1_2 hcl hx1), (ok_1_2 hcl hk)⟩ wyX8_copyRow tsX8_copyRow tn_597 [.ref (Xad X (ptr x1 2)), .ref (Xad X (ptr k 2))] [] rfl rfl (Nat.le_of_ble_eq_true rfl) (Nat.le_of_ble_eq_true rfl) (Nat.le_of_ble_eq_true rfl) (stk' := []) rfl dX1_copy_38 rfl ?_
  refine J.aload_n (pc := 41) C dX1_copy_41 rfl 1 rfl ?_
  refine J.getR (pc := 42) C kcX1 hx1 3 rfl tw_104 rfl dX1_copy_42 ?_
  refine J.aload_n (pc := 45) C dX1_copy_45 rfl 0 rfl ?_
  refine J.getR (pc := 46) C kcX1 hk 3 rfl tw_104 rfl dX1_copy_46 ?_
  obtain ⟨σ_13, h_11, hf⟩ := bnd_some hf
  refine J.callSN (pc := 49) C (m_X8_copyRow h_11) ⟨(ok_1_3 hcl hx1), (ok_1_3 hcl hk)⟩ wyX8_copyRow tsX8_copyRow tn_597 [.ref (Xad X (ptr x1 3)), .ref (Xad X (ptr k 3))] [] rfl rfl (Nat.le_of_ble_eq_true rfl) (Nat.le_of_ble_eq_true rfl) (Nat.le_of_ble_eq_true rfl) (stk' := []) rfl dX1_copy_49 rfl ?_
  refine J.aload_n (pc := 52) C dX1_copy_52 rfl 1 rfl ?_
  refine J.getR (pc := 53) C kcX1 hx1 4 rfl tw_106 rfl dX1_copy_53 ?_
  refine J.aload_n (pc := 56) C dX1_copy_56 rfl 0 rfl ?_
  refine J.getR (pc := 57) C kcX1 hk 4 rfl tw_106 rfl dX1_copy_57 ?_
  obtain ⟨σ_16, h_14, hf⟩ := bnd_some hf
  refine J.callSN (pc := 60) C (m_X8_copyRow h_14) ⟨(ok_1_4 hcl hx1), (ok_1_4 hcl hk)⟩ wyX8_copyRow tsX8_copyRow tn_597 [.ref (Xad X (ptr x1 4)), .ref (Xad X (ptr k 4))] [] rfl rfl (Nat.le_of_ble_eq_true rfl) (Nat.le_of_ble_eq_true rfl) (Nat.le_of_ble_eq_true rfl) (stk' := []) rfl dX1_copy_60 rfl ?_
  refine J.aload_n (pc := 63) C dX1_copy_63 rfl 1 rfl ?_
  refine J.getR (pc := 64) C kcX1 hx1 5 rfl tw_108 rfl dX1_copy_64 ?_
  refine J.aload_n (pc := 67) C dX1_copy_67 rfl 0 rfl ?_
  refine J.getR (pc := 68) C kcX1 hk 5 rfl tw_108 rfl dX1_copy_68 ?_
  obtain ⟨σ_19, h_17, hf⟩ := bnd_some hf
  refine J.callSN (pc := 71) C (m_X8_copyRow h_17) ⟨(ok_1_5 hcl hx1), (ok_1_5 hcl hk)⟩ wyX8_copyRow tsX8_copyRow tn_597 [.ref (Xad X (ptr x1 5)), .ref (Xad X (ptr k 5))] [] rfl rfl (Nat.le_of_ble_eq_true rfl) (Nat.le_of_ble_eq_true rfl) (Nat.le_of_ble_eq_true rfl) (stk' := []) rfl dX1_copy_71 rfl ?_
  refine J.aload_n (pc := 74) C dX1_copy_74 rfl 1 rfl ?_
  refine J.getR (pc := 75) C kcX1 hx1 6 rfl tw_110 rfl dX1_copy_75 ?_
  refine J.aload_n (pc := 78) C dX1_copy_78 rfl 0 rfl ?_
  refine J.getR (pc := 79) C kcX1 hk 6 rfl tw_110 rfl dX1_copy_79 ?_
  obtain ⟨σ_22, h_20, hf⟩ := bnd_some hf
  refine J.callSN (pc := 82) C (m_X8_copyRow h_20) ⟨(ok_1_6 hcl hx1), (ok_1_6 hcl hk)⟩ wyX8_copyRow tsX8_copyRow tn_597 [.ref (Xad X (ptr x1 6)), .ref (Xad X (ptr k 6))] [] rfl rfl (Nat.le_of_ble_eq_true rfl) (Nat.le_of_ble_eq_true rfl) (Nat.le_of_ble_eq_true rfl) (stk' := []) rfl dX1_copy_82 rfl ?_
  refine J.aload_n (pc := 85) C dX1_copy_85 rfl 1 rfl ?_
  refine J.getR (pc := 86) C kcX1 hx1 7 rfl tw_112 rfl dX1_copy_86 ?_
  refine J.aload_n (pc := 89) C dX1_copy_89 rfl 0 rfl ?_
  refine J.getR (pc := 90) C kcX1 hk 7 rfl tw_112 rfl dX1_copy_90 ?_
  obtain ⟨σ_25, h_23, hf⟩ := bnd_some hf
  refine J.callSN (pc := 93) C (m_X8_copyRow h_23) ⟨(ok_1_7 hcl hx1), (ok_1_7 hcl hk)⟩ wyX8_copyRow tsX8_copyRow tn_597 [.ref (Xad X (ptr x1 7)), .ref (Xad X (ptr k 7))] [] rfl rfl (Nat.le_of_ble_eq_true rfl) (Nat.le_of_ble_eq_true rfl) (Nat.le_of_ble_eq_true rfl) (stk' := []) rfl dX1_copy_93 rfl ?_
  exact J.vretM (pc := 96) C hR ((Option.some.inj hf).trans hp) dX1_copy_96
set_option maxHeartbeats 4000000 in
set_option maxRecDepth 100000 in
theorem m_J9_floorMod_7cf53 {l : Launch} {x0 : Int32} {x1 : Int32} {σ : Mem} {t0 : Int32} (hf : f_J9_floorMod_7cf53 x0 x1 = some t0) : Ct l yJ9_floorMod_7cf53 cJ9_floorMod_7cf53 3 (some FieldType.int) 0 0 (fun _ => True) (fun _ => [.int x0, .int x1]) σ (fun _ => some (.int t0)) σ := by
  refine Ct.of (by decide +kernel) (fun _ => Nat.le_of_ble_eq_true rfl) ?_
  intro X C _ _ hcl hR
  have C : Cx X RJ9 cJ9_floorMod_7cf53 3 (some FieldType.int) 0 0 := C
  have hp : t0 = t0 := rfl
  show J X 0 [(0, .int x0), (1, .int x1)] [] σ
  unfold f_J9_floorMod_7cf53 at hf
  refine J.iload_n (pc := 0) C dJ9_floorMod_7cf53_0 rfl 0 rfl ?_
  refine J.iload_n (pc := 1) C dJ9_floorMod_7cf53_1 rfl 1 rfl ?_
  obtain ⟨hne, hf⟩ := chk_some hf
  refine J.iremM (pc := 2) C dJ9_floorMod_7cf53_2 (of_decide_eq_true hne) ?_
  refine J.nmI hf (fun x2_1 hf => ?_)
  refine J.istore_n (pc := 3) C (loc' := [(2, .int x2_1), (0, .int x0), (1, .int x1)]) dJ9_floorMod_7cf53_3 rfl (by decide) rfl ?_
  refine J.iload_n (pc := 4) C dJ9_floorMod_7cf53_4 rfl 1 rfl ?_
  refine J.iload_n (pc := 5) C dJ9_floorMod_7cf53_5 rfl 2 rfl ?_
  refine J.ixor (pc := 6) C dJ9_floorMod_7cf53_6 ?_
  refine J.if_ge (pc := 7) C (tgt := 18) dJ9_floorMod_7cf53_7 (by decide) hf (fun hf => ?_) (fun hf => ?_)
  · refine J.iload_n (pc := 18) C dJ9_floorMod_7cf53_18 rfl 0 rfl ?_
    exact J.iretP (pc := 19) C hR ((Option.some.inj hf).trans hp) dJ9_floorMod_7cf53_19
  · refine J.iload_n (pc := 10) C dJ9_floorMod_7cf53_10 rfl 0 rfl ?_
    refine J.if_eq (pc := 11) C (tgt := 18) dJ9_floorMod_7cf53_11 (by decide) hf (fun hf => ?_) (fun hf => ?_)
    · refine J.iload_n (pc := 18) C dJ9_floorMod_7cf53_18 rfl 0 rfl ?_
      exact J.iretP (pc := 19) C hR ((Option.some.inj hf).trans hp) dJ9_floorMod_7cf53_19
    · refine J.iload_n (pc := 14) C dJ9_floorMod_7cf53_14 rfl 0 rfl ?_
      refine J.iload_n (pc := 15) C dJ9_floorMod_7cf53_15 rfl 2 rfl ?_
      refine J.iadd (pc := 16) C dJ9_floorMod_7cf53_16 ?_
      exact J.iretP (pc := 17) C hR ((Option.some.inj hf).trans hp) dJ9_floorMod_7cf53_17
set_option maxHeartbeats 4000000 in
set_option maxRecDepth 100000 in
theorem m_X1_rowOf {l : Launch} {x0 : Int32} {σ : Mem} {t0 : Int32} (hf : f_X1_rowOf x0 = some t0) : Ct l yX1_rowOf cX1_rowOf 1 (some FieldType.int) 1 22 (fun _ => True) (fun _ => [.int x0]) σ (fun _ => some (.int t0)) σ := by
  refine Ct.of (plainFor_of_name (by decide)) (fun _ => Nat.le_of_ble_eq_true rfl) ?_
  intro X C _ _ hcl hR
  have C : Cx X RX1 cX1_rowOf 1 (some FieldType.int) 1 22 := C
  have hp : t0 = t0 := rfl
  show J X 0 [(0, .int x0)] [] σ
  unfold f_X1_rowOf at hf
  refine J.iload_n (pc := 0) C dX1_rowOf_0 rfl 0 rfl ?_
  refine J.bipush (pc := 1) C (v := 51) dX1_rowOf_1 (by decide) ?_
  obtain ⟨r_2, h_1, hf⟩ := bnd_some hf
  refine J.callS (pc := 3) C (m_J9_floorMod_7cf53 h_1) trivial wyJ9_floorMod_7cf53 tsJ9_floorMod_7cf53 tw_435 [.int x0, .int 51] [] rfl rfl (Nat.le_of_ble_eq_true rfl) (Nat.le_of_ble_eq_true rfl) (Nat.le_of_ble_eq_true rfl) (stk' := [.int r_2]) rfl dX1_rowOf_3 rfl ?_
  refine J.bipush (pc := 6) C (v := 12) dX1_rowOf_6 (by decide) ?_
  refine J.imul (pc := 8) C dX1_rowOf_8 ?_
  exact J.iretP (pc := 9) C hR ((Option.some.inj hf).trans hp) dX1_rowOf_9
set_option maxHeartbeats 4000000 in
set_option maxRecDepth 100000 in
theorem m_X1_keepCommands {l : Launch} {σ : Mem} {k : Nat} {x1 : Int32} {t0 : Mem} (hf : f_X1_keepCommands σ k x1 = some t0) : Ct l yX1_keepCommands cX1_keepCommands 2 none 2 42 (fun ks => Ok ks k 1) (fun ad => [.ref (ad k), .int x1]) σ (fun _ => none) t0 := by
  refine Ct.of (plainFor_of_name (by decide)) (fun _ => Nat.le_of_ble_eq_true rfl) ?_
  intro X C _ hk hcl hR
  have C : Cx X RX1 cX1_keepCommands 2 none 2 42 := C
  have hp : t0 = t0 := rfl
  show J X 0 [(0, .ref (Xad X k)), (1, .int x1)] [] σ
  unfold f_X1_keepCommands at hf
  refine J.aload_n (pc := 0) C dX1_keepCommands_0 rfl 0 rfl ?_
  refine J.getR (pc := 1) C kcX1 hk 1 rfl tw_100 rfl dX1_keepCommands_1 ?_
  refine J.iconst (pc := 4) C (v := 0) dX1_keepCommands_4 (by decide) ?_
  refine J.aload_n (pc := 5) C dX1_keepCommands_5 rfl 0 rfl ?_
  refine J.getR (pc := 6) C kcX1 hk 7 rfl tw_112 rfl dX1_keepCommands_6 ?_
  refine J.iload_n (pc := 9) C dX1_keepCommands_9 rfl 1 rfl ?_
  obtain ⟨r_2, h_1, hf⟩ := bnd_some hf
  refine J.callS (pc := 10) C (m_X1_rowOf h_1) trivial wyX1_rowOf tsX1_rowOf tw_432 [.int x1] [.ref (Xad X (ptr k 7)), .int 0, .ref (Xad X (ptr k 1))] rfl rfl (Nat.le_of_ble_eq_true rfl) (Nat.le_of_ble_eq_true rfl) (Nat.le_of_ble_eq_true rfl) (stk' := [.int r_2, .ref (Xad X (ptr k 7)), .int 0, .ref (Xad X (ptr k 1))]) rfl dX1_keepCommands_10 rfl ?_
  refine J.bipush (pc := 13) C (v := 12) dX1_keepCommands_13 (by decide) ?_
  refine J.acopyM (pc := 15) C tw_438 twac_n twac_s twac_i (Nat.le_of_ble_eq_true rfl) (Nat.le_of_ble_eq_true rfl) (ok_1_1 hcl hk) (ok_1_7 hcl hk) hf dX1_keepCommands_15 (fun σ_3 hf => ?_)
  exact J.vretM (pc := 18) C hR ((Option.some.inj hf).trans hp) dX1_keepCommands_18
set_option maxHeartbeats 4000000 in
set_option maxRecDepth 100000 in
theorem m_X1_commandAt {l : Launch} {σ : Mem} {k : Nat} {x1 : Int32} {x2 : Int32} {t0 : Int32} (hf : f_X1_commandAt σ k x1 x2 = some t0) : Ct l yX1_commandAt cX1_commandAt 3 (some FieldType.int) 2 42 (fun ks => Ok ks k 1) (fun ad => [.ref (ad k), .int x1, .int x2]) σ (fun _ => some (.int t0)) σ := by
  refine Ct.of (plainFor_of_name (by decide)) (fun _ => Nat.le_of_ble_eq_true rfl) ?_
  intro X C _ hk hcl hR
  have C : Cx X RX1 cX1_commandAt 3 (some FieldType.int) 2 42 := C
  have hp : t0 = t0 := rfl
  show J X 0 [(0, .ref (Xad X k)), (1, .int x1), (2, .int x2)] [] σ
  unfold f_X1_commandAt at hf
  refine J.iload_n (pc := 0) C dX1_commandAt_0 rfl 1 rfl ?_
  refine J.if_ge (pc := 1) C (tgt := 8) dX1_commandAt_1 (by decide) hf (fun hf => ?_) (fun hf => ?_)
  · refine J.aload_n (pc := 8) C dX1_commandAt_8 rfl 0 rfl ?_
    refine J.getR (pc := 9) C kcX1 hk 7 rfl tw_112 rfl dX1_commandAt_9 ?_
    refine J.iload_n (pc := 12) C dX1_commandAt_12 rfl 1 rfl ?_
    obtain ⟨r_2, h_1, hf⟩ := bnd_some hf
    refine J.callS (pc := 13) C (m_X1_rowOf h_1) trivial wyX1_rowOf tsX1_rowOf tw_432 [.int x1] [.ref (Xad X (ptr k 7))] rfl rfl (Nat.le_of_ble_eq_true rfl) (Nat.le_of_ble_eq_true rfl) (Nat.le_of_ble_eq_true rfl) (stk' := [.int r_2, .ref (Xad X (ptr k 7))]) rfl dX1_commandAt_13 rfl ?_
    refine J.iload_n (pc := 16) C dX1_commandAt_16 rfl 2 rfl ?_
    refine J.iadd (pc := 17) C dX1_commandAt_17 ?_
    refine J.iald (pc := 18) C (ok_1_7 hcl hk) hf dX1_commandAt_18 (fun hf => ?_)
    exact J.iretP (pc := 19) C hR ((Option.some.inj hf).trans hp) dX1_commandAt_19
  · refine J.iconst (pc := 4) C (v := 0) dX1_commandAt_4 (by decide) ?_
    refine J.goto (pc := 5) C (tgt := 19) dX1_commandAt_5 (by decide) ?_
    exact J.iretP (pc := 19) C hR ((Option.some.inj hf).trans hp) dX1_commandAt_19
set_option maxHeartbeats 4000000 in
set_option maxRecDepth 100000 in
theorem m_X4_value {l : Launch} {σ : Mem} {k : Nat} {x1 : Int32} {x2 : Int32} {t0 : Int32} (hf : f_X4_value σ k x1 x2 = some t0) : Ct l yX4_value cX4_value 4 (some FieldType.int) 0 0 (fun ks => Ok ks k 4) (fun ad => [.ref (ad k), .int x1, .int x2]) σ (fun _ => some (.int t0)) σ := by
  refine Ct.of (plainFor_of_name (by decide)) (fun _ => Nat.le_of_ble_eq_true rfl) ?_
  intro X C _ hk hcl hR
  have C : Cx X RX4 cX4_value 4 (some FieldType.int) 0 0 := C
  have hp : t0 = t0 := rfl
  show J X 0 [(0, .ref (Xad X k)), (1, .int x1), (2, .int x2)] [] σ
  unfold f_X4_value at hf
  refine J.iload_n (pc := 0) C dX4_value_0 rfl 1 rfl ?_
  refine J.aload_n (pc := 1) C dX4_value_1 rfl 0 rfl ?_
  refine J.getR (pc := 2) C kcX4 hk 2 rfl tw_69 rfl dX4_value_2 ?_
  refine J.srrlen (pc := 5) C (st_4_2 hk) dX4_value_5 ?_
  refine J.imul (pc := 6) C dX4_value_6 ?_
  refine J.iload_n (pc := 7) C dX4_value_7 rfl 2 rfl ?_
  refine J.iadd (pc := 8) C dX4_value_8 ?_
  refine J.nmI hf (fun x3_1 hf => ?_)
  refine J.istore_n (pc := 9) C (loc' := [(3, .int x3_1), (0, .ref (Xad X k)), (1, .int x1), (2, .int x2)]) dX4_value_9 rfl (by decide) rfl ?_
  refine J.iload_n (pc := 10) C dX4_value_10 rfl 0 rfl ?_
  refine J.if_lt (pc := 11) C (tgt := 32) dX4_value_11 (by decide) hf (fun hf => ?_) (fun hf => ?_)
  · refine J.iconst (pc := 32) C (v := 0) dX4_value_32 (by decide) ?_
    exact J.iretP (pc := 33) C hR ((Option.some.inj hf).trans hp) dX4_value_33
  · refine J.iload_n (pc := 14) C dX4_value_14 rfl 0 rfl ?_
    refine J.aload_n (pc := 15) C dX4_value_15 rfl 1 rfl ?_
    refine J.getR (pc := 16) C kcX4 hk 4 rfl tw_71 rfl dX4_value_16 ?_
    refine J.arrlen (pc := 19) C (ok_4_4 hcl hk) dX4_value_19 ?_
    refine J.icmp_ge (pc := 20) C (tgt := 32) dX4_value_20 (by decide) hf (fun hf => ?_) (fun hf => ?_)
    · refine J.iconst (pc := 32) C (v := 0) dX4_value_32 (by decide) ?_
      exact J.iretP (pc := 33) C hR ((Option.some.inj hf).trans hp) dX4_value_33
    · refine J.aload_n (pc := 23) C dX4_value_23 rfl 1 rfl ?_
      refine J.getR (pc := 24) C kcX4 hk 4 rfl tw_71 rfl dX4_value_24 ?_
      refine J.iload_n (pc := 27) C dX4_value_27 rfl 0 rfl ?_
      refine J.iald (pc := 28) C (ok_4_4 hcl hk) hf dX4_value_28 (fun hf => ?_)
      refine J.goto (pc := 29) C (tgt := 33) dX4_value_29 (by decide) ?_
      exact J.iretP (pc := 33) C hR ((Option.some.inj hf).trans hp) dX4_value_33
set_option maxHeartbeats 4000000 in
set_option maxRecDepth 100000 in
theorem m_X8_toward {l : Launch} {x0 : Int32} {x1 : Int32} {x2 : Int32} {σ : Mem} {t0 : Int32} (hf : f_X8_toward x0 x1 x2 = some t0) : Ct l yX8_toward cX8_toward 3 (some FieldType.int) 1 13 (fun _ => True) (fun _ => [.int x0, .int x1, .int x2]) σ (fun _ => some (.int t0)) σ := by
  refine Ct.of (plainFor_of_name (by decide)) (fun _ => Nat.le_of_ble_eq_true rfl) ?_
  intro X C _ _ hcl hR
  have C : Cx X RX8 cX8_toward 3 (some FieldType.int) 1 13 := C
  have hp : t0 = t0 := rfl
  show J X 0 [(0, .int x0), (1, .int x1), (2, .int x2)] [] σ
  unfold f_X8_toward at hf
  refine J.iload_n (pc := 0) C dX8_toward_0 rfl 0 rfl ?_
  refine J.iload_n (pc := 1) C dX8_toward_1 rfl 1 rfl ?_
  refine J.icmp_ge (pc := 2) C (tgt := 15) dX8_toward_2 (by decide) hf (fun hf => ?_) (fun hf => ?_)
  · refine J.iload_n (pc := 15) C dX8_toward_15 rfl 1 rfl ?_
    refine J.iload_n (pc := 16) C dX8_toward_16 rfl 0 rfl ?_
    refine J.iload_n (pc := 17) C dX8_toward_17 rfl 2 rfl ?_
    refine J.isub (pc := 18) C dX8_toward_18 ?_
    refine J.mmaxI (pc := 19) C tw_477 twm_max_s twm_i twm_max_c (Nat.le_of_ble_eq_true rfl) (Nat.le_of_ble_eq_true rfl) dX8_toward_19 ?_
    exact J.iretP (pc := 22) C hR ((Option.some.inj hf).trans hp) dX8_toward_22
  · refine J.iload_n (pc := 5) C dX8_toward_5 rfl 1 rfl ?_
    refine J.iload_n (pc := 6) C dX8_toward_6 rfl 0 rfl ?_
    refine J.iload_n (pc := 7) C dX8_toward_7 rfl 2 rfl ?_
    refine J.iadd (pc := 8) C dX8_toward_8 ?_
    refine J.mminI (pc := 9) C tw_476 twm_min_s twm_i twm_min_c (Nat.le_of_ble_eq_true rfl) (Nat.le_of_ble_eq_true rfl) dX8_toward_9 ?_
    refine J.goto (pc := 12) C (tgt := 22) dX8_toward_12 (by decide) ?_
    exact J.iretP (pc := 22) C hR ((Option.some.inj hf).trans hp) dX8_toward_22
set_option maxHeartbeats 4000000 in
set_option maxRecDepth 100000 in
theorem m_X1_open {l : Launch} {n : Nat} {σ : Mem} {k : Nat} {x1 : Int32} {x2 : Int32} {x3 : Int32} {t0 : Mem} (hf : f_X1_open n σ k x1 x2 x3 = some t0) : Ct l yX1_open cX1_open 6 none 3 64 (fun ks => Ok ks k 1) (fun ad => [.ref (ad k), .int x1, .int x2, .int x3]) σ (fun _ => none) t0 := by
  refine Ct.of (plainFor_of_name (by decide)) (fun _ => Nat.le_of_ble_eq_true rfl) ?_
  intro X C _ hk hcl hR
  have C : Cx X RX1 cX1_open 6 none 3 64 := C
  have L69 : ∀ (σ : Mem) (x1 : Int32) (x2 : Int32) (x3 : Int32) (x4 : Int32) (x5 : Int32) (t : (Mem ⊕ (Mem × Int32))), f_X1_open_L69 n σ k x1 x2 x3 x4 x5 = some t → ((∀ r1, t = .inl r1 → r1 = t0) ∧ (∀ s1, t = .inr s1 → J X 3 [(0, .ref (Xad X k)), (1, .int x1), (2, .int x2), (3, .int x3), (4, .int (s1.2))] [] s1.1)) → J X 69 [(0, .ref (Xad X k)), (1, .int x1), (2, .int x2), (3, .int x3), (4, .int x4), (5, .int x5)] [] σ := by
    intro σ x1 x2 x3 x4 x5 t hf hp
    unfold f_X1_open_L69 at hf
    refine J.aload_n (pc := 69) C dX1_open_69 rfl 0 rfl ?_
    refine J.getR (pc := 70) C kcX1 hk 2 rfl tw_102 rfl dX1_open_70 ?_
    refine J.iload (pc := 73) C dX1_open_73 4 rfl ?_
    refine J.aload_n (pc := 75) C dX1_open_75 rfl 0 rfl ?_
    refine J.getR (pc := 76) C kcX1 hk 2 rfl tw_102 rfl dX1_open_76 ?_
    refine J.iload (pc := 79) C dX1_open_79 4 rfl ?_
    refine J.iald (pc := 81) C (ok_1_2 hcl hk) hf dX1_open_81 (fun hf => ?_)
    refine J.iload (pc := 82) C dX1_open_82 5 rfl ?_
    refine J.aload_n (pc := 84) C dX1_open_84 rfl 0 rfl ?_
    refine J.getR (pc := 85) C kcX1 hk 0 rfl tw_98 rfl dX1_open_85 ?_
    refine J.iload (pc := 88) C dX1_open_88 4 rfl ?_
    refine J.iconst (pc := 90) C (v := 3) dX1_open_90 (by decide) ?_
    obtain ⟨r_6, h_5, hf⟩ := bnd_some hf
    refine J.callV (pc := 91) C (m_X4_value h_5) (ok_1_0 hcl hk) wyX4_value tvX4_value_i tvX4_value_s tw_464 kcX4 rfl (ok_1_0 hcl hk) [.int x4, .int 3] [.int x5, .int (σ (ptr k 2) (ix x4)), .int x4, .ref (Xad X (ptr k 2))] rfl rfl (Nat.le_of_ble_eq_true rfl) (Nat.le_of_ble_eq_true rfl) (Nat.le_of_ble_eq_true rfl) (stk' := [.int r_6, .int x5, .int (σ (ptr k 2) (ix x4)), .int x4, .ref (Xad X (ptr k 2))]) rfl dX1_open_91 rfl ?_
    obtain ⟨r_8, h_7, hf⟩ := bnd_some hf
    refine J.callSN (pc := 94) C (m_X8_toward h_7) trivial wyX8_toward tsX8_toward tn_473 [.int (σ (ptr k 2) (ix x4)), .int x5, .int r_6] [.int x4, .ref (Xad X (ptr k 2))] rfl rfl (Nat.le_of_ble_eq_true rfl) (Nat.le_of_ble_eq_true rfl) (Nat.le_of_ble_eq_true rfl) (stk' := [.int r_8, .int x4, .ref (Xad X (ptr k 2))]) rfl dX1_open_94 rfl ?_
    refine J.iastM (pc := 97) C (ok_1_2 hcl hk) hf dX1_open_97 (fun σ_9 hf => ?_)
    obtain ⟨x4_10, hx_x4_10, hf⟩ := nm_some hf
    refine J.iinc (pc := 98) C (v := x4_10) (loc' := [(4, .int x4_10), (0, .ref (Xad X k)), (1, .int x1), (2, .int x2), (3, .int x3), (5, .int x5)]) dX1_open_98 (k := 4) rfl (by rw [hx_x4_10]; rfl) (by decide) rfl ?_
    refine J.goto (pc := 101) C (tgt := 3) dX1_open_101 (by decide) ?_
    exact J.sub (loc' := [(0, .ref (Xad X k)), (1, .int x1), (2, .int x2), (3, .int x3), (4, .int x4_10)]) [1, 2, 3, 4, 0] rfl (hp.2 _ (Option.some.inj hf).symm)
  have L3 : ∀ (σ : Mem) (x1 : Int32) (x2 : Int32) (x3 : Int32) (x4 : Int32) (t : Mem), f_X1_open_L3 n σ k x1 x2 x3 x4 = some t → t = t0 → J X 3 [(0, .ref (Xad X k)), (1, .int x1), (2, .int x2), (3, .int x3), (4, .int x4)] [] σ := by
    intro σ x1 x2 x3 x4 t hf hp
    unfold f_X1_open_L3 at hf
    refine J_iter (JJ := fun (s : Mem × Int32) => J X 3 [(0, .ref (Xad X k)), (1, .int x1), (2, .int x2), (3, .int x3), (4, .int (s.2))] [] s.1) (Ps := fun t => t = t0) ?_ n (σ, x4) t hf hp
    clear hf hp
    intro s t hf hp hq
    obtain ⟨σ, x4⟩ := s
    have hp := And.intro hp hq
    clear hq
    have hf : f_X1_open_B3 n σ k x1 x2 x3 x4 = some t := hf
    show J X 3 [(0, .ref (Xad X k)), (1, .int x1), (2, .int x2), (3, .int x3), (4, .int x4)] [] σ
    unfold f_X1_open_B3 at hf
    refine J.iload (pc := 3) C dX1_open_3 4 rfl ?_
    refine J.aload_n (pc := 5) C dX1_open_5 rfl 0 rfl ?_
    refine J.getI (pc := 6) C kcX1 hk 8 rfl tw_113 rfl dX1_open_6 ?_
    refine J.icmp_ge (pc := 9) C (tgt := 104) dX1_open_9 (by decide) hf (fun hf => ?_) (fun hf => ?_)
    · exact J.vretM (pc := 104) C hR ((hp.1 _ (Option.some.inj hf).symm)) dX1_open_104
    · refine J.aload_n (pc := 12) C dX1_open_12 rfl 0 rfl ?_
      refine J.iload_n (pc := 13) C dX1_open_13 rfl 1 rfl ?_
      refine J.aload_n (pc := 14) C dX1_open_14 rfl 0 rfl ?_
      refine J.getR (pc := 15) C kcX1 hk 0 rfl tw_98 rfl dX1_open_15 ?_
      refine J.iload (pc := 18) C dX1_open_18 4 rfl ?_
      refine J.iconst (pc := 20) C (v := 2) dX1_open_20 (by decide) ?_
      obtain ⟨r_2, h_1, hf⟩ := bnd_some hf
      refine J.callV (pc := 21) C (m_X4_value h_1) (ok_1_0 hcl hk) wyX4_value tvX4_value_i tvX4_value_s tw_464 kcX4 rfl (ok_1_0 hcl hk) [.int x4, .int 2] [.int x1, .ref (Xad X k)] rfl rfl (Nat.le_of_ble_eq_true rfl) (Nat.le_of_ble_eq_true rfl) (Nat.le_of_ble_eq_true rfl) (stk' := [.int r_2, .int x1, .ref (Xad X k)]) rfl dX1_open_21 rfl ?_
      refine J.isub (pc := 24) C dX1_open_24 ?_
      refine J.iload (pc := 25) C dX1_open_25 4 rfl ?_
      obtain ⟨r_4, h_3, hf⟩ := bnd_some hf
      refine J.callV (pc := 27) C (m_X1_commandAt h_3) hk wyX1_commandAt tvX1_commandAt_i tvX1_commandAt_s tw_465 kcX1 rfl hk [.int (x1 - r_2), .int x4] [] rfl rfl (Nat.le_of_ble_eq_true rfl) (Nat.le_of_ble_eq_true rfl) (Nat.le_of_ble_eq_true rfl) (stk' := [.int r_4]) rfl dX1_open_27 rfl ?_
      refine J.istore (pc := 30) C (loc' := [(5, .int r_4), (0, .ref (Xad X k)), (1, .int x1), (2, .int x2), (3, .int x3), (4, .int x4)]) dX1_open_30 (by decide) rfl ?_
      refine J.iload_n (pc := 32) C dX1_open_32 rfl 3 rfl ?_
      refine J.iconst (pc := 33) C (v := 1) dX1_open_33 (by decide) ?_
      refine J.icmp_ne (pc := 34) C (tgt := 61) dX1_open_34 (by decide) hf (fun hf => ?_) (fun hf => ?_)
      · refine J.iload_n (pc := 61) C dX1_open_61 rfl 3 rfl ?_
        refine J.iconst (pc := 62) C (v := 2) dX1_open_62 (by decide) ?_
        refine J.icmp_ne (pc := 63) C (tgt := 69) dX1_open_63 (by decide) hf (fun hf => ?_) (fun hf => ?_)
        · exact J.sub (loc' := [(0, .ref (Xad X k)), (1, .int x1), (2, .int x2), (3, .int x3), (4, .int x4), (5, .int r_4)]) [1, 2, 3, 4, 5, 0] rfl (L69 σ x1 x2 x3 x4 r_4 _ hf hp)
        · refine J.iconst (pc := 66) C (v := 0) dX1_open_66 (by decide) ?_
          refine J.istore (pc := 67) C (loc' := [(5, .int 0), (0, .ref (Xad X k)), (1, .int x1), (2, .int x2), (3, .int x3), (4, .int x4)]) dX1_open_67 (by decide) rfl ?_
          exact J.sub (loc' := [(0, .ref (Xad X k)), (1, .int x1), (2, .int x2), (3, .int x3), (4, .int x4), (5, .int 0)]) [1, 2, 3, 4, 5, 0] rfl (L69 σ x1 x2 x3 x4 0 _ hf hp)
      · refine J.aload_n (pc := 37) C dX1_open_37 rfl 1 rfl ?_
        refine J.aload_n (pc := 38) C dX1_open_38 rfl 1 rfl ?_
        refine J.getI (pc := 39) C kcX1 hk 9 rfl tw_115 rfl dX1_open_39 ?_
        refine J.iload (pc := 42) C dX1_open_42 0 rfl ?_
        refine J.mmaxI (pc := 44) C tw_469 twm_max_s twm_i twm_max_c (Nat.le_of_ble_eq_true rfl) (Nat.le_of_ble_eq_true rfl) dX1_open_44 ?_
        refine J.putM (pc := 47) C kcX1 hk 9 rfl tw_115 rfl rfl rfl rfl hf dX1_open_47 (fun σ_11 hf => ?_)
        refine J.iload (pc := 50) C dX1_open_50 0 rfl ?_
        refine J.iload_n (pc := 52) C dX1_open_52 rfl 4 rfl ?_
        refine J.mminI (pc := 53) C tw_470 twm_min_s twm_i twm_min_c (Nat.le_of_ble_eq_true rfl) (Nat.le_of_ble_eq_true rfl) dX1_open_53 ?_
        refine J.nmI hf (fun x5_12 hf => ?_)
        refine J.istore (pc := 56) C (loc' := [(5, .int x5_12), (0, .ref (Xad X k)), (1, .int x1), (2, .int x2), (3, .int x3), (4, .int x4)]) dX1_open_56 (by decide) rfl ?_
        refine J.goto (pc := 58) C (tgt := 69) dX1_open_58 (by decide) ?_
        exact J.sub (loc' := [(0, .ref (Xad X k)), (1, .int x1), (2, .int x2), (3, .int x3), (4, .int x4), (5, .int x5_12)]) [1, 2, 3, 4, 5, 0] rfl (L69 σ_11 x1 x2 x3 x4 x5_12 _ hf hp)
  have hp : t0 = t0 := rfl
  show J X 0 [(0, .ref (Xad X k)), (1, .int x1), (2, .int x2), (3, .int x3)] [] σ
  unfold f_X1_open at hf
  refine J.iconst (pc := 0) C (v := 0) dX1_open_0 (by decide) ?_
  refine J.istore (pc := 1) C (loc' := [(4, .int 0), (0, .ref (Xad X k)), (1, .int x1), (2, .int x2), (3, .int x3)]) dX1_open_1 (by decide) rfl ?_
  exact J.sub (loc' := [(0, .ref (Xad X k)), (1, .int x1), (2, .int x2), (3, .int x3), (4, .int 0)]) [1, 2, 3, 4, 0] rfl (L3 σ x1 x2 x3 0 _ hf hp)
set_option maxHeartbeats 4000000 in
set_option maxRecDepth 100000 in
theorem m_X1_demandAt {l : Launch} {σ : Mem} {k : Nat} {x1 : Int32} {t0 : Int32} (hf : f_X1_demandAt σ k x1 = some t0) : Ct l yX1_demandAt cX1_demandAt 2 (some FieldType.int) 1 23 (fun ks => Ok ks k 1) (fun ad => [.ref (ad k), .int x1]) σ (fun _ => some (.int t0)) σ := by
  refine Ct.of (plainFor_of_name (by decide)) (fun _ => Nat.le_of_ble_eq_true rfl) ?_
  intro X C _ hk hcl hR
  have C : Cx X RX1 cX1_demandAt 2 (some FieldType.int) 1 23 := C
  have hp : t0 = t0 := rfl
  show J X 0 [(0, .ref (Xad X k)), (1, .int x1)] [] σ
  unfold f_X1_demandAt at hf
  refine J.aload_n (pc := 0) C dX1_demandAt_0 rfl 0 rfl ?_
  refine J.getR (pc := 1) C kcX1 hk 2 rfl tw_102 rfl dX1_demandAt_1 ?_
  refine J.iload_n (pc := 4) C dX1_demandAt_4 rfl 1 rfl ?_
  refine J.iald (pc := 5) C (ok_1_2 hcl hk) hf dX1_demandAt_5 (fun hf => ?_)
  refine J.aload_n (pc := 6) C dX1_demandAt_6 rfl 0 rfl ?_
  refine J.getR (pc := 7) C kcX1 hk 0 rfl tw_98 rfl dX1_demandAt_7 ?_
  refine J.iload_n (pc := 10) C dX1_demandAt_10 rfl 1 rfl ?_
  refine J.iconst (pc := 11) C (v := 0) dX1_demandAt_11 (by decide) ?_
  obtain ⟨r_2, h_1, hf⟩ := bnd_some hf
  refine J.callV (pc := 12) C (m_X4_value h_1) (ok_1_0 hcl hk) wyX4_value tvX4_value_i tvX4_value_s tw_464 kcX4 rfl (ok_1_0 hcl hk) [.int x1, .int 0] [.int (σ (ptr k 2) (ix x1))] rfl rfl (Nat.le_of_ble_eq_true rfl) (Nat.le_of_ble_eq_true rfl) (Nat.le_of_ble_eq_true rfl) (stk' := [.int r_2, .int (σ (ptr k 2) (ix x1))]) rfl dX1_demandAt_12 rfl ?_
  refine J.imul (pc := 15) C dX1_demandAt_15 ?_
  exact J.iretP (pc := 16) C hR ((Option.some.inj hf).trans hp) dX1_demandAt_16
set_option maxHeartbeats 4000000 in
set_option maxRecDepth 100000 in
theorem m_X1_demandOf {l : Launch} {n : Nat} {σ : Mem} {k : Nat} {x1 : Int32} {t0 : Int32} (hf : f_X1_demandOf n σ k x1 = some t0) : Ct l yX1_demandOf cX1_demandOf 4 (some FieldType.int) 2 44 (fun ks => Ok ks k 1) (fun ad => [.ref (ad k), .int x1]) σ (fun _ => some (.int t0)) σ := by
  refine Ct.of (plainFor_of_name (by decide)) (fun _ => Nat.le_of_ble_eq_true rfl) ?_
  intro X C _ hk hcl hR
  have C : Cx X RX1 cX1_demandOf 4 (some FieldType.int) 2 44 := C
  have L4 : ∀ (x1 : Int32) (x2 : Int32) (x3 : Int32) (t : Int32), f_X1_demandOf_L4 n σ k x1 x2 x3 = some t → t = t0 → J X 4 [(0, .ref (Xad X k)), (1, .int x1), (2, .int x2), (3, .int x3)] [] σ := by
    intro x1 x2 x3 t hf hp
    unfold f_X1_demandOf_L4 at hf
    refine J_iter (JJ := fun (s : Int32 × Int32) => J X 4 [(0, .ref (Xad X k)), (1, .int x1), (2, .int (s.1)), (3, .int (s.2))] [] σ) (Ps := fun t => t = t0) ?_ n (x2, x3) t hf hp
    clear hf hp
    intro s t hf hp hq
    obtain ⟨x2, x3⟩ := s
    have hp := And.intro hp hq
    clear hq
    have hf : f_X1_demandOf_B4 n σ k x1 x2 x3 = some t := hf
    show J X 4 [(0, .ref (Xad X k)), (1, .int x1), (2, .int x2), (3, .int x3)] [] σ
    unfold f_X1_demandOf_B4 at hf
    refine J.iload_n (pc := 4) C dX1_demandOf_4 rfl 3 rfl ?_
    refine J.aload_n (pc := 5) C dX1_demandOf_5 rfl 0 rfl ?_
    refine J.getI (pc := 6) C kcX1 hk 8 rfl tw_113 rfl dX1_demandOf_6 ?_
    refine J.icmp_ge (pc := 9) C (tgt := 39) dX1_demandOf_9 (by decide) hf (fun hf => ?_) (fun hf => ?_)
    · refine J.iload_n (pc := 39) C dX1_demandOf_39 rfl 2 rfl ?_
      exact J.iretP (pc := 40) C hR ((hp.1 _ (Option.some.inj hf).symm)) dX1_demandOf_40
    · refine J.aload_n (pc := 12) C dX1_demandOf_12 rfl 0 rfl ?_
      refine J.getR (pc := 13) C kcX1 hk 0 rfl tw_98 rfl dX1_demandOf_13 ?_
      refine J.iload_n (pc := 16) C dX1_demandOf_16 rfl 3 rfl ?_
      refine J.iconst (pc := 17) C (v := 4) dX1_demandOf_17 (by decide) ?_
      obtain ⟨r_2, h_1, hf⟩ := bnd_some hf
      refine J.callV (pc := 18) C (m_X4_value h_1) (ok_1_0 hcl hk) wyX4_value tvX4_value_i tvX4_value_s tw_464 kcX4 rfl (ok_1_0 hcl hk) [.int x3, .int 4] [] rfl rfl (Nat.le_of_ble_eq_true rfl) (Nat.le_of_ble_eq_true rfl) (Nat.le_of_ble_eq_true rfl) (stk' := [.int r_2]) rfl dX1_demandOf_18 rfl ?_
      refine J.iload_n (pc := 21) C dX1_demandOf_21 rfl 1 rfl ?_
      refine J.icmp_ne (pc := 22) C (tgt := 33) dX1_demandOf_22 (by decide) hf (fun hf => ?_) (fun hf => ?_)
      · obtain ⟨x3_3, hx_x3_3, hf⟩ := nm_some hf
        refine J.iinc (pc := 33) C (v := x3_3) (loc' := [(3, .int x3_3), (0, .ref (Xad X k)), (1, .int x1), (2, .int x2)]) dX1_demandOf_33 (k := 3) rfl (by rw [hx_x3_3]; rfl) (by decide) rfl ?_
        refine J.goto (pc := 36) C (tgt := 4) dX1_demandOf_36 (by decide) ?_
        exact J.sub (loc' := [(0, .ref (Xad X k)), (1, .int x1), (2, .int x2), (3, .int x3_3)]) [1, 2, 3, 0] rfl (hp.2 _ (Option.some.inj hf).symm)
      · refine J.iload_n (pc := 25) C dX1_demandOf_25 rfl 2 rfl ?_
        refine J.aload_n (pc := 26) C dX1_demandOf_26 rfl 0 rfl ?_
        refine J.iload_n (pc := 27) C dX1_demandOf_27 rfl 3 rfl ?_
        obtain ⟨r_5, h_4, hf⟩ := bnd_some hf
        refine J.callV (pc := 28) C (m_X1_demandAt h_4) hk wyX1_demandAt tvX1_demandAt_i tvX1_demandAt_s tw_486 kcX1 rfl hk [.int x3] [.int x2] rfl rfl (Nat.le_of_ble_eq_true rfl) (Nat.le_of_ble_eq_true rfl) (Nat.le_of_ble_eq_true rfl) (stk' := [.int r_5, .int x2]) rfl dX1_demandOf_28 rfl ?_
        refine J.iadd (pc := 31) C dX1_demandOf_31 ?_
        refine J.nmI hf (fun x2_6 hf => ?_)
        refine J.istore_n (pc := 32) C (loc' := [(2, .int x2_6), (0, .ref (Xad X k)), (1, .int x1), (3, .int x3)]) dX1_demandOf_32 rfl (by decide) rfl ?_
        obtain ⟨x3_7, hx_x3_7, hf⟩ := nm_some hf
        refine J.iinc (pc := 33) C (v := x3_7) (loc' := [(3, .int x3_7), (2, .int x2_6), (0, .ref (Xad X k)), (1, .int x1)]) dX1_demandOf_33 (k := 3) rfl (by rw [hx_x3_7]; rfl) (by decide) rfl ?_
        refine J.goto (pc := 36) C (tgt := 4) dX1_demandOf_36 (by decide) ?_
        exact J.sub (loc' := [(0, .ref (Xad X k)), (1, .int x1), (2, .int x2_6), (3, .int x3_7)]) [2, 3, 1, 0] rfl (hp.2 _ (Option.some.inj hf).symm)
  have hp : t0 = t0 := rfl
  show J X 0 [(0, .ref (Xad X k)), (1, .int x1)] [] σ
  unfold f_X1_demandOf at hf
  refine J.iconst (pc := 0) C (v := 0) dX1_demandOf_0 (by decide) ?_
  refine J.istore_n (pc := 1) C (loc' := [(2, .int 0), (0, .ref (Xad X k)), (1, .int x1)]) dX1_demandOf_1 rfl (by decide) rfl ?_
  refine J.iconst (pc := 2) C (v := 0) dX1_demandOf_2 (by decide) ?_
  refine J.istore_n (pc := 3) C (loc' := [(3, .int 0), (2, .int 0), (0, .ref (Xad X k)), (1, .int x1)]) dX1_demandOf_3 rfl (by decide) rfl ?_
  exact J.sub (loc' := [(0, .ref (Xad X k)), (1, .int x1), (2, .int 0), (3, .int 0)]) [2, 3, 1, 0] rfl (L4 x1 0 0 _ hf hp)
set_option maxHeartbeats 4000000 in
set_option maxRecDepth 100000 in
theorem m_J9_floorDiv_f86c9 {l : Launch} {x0 : Int64} {x2 : Int64} {σ : Mem} {t0 : Int64} (hf : f_J9_floorDiv_f86c9 x0 x2 = some t0) : Ct l yJ9_floorDiv_f86c9 cJ9_floorDiv_f86c9 6 (some FieldType.long) 0 0 (fun _ => True) (fun _ => [.long x0, .long x2]) σ (fun _ => some (.long t0)) σ := by
  refine Ct.of (by decide +kernel) (fun _ => Nat.le_of_ble_eq_true rfl) ?_
  intro X C _ _ hcl hR
  have C : Cx X RJ9 cJ9_floorDiv_f86c9 6 (some FieldType.long) 0 0 := C
  have hp : t0 = t0 := rfl
  show J X 0 [(0, .long x0), (2, .long x2)] [] σ
  unfold f_J9_floorDiv_f86c9 at hf
  refine J.lload_n (pc := 0) C dJ9_floorDiv_f86c9_0 rfl 0 rfl ?_
  refine J.lload_n (pc := 1) C dJ9_floorDiv_f86c9_1 rfl 1 rfl ?_
  obtain ⟨hne, hf⟩ := chk_some hf
  refine J.ldiv (pc := 2) C dJ9_floorDiv_f86c9_2 (of_decide_eq_true hne) ?_
  refine J.nmJ hf (fun x4_1 hf => ?_)
  refine J.lstore (pc := 3) C (loc' := [(4, .long x4_1), (0, .long x0), (2, .long x2)]) dJ9_floorDiv_f86c9_3 (by decide) rfl ?_
  refine J.lload_n (pc := 5) C dJ9_floorDiv_f86c9_5 rfl 1 rfl ?_
  refine J.lload_n (pc := 6) C dJ9_floorDiv_f86c9_6 rfl 2 rfl ?_
  refine J.lxor (pc := 7) C dJ9_floorDiv_f86c9_7 ?_
  refine J.lconst (pc := 8) C (v := 0) dJ9_floorDiv_f86c9_8 (by decide) ?_
  refine J.lcmp (pc := 9) C dJ9_floorDiv_f86c9_9 ?_
  refine J.if_ge (pc := 10) C (tgt := 27) dJ9_floorDiv_f86c9_10 (by decide) hf (fun hf => ?_) (fun hf => ?_)
  · refine J.lload (pc := 27) C dJ9_floorDiv_f86c9_27 0 rfl ?_
    exact J.lretP (pc := 29) C hR ((Option.some.inj hf).trans hp) dJ9_floorDiv_f86c9_29
  · refine J.lload (pc := 13) C dJ9_floorDiv_f86c9_13 0 rfl ?_
    refine J.lload_n (pc := 15) C dJ9_floorDiv_f86c9_15 rfl 2 rfl ?_
    refine J.lmul (pc := 16) C dJ9_floorDiv_f86c9_16 ?_
    refine J.lload_n (pc := 17) C dJ9_floorDiv_f86c9_17 rfl 1 rfl ?_
    refine J.lcmp (pc := 18) C dJ9_floorDiv_f86c9_18 ?_
    refine J.if_eq (pc := 19) C (tgt := 27) dJ9_floorDiv_f86c9_19 (by decide) hf (fun hf => ?_) (fun hf => ?_)
    · refine J.lload (pc := 27) C dJ9_floorDiv_f86c9_27 0 rfl ?_
      exact J.lretP (pc := 29) C hR ((Option.some.inj hf).trans hp) dJ9_floorDiv_f86c9_29
    · refine J.lload (pc := 22) C dJ9_floorDiv_f86c9_22 0 rfl ?_
      refine J.lconst (pc := 24) C (v := 1) dJ9_floorDiv_f86c9_24 (by decide) ?_
      refine J.lsub (pc := 25) C dJ9_floorDiv_f86c9_25 ?_
      exact J.lretP (pc := 26) C hR ((Option.some.inj hf).trans hp) dJ9_floorDiv_f86c9_26
set_option maxHeartbeats 4000000 in
set_option maxRecDepth 100000 in
theorem m_X8_quotient {l : Launch} {x0 : Int64} {x2 : Int64} {σ : Mem} {t0 : Int64} (hf : f_X8_quotient x0 x2 = some t0) : Ct l yX8_quotient cX8_quotient 4 (some FieldType.long) 1 25 (fun _ => True) (fun _ => [.long x0, .long x2]) σ (fun _ => some (.long t0)) σ := by
  refine Ct.of (plainFor_of_name (by decide)) (fun _ => Nat.le_of_ble_eq_true rfl) ?_
  intro X C _ _ hcl hR
  have C : Cx X RX8 cX8_quotient 4 (some FieldType.long) 1 25 := C
  have hp : t0 = t0 := rfl
  show J X 0 [(0, .long x0), (2, .long x2)] [] σ
  unfold f_X8_quotient at hf
  refine J.lload_n (pc := 0) C dX8_quotient_0 rfl 1 rfl ?_
  refine J.lconst (pc := 1) C (v := 1) dX8_quotient_1 (by decide) ?_
  refine J.lcmp (pc := 2) C dX8_quotient_2 ?_
  refine J.if_ge (pc := 3) C (tgt := 10) dX8_quotient_3 (by decide) hf (fun hf => ?_) (fun hf => ?_)
  · refine J.lload_n (pc := 10) C dX8_quotient_10 rfl 0 rfl ?_
    refine J.lload_n (pc := 11) C dX8_quotient_11 rfl 1 rfl ?_
    obtain ⟨r_2, h_1, hf⟩ := bnd_some hf
    refine J.callS (pc := 12) C (m_J9_floorDiv_f86c9 h_1) trivial wyJ9_floorDiv_f86c9 tsJ9_floorDiv_f86c9 tw_447 [.long x0, .long x2] [] rfl rfl (Nat.le_of_ble_eq_true rfl) (Nat.le_of_ble_eq_true rfl) (Nat.le_of_ble_eq_true rfl) (stk' := [.long r_2]) rfl dX8_quotient_12 rfl ?_
    exact J.lretP (pc := 15) C hR ((Option.some.inj hf).trans hp) dX8_quotient_15
  · refine J.lconst (pc := 6) C (v := 0) dX8_quotient_6 (by decide) ?_
    refine J.goto (pc := 7) C (tgt := 15) dX8_quotient_7 (by decide) ?_
    exact J.lretP (pc := 15) C hR ((Option.some.inj hf).trans hp) dX8_quotient_15
set_option maxHeartbeats 4000000 in
set_option maxRecDepth 100000 in
theorem m_X1_flow {l : Launch} {n : Nat} {σ : Mem} {k : Nat} {x1 : Int32} {x2 : Int32} {x3 : Int32} {t0 : Mem} (hf : f_X1_flow n σ k x1 x2 x3 = some t0) : Ct l yX1_flow cX1_flow 6 none 2 48 (fun ks => Ok ks k 1) (fun ad => [.ref (ad k), .int x1, .int x2, .int x3]) σ (fun _ => none) t0 := by
  refine Ct.of (plainFor_of_name (by decide)) (fun _ => Nat.le_of_ble_eq_true rfl) ?_
  intro X C _ hk hcl hR
  have C : Cx X RX1 cX1_flow 6 none 2 48 := C
  have L62 : ∀ (σ : Mem) (x1 : Int32) (x2 : Int32) (x3 : Int32) (x4 : Int32) (y0 : Int32) (y1 : Int32) (t : (Mem ⊕ (Mem × Int32))), f_X1_flow_L62 n σ k x1 x2 x3 x4 y0 y1 = some t → ((∀ r1, t = .inl r1 → r1 = t0) ∧ (∀ s1, t = .inr s1 → J X 3 [(0, .ref (Xad X k)), (1, .int x1), (2, .int x2), (3, .int x3), (4, .int (s1.2))] [] s1.1)) → J X 62 [(0, .ref (Xad X k)), (1, .int x1), (2, .int x2), (3, .int x3), (4, .int x4)] [.int y0, .int y1, .ref (Xad X (ptr k 3))] σ := by
    intro σ x1 x2 x3 x4 y0 y1 t hf hp
    unfold f_X1_flow_L62 at hf
    refine J.iastM (pc := 62) C (ok_1_3 hcl hk) hf dX1_flow_62 (fun σ_8 hf => ?_)
    obtain ⟨x4_9, hx_x4_9, hf⟩ := nm_some hf
    refine J.iinc (pc := 63) C (v := x4_9) (loc' := [(4, .int x4_9), (0, .ref (Xad X k)), (1, .int x1), (2, .int x2), (3, .int x3)]) dX1_flow_63 (k := 4) rfl (by rw [hx_x4_9]; rfl) (by decide) rfl ?_
    refine J.goto (pc := 66) C (tgt := 3) dX1_flow_66 (by decide) ?_
    exact J.sub (loc' := [(0, .ref (Xad X k)), (1, .int x1), (2, .int x2), (3, .int x3), (4, .int x4_9)]) [1, 2, 3, 4, 0] rfl (hp.2 _ (Option.some.inj hf).symm)
  have L3 : ∀ (σ : Mem) (x1 : Int32) (x2 : Int32) (x3 : Int32) (x4 : Int32) (t : Mem), f_X1_flow_L3 n σ k x1 x2 x3 x4 = some t → t = t0 → J X 3 [(0, .ref (Xad X k)), (1, .int x1), (2, .int x2), (3, .int x3), (4, .int x4)] [] σ := by
    intro σ x1 x2 x3 x4 t hf hp
    unfold f_X1_flow_L3 at hf
    refine J_iter (JJ := fun (s : Mem × Int32) => J X 3 [(0, .ref (Xad X k)), (1, .int x1), (2, .int x2), (3, .int x3), (4, .int (s.2))] [] s.1) (Ps := fun t => t = t0) ?_ n (σ, x4) t hf hp
    clear hf hp
    intro s t hf hp hq
    obtain ⟨σ, x4⟩ := s
    have hp := And.intro hp hq
    clear hq
    have hf : f_X1_flow_B3 n σ k x1 x2 x3 x4 = some t := hf
    show J X 3 [(0, .ref (Xad X k)), (1, .int x1), (2, .int x2), (3, .int x3), (4, .int x4)] [] σ
    unfold f_X1_flow_B3 at hf
    refine J.iload (pc := 3) C dX1_flow_3 4 rfl ?_
    refine J.aload_n (pc := 5) C dX1_flow_5 rfl 0 rfl ?_
    refine J.getI (pc := 6) C kcX1 hk 8 rfl tw_113 rfl dX1_flow_6 ?_
    refine J.icmp_ge (pc := 9) C (tgt := 69) dX1_flow_9 (by decide) hf (fun hf => ?_) (fun hf => ?_)
    · exact J.vretM (pc := 69) C hR ((hp.1 _ (Option.some.inj hf).symm)) dX1_flow_69
    · refine J.aload_n (pc := 12) C dX1_flow_12 rfl 0 rfl ?_
      refine J.getR (pc := 13) C kcX1 hk 0 rfl tw_98 rfl dX1_flow_13 ?_
      refine J.iload (pc := 16) C dX1_flow_16 4 rfl ?_
      refine J.iconst (pc := 18) C (v := 4) dX1_flow_18 (by decide) ?_
      obtain ⟨r_2, h_1, hf⟩ := bnd_some hf
      refine J.callV (pc := 19) C (m_X4_value h_1) (ok_1_0 hcl hk) wyX4_value tvX4_value_i tvX4_value_s tw_464 kcX4 rfl (ok_1_0 hcl hk) [.int x4, .int 4] [] rfl rfl (Nat.le_of_ble_eq_true rfl) (Nat.le_of_ble_eq_true rfl) (Nat.le_of_ble_eq_true rfl) (stk' := [.int r_2]) rfl dX1_flow_19 rfl ?_
      refine J.iload_n (pc := 22) C dX1_flow_22 rfl 1 rfl ?_
      refine J.icmp_ne (pc := 23) C (tgt := 63) dX1_flow_23 (by decide) hf (fun hf => ?_) (fun hf => ?_)
      · obtain ⟨x4_3, hx_x4_3, hf⟩ := nm_some hf
        refine J.iinc (pc := 63) C (v := x4_3) (loc' := [(4, .int x4_3), (0, .ref (Xad X k)), (1, .int x1), (2, .int x2), (3, .int x3)]) dX1_flow_63 (k := 4) rfl (by rw [hx_x4_3]; rfl) (by decide) rfl ?_
        refine J.goto (pc := 66) C (tgt := 3) dX1_flow_66 (by decide) ?_
        exact J.sub (loc' := [(0, .ref (Xad X k)), (1, .int x1), (2, .int x2), (3, .int x3), (4, .int x4_3)]) [1, 2, 3, 4, 0] rfl (hp.2 _ (Option.some.inj hf).symm)
      · refine J.aload_n (pc := 26) C dX1_flow_26 rfl 0 rfl ?_
        refine J.iload (pc := 27) C dX1_flow_27 4 rfl ?_
        obtain ⟨r_5, h_4, hf⟩ := bnd_some hf
        refine J.callV (pc := 29) C (m_X1_demandAt h_4) hk wyX1_demandAt tvX1_demandAt_i tvX1_demandAt_s tw_486 kcX1 rfl hk [.int x4] [] rfl rfl (Nat.le_of_ble_eq_true rfl) (Nat.le_of_ble_eq_true rfl) (Nat.le_of_ble_eq_true rfl) (stk' := [.int r_5]) rfl dX1_flow_29 rfl ?_
        refine J.istore (pc := 32) C (loc' := [(5, .int r_5), (0, .ref (Xad X k)), (1, .int x1), (2, .int x2), (3, .int x3), (4, .int x4)]) dX1_flow_32 (by decide) rfl ?_
        refine J.aload_n (pc := 34) C dX1_flow_34 rfl 1 rfl ?_
        refine J.getR (pc := 35) C kcX1 hk 3 rfl tw_104 rfl dX1_flow_35 ?_
        refine J.iload (pc := 38) C dX1_flow_38 5 rfl ?_
        refine J.iload_n (pc := 40) C dX1_flow_40 rfl 3 rfl ?_
        refine J.iload_n (pc := 41) C dX1_flow_41 rfl 4 rfl ?_
        refine J.icmp_gt (pc := 42) C (tgt := 50) dX1_flow_42 (by decide) hf (fun hf => ?_) (fun hf => ?_)
        · refine J.iload (pc := 50) C dX1_flow_50 0 rfl ?_
          refine J.i2l (pc := 52) C dX1_flow_52 ?_
          refine J.iload_n (pc := 53) C dX1_flow_53 rfl 4 rfl ?_
          refine J.i2l (pc := 54) C dX1_flow_54 ?_
          refine J.lmul (pc := 55) C dX1_flow_55 ?_
          refine J.iload_n (pc := 56) C dX1_flow_56 rfl 3 rfl ?_
          refine J.i2l (pc := 57) C dX1_flow_57 ?_
          obtain ⟨r_7, h_6, hf⟩ := bnd_some hf
          refine J.callSN (pc := 58) C (m_X8_quotient h_6) trivial wyX8_quotient tsX8_quotient tn_497 [.long ((r_5.toInt64) * (x3.toInt64)), .long (x2.toInt64)] [.int x4, .ref (Xad X (ptr k 3))] rfl rfl (Nat.le_of_ble_eq_true rfl) (Nat.le_of_ble_eq_true rfl) (Nat.le_of_ble_eq_true rfl) (stk' := [.long r_7, .int x4, .ref (Xad X (ptr k 3))]) rfl dX1_flow_58 rfl ?_
          refine J.l2i (pc := 61) C dX1_flow_61 ?_
          exact J.sub (loc' := [(0, .ref (Xad X k)), (1, .int x1), (2, .int x2), (3, .int x3), (4, .int x4)]) [1, 2, 3, 4, 5] rfl (L62 σ x1 x2 x3 x4 (r_7.toInt32) x4 _ hf hp)
        · refine J.iload (pc := 45) C dX1_flow_45 0 rfl ?_
          refine J.goto (pc := 47) C (tgt := 62) dX1_flow_47 (by decide) ?_
          exact J.sub (loc' := [(0, .ref (Xad X k)), (1, .int x1), (2, .int x2), (3, .int x3), (4, .int x4)]) [1, 2, 3, 4, 5] rfl (L62 σ x1 x2 x3 x4 r_5 x4 _ hf hp)
  have hp : t0 = t0 := rfl
  show J X 0 [(0, .ref (Xad X k)), (1, .int x1), (2, .int x2), (3, .int x3)] [] σ
  unfold f_X1_flow at hf
  refine J.iconst (pc := 0) C (v := 0) dX1_flow_0 (by decide) ?_
  refine J.istore (pc := 1) C (loc' := [(4, .int 0), (0, .ref (Xad X k)), (1, .int x1), (2, .int x2), (3, .int x3)]) dX1_flow_1 (by decide) rfl ?_
  exact J.sub (loc' := [(0, .ref (Xad X k)), (1, .int x1), (2, .int x2), (3, .int x3), (4, .int 0)]) [1, 2, 3, 4, 0] rfl (L3 σ x1 x2 x3 0 _ hf hp)
