set_option maxHeartbeats 4000000 in
set_option maxRecDepth 100000 in
theorem m_X1_rise {l : Launch} {n : Nat} {σ : Mem} {k : Nat} {x1 : Int32} {t0 : Mem} (hf : f_X1_rise n σ k x1 = some t0) : Ct l yX1_rise cX1_rise 5 none 2 48 (fun ks => Ok ks k 1) (fun ad => [.ref (ad k), .int x1]) σ (fun _ => none) t0 := by
  refine Ct.of (plainFor_of_name (by decide)) (fun _ => Nat.le_of_ble_eq_true rfl) ?_
  intro X C _ hk hcl hR
  have C : Cx X RX1 cX1_rise 5 none 2 48 := C
  have L2 : ∀ (σ : Mem) (x1 : Int32) (x2 : Int32) (t : Mem), f_X1_rise_L2 n σ k x1 x2 = some t → t = t0 → J X 2 [(0, .ref (Xad X k)), (1, .int x1), (2, .int x2)] [] σ := by
    intro σ x1 x2 t hf hp
    unfold f_X1_rise_L2 at hf
    refine J_iter (JJ := fun (s : Mem × Int32) => J X 2 [(0, .ref (Xad X k)), (1, .int x1), (2, .int (s.2))] [] s.1) (Ps := fun t => t = t0) ?_ n (σ, x2) t hf hp
    clear hf hp
    intro s t hf hp hq
    obtain ⟨σ, x2⟩ := s
    have hp := And.intro hp hq
    clear hq
    have hf : f_X1_rise_B2 n σ k x1 x2 = some t := hf
    show J X 2 [(0, .ref (Xad X k)), (1, .int x1), (2, .int x2)] [] σ
    unfold f_X1_rise_B2 at hf
    refine J.iload_n (pc := 2) C dX1_rise_2 rfl 2 rfl ?_
    refine J.aload_n (pc := 3) C dX1_rise_3 rfl 0 rfl ?_
    refine J.getI (pc := 4) C kcX1 hk 8 rfl tw_113 rfl dX1_rise_4 ?_
    refine J.icmp_ge (pc := 7) C (tgt := 115) dX1_rise_7 (by decide) hf (fun hf => ?_) (fun hf => ?_)
    · exact J.vretM (pc := 115) C hR ((hp.1 _ (Option.some.inj hf).symm)) dX1_rise_115
    · refine J.aload_n (pc := 10) C dX1_rise_10 rfl 0 rfl ?_
      refine J.getR (pc := 11) C kcX1 hk 3 rfl tw_104 rfl dX1_rise_11 ?_
      refine J.iload_n (pc := 14) C dX1_rise_14 rfl 2 rfl ?_
      refine J.iald (pc := 15) C (ok_1_3 hcl hk) hf dX1_rise_15 (fun hf => ?_)
      refine J.i2l (pc := 16) C dX1_rise_16 ?_
      refine J.aload_n (pc := 17) C dX1_rise_17 rfl 0 rfl ?_
      refine J.getR (pc := 18) C kcX1 hk 0 rfl tw_98 rfl dX1_rise_18 ?_
      refine J.iload_n (pc := 21) C dX1_rise_21 rfl 2 rfl ?_
      refine J.iconst (pc := 22) C (v := 0) dX1_rise_22 (by decide) ?_
      obtain ⟨r_2, h_1, hf⟩ := bnd_some hf
      refine J.callV (pc := 23) C (m_X4_value h_1) (ok_1_0 hcl hk) wyX4_value tvX4_value_i tvX4_value_s tw_464 kcX4 rfl (ok_1_0 hcl hk) [.int x2, .int 0] [.long ((σ (ptr k 3) (ix x2)).toInt64)] rfl rfl (Nat.le_of_ble_eq_true rfl) (Nat.le_of_ble_eq_true rfl) (Nat.le_of_ble_eq_true rfl) (stk' := [.int r_2, .long ((σ (ptr k 3) (ix x2)).toInt64)]) rfl dX1_rise_23 rfl ?_
      refine J.i2l (pc := 26) C dX1_rise_26 ?_
      obtain ⟨r_4, h_3, hf⟩ := bnd_some hf
      refine J.callSN (pc := 27) C (m_X8_quotient h_3) trivial wyX8_quotient tsX8_quotient tn_497 [.long ((σ (ptr k 3) (ix x2)).toInt64), .long (r_2.toInt64)] [] rfl rfl (Nat.le_of_ble_eq_true rfl) (Nat.le_of_ble_eq_true rfl) (Nat.le_of_ble_eq_true rfl) (stk' := [.long r_4]) rfl dX1_rise_27 rfl ?_
      refine J.lstore_n (pc := 30) C (loc' := [(3, .long r_4), (0, .ref (Xad X k)), (1, .int x1), (2, .int x2)]) dX1_rise_30 rfl (by decide) rfl ?_
      refine J.aload_n (pc := 31) C dX1_rise_31 rfl 1 rfl ?_
      refine J.getR (pc := 32) C kcX1 hk 4 rfl tw_106 rfl dX1_rise_32 ?_
      refine J.iload_n (pc := 35) C dX1_rise_35 rfl 3 rfl ?_
      refine J.aload_n (pc := 36) C dX1_rise_36 rfl 1 rfl ?_
      refine J.getR (pc := 37) C kcX1 hk 0 rfl tw_98 rfl dX1_rise_37 ?_
      refine J.iload_n (pc := 40) C dX1_rise_40 rfl 3 rfl ?_
      refine J.iconst (pc := 41) C (v := 1) dX1_rise_41 (by decide) ?_
      obtain ⟨r_6, h_5, hf⟩ := bnd_some hf
      refine J.callV (pc := 42) C (m_X4_value h_5) (ok_1_0 hcl hk) wyX4_value tvX4_value_i tvX4_value_s tw_464 kcX4 rfl (ok_1_0 hcl hk) [.int x2, .int 1] [.int x2, .ref (Xad X (ptr k 4))] rfl rfl (Nat.le_of_ble_eq_true rfl) (Nat.le_of_ble_eq_true rfl) (Nat.le_of_ble_eq_true rfl) (stk' := [.int r_6, .int x2, .ref (Xad X (ptr k 4))]) rfl dX1_rise_42 rfl ?_
      refine J.i2l (pc := 45) C dX1_rise_45 ?_
      refine J.lload_n (pc := 46) C dX1_rise_46 rfl 0 rfl ?_
      refine J.lmul (pc := 47) C dX1_rise_47 ?_
      refine J.lload_n (pc := 48) C dX1_rise_48 rfl 0 rfl ?_
      refine J.lmul (pc := 49) C dX1_rise_49 ?_
      refine J.ldc2 (pc := 50) C (v := 1000000) dX1_rise_50 tw_503 ?_
      refine J.ldiv (pc := 53) C dX1_rise_53 (by decide) ?_
      refine J.l2i (pc := 54) C dX1_rise_54 ?_
      refine J.iastM (pc := 55) C (ok_1_4 hcl hk) hf dX1_rise_55 (fun σ_7 hf => ?_)
      refine J.aload_n (pc := 56) C dX1_rise_56 rfl 1 rfl ?_
      refine J.getR (pc := 57) C kcX1 hk 5 rfl tw_108 rfl dX1_rise_57 ?_
      refine J.iload_n (pc := 60) C dX1_rise_60 rfl 3 rfl ?_
      refine J.aload_n (pc := 61) C dX1_rise_61 rfl 1 rfl ?_
      refine J.getR (pc := 62) C kcX1 hk 4 rfl tw_106 rfl dX1_rise_62 ?_
      refine J.iload_n (pc := 65) C dX1_rise_65 rfl 3 rfl ?_
      refine J.iald (pc := 66) C (ok_1_4 hcl hk) hf dX1_rise_66 (fun hf => ?_)
      refine J.i2l (pc := 67) C dX1_rise_67 ?_
      refine J.iload_n (pc := 68) C dX1_rise_68 rfl 2 rfl ?_
      refine J.i2l (pc := 69) C dX1_rise_69 ?_
      refine J.lmul (pc := 70) C dX1_rise_70 ?_
      refine J.aload_n (pc := 71) C dX1_rise_71 rfl 1 rfl ?_
      refine J.getR (pc := 72) C kcX1 hk 0 rfl tw_98 rfl dX1_rise_72 ?_
      refine J.iload_n (pc := 75) C dX1_rise_75 rfl 3 rfl ?_
      refine J.iconst (pc := 76) C (v := 5) dX1_rise_76 (by decide) ?_
      obtain ⟨r_9, h_8, hf⟩ := bnd_some hf
      refine J.callV (pc := 77) C (m_X4_value h_8) (ok_1_0 hcl hk) wyX4_value tvX4_value_i tvX4_value_s tw_464 kcX4 rfl (ok_1_0 hcl hk) [.int x2, .int 5] [.long (((σ_7 (ptr k 4) (ix x2)).toInt64) * (x1.toInt64)), .int x2, .ref (Xad X (ptr k 5))] rfl rfl (Nat.le_of_ble_eq_true rfl) (Nat.le_of_ble_eq_true rfl) (Nat.le_of_ble_eq_true rfl) (stk' := [.int r_9, .long (((σ_7 (ptr k 4) (ix x2)).toInt64) * (x1.toInt64)), .int x2, .ref (Xad X (ptr k 5))]) rfl dX1_rise_77 rfl ?_
      refine J.i2l (pc := 80) C dX1_rise_80 ?_
      refine J.lmul (pc := 81) C dX1_rise_81 ?_
      refine J.ldc2 (pc := 82) C (v := 100000) dX1_rise_82 tw_504 ?_
      refine J.ldiv (pc := 85) C dX1_rise_85 (by decide) ?_
      refine J.l2i (pc := 86) C dX1_rise_86 ?_
      refine J.iastM (pc := 87) C (ok_1_5 hcl hk) hf dX1_rise_87 (fun σ_10 hf => ?_)
      refine J.aload_n (pc := 88) C dX1_rise_88 rfl 1 rfl ?_
      refine J.getR (pc := 89) C kcX1 hk 6 rfl tw_110 rfl dX1_rise_89 ?_
      refine J.iload_n (pc := 92) C dX1_rise_92 rfl 3 rfl ?_
      refine J.aload_n (pc := 93) C dX1_rise_93 rfl 1 rfl ?_
      refine J.getR (pc := 94) C kcX1 hk 6 rfl tw_110 rfl dX1_rise_94 ?_
      refine J.iload_n (pc := 97) C dX1_rise_97 rfl 3 rfl ?_
      refine J.iald (pc := 98) C (ok_1_6 hcl hk) hf dX1_rise_98 (fun hf => ?_)
      refine J.aload_n (pc := 99) C dX1_rise_99 rfl 1 rfl ?_
      refine J.getR (pc := 100) C kcX1 hk 4 rfl tw_106 rfl dX1_rise_100 ?_
      refine J.iload_n (pc := 103) C dX1_rise_103 rfl 3 rfl ?_
      refine J.iald (pc := 104) C (ok_1_4 hcl hk) hf dX1_rise_104 (fun hf => ?_)
      refine J.mmaxI (pc := 105) C tw_469 twm_max_s twm_i twm_max_c (Nat.le_of_ble_eq_true rfl) (Nat.le_of_ble_eq_true rfl) dX1_rise_105 ?_
      refine J.iastM (pc := 108) C (ok_1_6 hcl hk) hf dX1_rise_108 (fun σ_11 hf => ?_)
      obtain ⟨x2_12, hx_x2_12, hf⟩ := nm_some hf
      refine J.iinc (pc := 109) C (v := x2_12) (loc' := [(2, .int x2_12), (3, .long r_4), (0, .ref (Xad X k)), (1, .int x1)]) dX1_rise_109 (k := 3) rfl (by rw [hx_x2_12]; rfl) (by decide) rfl ?_
      refine J.goto (pc := 112) C (tgt := 2) dX1_rise_112 (by decide) ?_
      exact J.sub (loc' := [(0, .ref (Xad X k)), (1, .int x1), (2, .int x2_12)]) [2, 3, 0] rfl (hp.2 _ (Option.some.inj hf).symm)
  have hp : t0 = t0 := rfl
  show J X 0 [(0, .ref (Xad X k)), (1, .int x1)] [] σ
  unfold f_X1_rise at hf
  refine J.iconst (pc := 0) C (v := 0) dX1_rise_0 (by decide) ?_
  refine J.istore_n (pc := 1) C (loc' := [(2, .int 0), (0, .ref (Xad X k)), (1, .int x1)]) dX1_rise_1 rfl (by decide) rfl ?_
  exact J.sub (loc' := [(0, .ref (Xad X k)), (1, .int x1), (2, .int 0)]) [1, 2, 0] rfl (L2 σ x1 0 _ hf hp)
set_option maxHeartbeats 4000000 in
set_option maxRecDepth 100000 in
theorem m_X1_driftsBeyond {l : Launch} {n : Nat} {σ : Mem} {k : Nat} {x1 : Int32} {t0 : Int32} (hf : f_X1_driftsBeyond n σ k x1 = some t0) : Ct l yX1_driftsBeyond cX1_driftsBeyond 3 (some FieldType.boolean) 0 0 (fun ks => Ok ks k 1) (fun ad => [.ref (ad k), .int x1]) σ (fun _ => some (.int t0)) σ := by
  refine Ct.of (plainFor_of_name (by decide)) (fun _ => Nat.le_of_ble_eq_true rfl) ?_
  intro X C _ hk hcl hR
  have C : Cx X RX1 cX1_driftsBeyond 3 (some FieldType.boolean) 0 0 := C
  have L2 : ∀ (x1 : Int32) (x2 : Int32) (t : Int32), f_X1_driftsBeyond_L2 n σ k x1 x2 = some t → t = t0 → J X 2 [(0, .ref (Xad X k)), (1, .int x1), (2, .int x2)] [] σ := by
    intro x1 x2 t hf hp
    unfold f_X1_driftsBeyond_L2 at hf
    refine J_iter (JJ := fun (s : Int32) => J X 2 [(0, .ref (Xad X k)), (1, .int x1), (2, .int s)] [] σ) (Ps := fun t => t = t0) ?_ n x2 t hf hp
    clear hf hp
    intro s t hf hp hq
    obtain ⟨x2, rfl⟩ : ∃ z, z = s := ⟨_, rfl⟩
    have hp := And.intro hp hq
    clear hq
    have hf : f_X1_driftsBeyond_B2 n σ k x1 x2 = some t := hf
    show J X 2 [(0, .ref (Xad X k)), (1, .int x1), (2, .int x2)] [] σ
    unfold f_X1_driftsBeyond_B2 at hf
    refine J.iload_n (pc := 2) C dX1_driftsBeyond_2 rfl 2 rfl ?_
    refine J.aload_n (pc := 3) C dX1_driftsBeyond_3 rfl 0 rfl ?_
    refine J.getI (pc := 4) C kcX1 hk 8 rfl tw_113 rfl dX1_driftsBeyond_4 ?_
    refine J.icmp_ge (pc := 7) C (tgt := 28) dX1_driftsBeyond_7 (by decide) hf (fun hf => ?_) (fun hf => ?_)
    · refine J.iconst (pc := 28) C (v := 0) dX1_driftsBeyond_28 (by decide) ?_
      exact J.zretP (pc := 29) C rfl hR ((hp.1 _ (Option.some.inj hf).symm)) dX1_driftsBeyond_29
    · refine J.aload_n (pc := 10) C dX1_driftsBeyond_10 rfl 0 rfl ?_
      refine J.getR (pc := 11) C kcX1 hk 5 rfl tw_108 rfl dX1_driftsBeyond_11 ?_
      refine J.iload_n (pc := 14) C dX1_driftsBeyond_14 rfl 2 rfl ?_
      refine J.iald (pc := 15) C (ok_1_5 hcl hk) hf dX1_driftsBeyond_15 (fun hf => ?_)
      refine J.iload_n (pc := 16) C dX1_driftsBeyond_16 rfl 1 rfl ?_
      refine J.icmp_le (pc := 17) C (tgt := 22) dX1_driftsBeyond_17 (by decide) hf (fun hf => ?_) (fun hf => ?_)
      · obtain ⟨x2_1, hx_x2_1, hf⟩ := nm_some hf
        refine J.iinc (pc := 22) C (v := x2_1) (loc' := [(2, .int x2_1), (0, .ref (Xad X k)), (1, .int x1)]) dX1_driftsBeyond_22 (k := 2) rfl (by rw [hx_x2_1]; rfl) (by decide) rfl ?_
        refine J.goto (pc := 25) C (tgt := 2) dX1_driftsBeyond_25 (by decide) ?_
        exact J.sub (loc' := [(0, .ref (Xad X k)), (1, .int x1), (2, .int x2_1)]) [1, 2, 0] rfl (hp.2 _ (Option.some.inj hf).symm)
      · refine J.iconst (pc := 20) C (v := 1) dX1_driftsBeyond_20 (by decide) ?_
        exact J.zretP (pc := 21) C rfl hR ((hp.1 _ (Option.some.inj hf).symm)) dX1_driftsBeyond_21
  have hp : t0 = t0 := rfl
  show J X 0 [(0, .ref (Xad X k)), (1, .int x1)] [] σ
  unfold f_X1_driftsBeyond at hf
  refine J.iconst (pc := 0) C (v := 0) dX1_driftsBeyond_0 (by decide) ?_
  refine J.istore_n (pc := 1) C (loc' := [(2, .int 0), (0, .ref (Xad X k)), (1, .int x1)]) dX1_driftsBeyond_1 rfl (by decide) rfl ?_
  exact J.sub (loc' := [(0, .ref (Xad X k)), (1, .int x1), (2, .int 0)]) [1, 2, 0] rfl (L2 x1 0 _ hf hp)
set_option maxHeartbeats 4000000 in
set_option maxRecDepth 100000 in
theorem m_X1_greatestHeightNow {l : Launch} {n : Nat} {σ : Mem} {k : Nat} {t0 : Int32} (hf : f_X1_greatestHeightNow n σ k = some t0) : Ct l yX1_greatestHeightNow cX1_greatestHeightNow 3 (some FieldType.int) 1 13 (fun ks => Ok ks k 1) (fun ad => [.ref (ad k)]) σ (fun _ => some (.int t0)) σ := by
  refine Ct.of (plainFor_of_name (by decide)) (fun _ => Nat.le_of_ble_eq_true rfl) ?_
  intro X C _ hk hcl hR
  have C : Cx X RX1 cX1_greatestHeightNow 3 (some FieldType.int) 1 13 := C
  have L4 : ∀ (x1 : Int32) (x2 : Int32) (t : Int32), f_X1_greatestHeightNow_L4 n σ k x1 x2 = some t → t = t0 → J X 4 [(0, .ref (Xad X k)), (1, .int x1), (2, .int x2)] [] σ := by
    intro x1 x2 t hf hp
    unfold f_X1_greatestHeightNow_L4 at hf
    refine J_iter (JJ := fun (s : Int32 × Int32) => J X 4 [(0, .ref (Xad X k)), (1, .int (s.1)), (2, .int (s.2))] [] σ) (Ps := fun t => t = t0) ?_ n (x1, x2) t hf hp
    clear hf hp
    intro s t hf hp hq
    obtain ⟨x1, x2⟩ := s
    have hp := And.intro hp hq
    clear hq
    have hf : f_X1_greatestHeightNow_B4 n σ k x1 x2 = some t := hf
    show J X 4 [(0, .ref (Xad X k)), (1, .int x1), (2, .int x2)] [] σ
    unfold f_X1_greatestHeightNow_B4 at hf
    refine J.iload_n (pc := 4) C dX1_greatestHeightNow_4 rfl 2 rfl ?_
    refine J.aload_n (pc := 5) C dX1_greatestHeightNow_5 rfl 0 rfl ?_
    refine J.getI (pc := 6) C kcX1 hk 8 rfl tw_113 rfl dX1_greatestHeightNow_6 ?_
    refine J.icmp_ge (pc := 9) C (tgt := 29) dX1_greatestHeightNow_9 (by decide) hf (fun hf => ?_) (fun hf => ?_)
    · refine J.iload_n (pc := 29) C dX1_greatestHeightNow_29 rfl 1 rfl ?_
      exact J.iretP (pc := 30) C hR ((hp.1 _ (Option.some.inj hf).symm)) dX1_greatestHeightNow_30
    · refine J.iload_n (pc := 12) C dX1_greatestHeightNow_12 rfl 1 rfl ?_
      refine J.aload_n (pc := 13) C dX1_greatestHeightNow_13 rfl 0 rfl ?_
      refine J.getR (pc := 14) C kcX1 hk 4 rfl tw_106 rfl dX1_greatestHeightNow_14 ?_
      refine J.iload_n (pc := 17) C dX1_greatestHeightNow_17 rfl 2 rfl ?_
      refine J.iald (pc := 18) C (ok_1_4 hcl hk) hf dX1_greatestHeightNow_18 (fun hf => ?_)
      refine J.mmaxI (pc := 19) C tw_469 twm_max_s twm_i twm_max_c (Nat.le_of_ble_eq_true rfl) (Nat.le_of_ble_eq_true rfl) dX1_greatestHeightNow_19 ?_
      refine J.nmI hf (fun x1_1 hf => ?_)
      refine J.istore_n (pc := 22) C (loc' := [(1, .int x1_1), (0, .ref (Xad X k)), (2, .int x2)]) dX1_greatestHeightNow_22 rfl (by decide) rfl ?_
      obtain ⟨x2_2, hx_x2_2, hf⟩ := nm_some hf
      refine J.iinc (pc := 23) C (v := x2_2) (loc' := [(2, .int x2_2), (1, .int x1_1), (0, .ref (Xad X k))]) dX1_greatestHeightNow_23 (k := 2) rfl (by rw [hx_x2_2]; rfl) (by decide) rfl ?_
      refine J.goto (pc := 26) C (tgt := 4) dX1_greatestHeightNow_26 (by decide) ?_
      exact J.sub (loc' := [(0, .ref (Xad X k)), (1, .int x1_1), (2, .int x2_2)]) [2, 1, 0] rfl (hp.2 _ (Option.some.inj hf).symm)
  have hp : t0 = t0 := rfl
  show J X 0 [(0, .ref (Xad X k))] [] σ
  unfold f_X1_greatestHeightNow at hf
  refine J.iconst (pc := 0) C (v := 0) dX1_greatestHeightNow_0 (by decide) ?_
  refine J.istore_n (pc := 1) C (loc' := [(1, .int 0), (0, .ref (Xad X k))]) dX1_greatestHeightNow_1 rfl (by decide) rfl ?_
  refine J.iconst (pc := 2) C (v := 0) dX1_greatestHeightNow_2 (by decide) ?_
  refine J.istore_n (pc := 3) C (loc' := [(2, .int 0), (1, .int 0), (0, .ref (Xad X k))]) dX1_greatestHeightNow_3 rfl (by decide) rfl ?_
  exact J.sub (loc' := [(0, .ref (Xad X k)), (1, .int 0), (2, .int 0)]) [2, 1, 0] rfl (L4 0 0 _ hf hp)
set_option maxHeartbeats 4000000 in
set_option maxRecDepth 100000 in
theorem m_X2_append {l : Launch} {σ : Mem} {k : Nat} {x1 : Int32} {t0 : (Int32 × Mem)} (hf : f_X2_append σ k x1 = some t0) : Ct l yX2_append cX2_append 2 (some FieldType.int) 0 0 (fun ks => Ok ks k 2) (fun ad => [.ref (ad k), .int x1]) σ (fun _ => some (.int t0.1)) t0.2 := by
  refine Ct.of (plainFor_of_name (by decide)) (fun _ => Nat.le_of_ble_eq_true rfl) ?_
  intro X C _ hk hcl hR
  have C : Cx X RX2 cX2_append 2 (some FieldType.int) 0 0 := C
  have hp : t0 = t0 := rfl
  show J X 0 [(0, .ref (Xad X k)), (1, .int x1)] [] σ
  unfold f_X2_append at hf
  refine J.aload_n (pc := 0) C dX2_append_0 rfl 0 rfl ?_
  refine J.getI (pc := 1) C kcX2 hk 2 rfl tw_276 rfl dX2_append_1 ?_
  refine J.bipush (pc := 4) C (v := 80) dX2_append_4 (by decide) ?_
  refine J.icmp_lt (pc := 6) C (tgt := 12) dX2_append_6 (by decide) hf (fun hf => ?_) (fun hf => ?_)
  · refine J.aload_n (pc := 12) C dX2_append_12 rfl 0 rfl ?_
    refine J.getR (pc := 13) C kcX2 hk 1 rfl tw_275 rfl dX2_append_13 ?_
    refine J.aload_n (pc := 16) C dX2_append_16 rfl 0 rfl ?_
    refine J.getI (pc := 17) C kcX2 hk 2 rfl tw_276 rfl dX2_append_17 ?_
    refine J.iload_n (pc := 20) C dX2_append_20 rfl 1 rfl ?_
    refine J.castM (pc := 21) C (ok_2_1 hcl hk) hf dX2_append_21 (fun σ_1 hf => ?_)
    refine J.aload_n (pc := 22) C dX2_append_22 rfl 0 rfl ?_
    refine J.dup (pc := 23) C dX2_append_23 rfl ?_
    refine J.getI (pc := 24) C kcX2 hk 2 rfl tw_276 rfl dX2_append_24 ?_
    refine J.iconst (pc := 27) C (v := 1) dX2_append_27 (by decide) ?_
    refine J.iadd (pc := 28) C dX2_append_28 ?_
    refine J.putM (pc := 29) C kcX2 hk 2 rfl tw_276 rfl rfl rfl rfl hf dX2_append_29 (fun σ_2 hf => ?_)
    refine J.aload_n (pc := 32) C dX2_append_32 rfl 0 rfl ?_
    refine J.getI (pc := 33) C kcX2 hk 2 rfl tw_276 rfl dX2_append_33 ?_
    exact J.iretM (pc := 36) C hR ((Option.some.inj hf).trans hp) dX2_append_36
  · refine J.bipush (pc := 9) C (v := (-4)) dX2_append_9 (by decide) ?_
    exact J.iretM (pc := 11) C hR ((Option.some.inj hf).trans hp) dX2_append_11
set_option maxHeartbeats 4000000 in
set_option maxRecDepth 100000 in
theorem m_X2_endsCue {l : Launch} {n : Nat} {σ : Mem} {k : Nat} {t0 : (Int32 × Mem)} (hf : f_X2_endsCue n σ k = some t0) : Ct l yX2_endsCue cX2_endsCue 1 (some FieldType.boolean) 3 65 (fun ks => Ok ks k 2) (fun ad => [.ref (ad k)]) σ (fun _ => some (.int t0.1)) t0.2 := by
  refine Ct.of (plainFor_of_name (by decide)) (fun _ => Nat.le_of_ble_eq_true rfl) ?_
  intro X C _ hk hcl hR
  have C : Cx X RX2 cX2_endsCue 1 (some FieldType.boolean) 3 65 := C
  have hp : t0 = t0 := rfl
  show J X 0 [(0, .ref (Xad X k))] [] σ
  unfold f_X2_endsCue at hf
  refine J.aload_n (pc := 0) C dX2_endsCue_0 rfl 0 rfl ?_
  refine J.getI (pc := 1) C kcX2 hk 3 rfl tw_278 rfl dX2_endsCue_1 ?_
  refine J.iconst (pc := 4) C (v := 2) dX2_endsCue_4 (by decide) ?_
  refine J.icmp_ne (pc := 5) C (tgt := 16) dX2_endsCue_5 (by decide) hf (fun hf => ?_) (fun hf => ?_)
  · refine J.iconst (pc := 16) C (v := 0) dX2_endsCue_16 (by decide) ?_
    exact J.zretM (pc := 17) C rfl hR ((Option.some.inj hf).trans hp) dX2_endsCue_17
  · refine J.aload_n (pc := 8) C dX2_endsCue_8 rfl 0 rfl ?_
    refine J.getI (pc := 9) C kcX2 hk 6 rfl tw_281 rfl dX2_endsCue_9 ?_
    refine J.iconst (pc := 12) C (v := (-1)) dX2_endsCue_12 (by decide) ?_
    refine J.icmp_ne (pc := 13) C (tgt := 18) dX2_endsCue_13 (by decide) hf (fun hf => ?_) (fun hf => ?_)
    · refine J.aload_n (pc := 18) C dX2_endsCue_18 rfl 0 rfl ?_
      refine J.getR (pc := 19) C kcX2 hk 0 rfl tw_273 rfl dX2_endsCue_19 ?_
      refine J.aload_n (pc := 22) C dX2_endsCue_22 rfl 0 rfl ?_
      refine J.getI (pc := 23) C kcX2 hk 4 rfl tw_279 rfl dX2_endsCue_23 ?_
      refine J.aload_n (pc := 26) C dX2_endsCue_26 rfl 0 rfl ?_
      refine J.getI (pc := 27) C kcX2 hk 5 rfl tw_280 rfl dX2_endsCue_27 ?_
      refine J.aload_n (pc := 30) C dX2_endsCue_30 rfl 0 rfl ?_
      refine J.getI (pc := 31) C kcX2 hk 6 rfl tw_281 rfl dX2_endsCue_31 ?_
      obtain ⟨r_2, σ_3, h_1, hf⟩ := bnd2_some hf
      refine J.callV (pc := 34) C (m_X0_insert h_1) (ok_2_0 hcl hk) wyX0_insert tvX0_insert_i tvX0_insert_s tw_740 kcX0 rfl (ok_2_0 hcl hk) [.int (σ k 4), .int (σ k 5), .int (σ k 6)] [] rfl rfl (Nat.le_of_ble_eq_true rfl) (Nat.le_of_ble_eq_true rfl) (Nat.le_of_ble_eq_true rfl) (stk' := [.int r_2]) rfl dX2_endsCue_34 rfl ?_
      refine J.pop (pc := 37) C dX2_endsCue_37 rfl ?_
      refine J.aload_n (pc := 38) C dX2_endsCue_38 rfl 0 rfl ?_
      refine J.iconst (pc := 39) C (v := (-1)) dX2_endsCue_39 (by decide) ?_
      refine J.putM (pc := 40) C kcX2 hk 6 rfl tw_281 rfl rfl rfl rfl hf dX2_endsCue_40 (fun σ_4 hf => ?_)
      refine J.aload_n (pc := 43) C dX2_endsCue_43 rfl 0 rfl ?_
      refine J.iconst (pc := 44) C (v := 0) dX2_endsCue_44 (by decide) ?_
      refine J.putM (pc := 45) C kcX2 hk 3 rfl tw_278 rfl rfl rfl rfl hf dX2_endsCue_45 (fun σ_5 hf => ?_)
      refine J.iconst (pc := 48) C (v := 1) dX2_endsCue_48 (by decide) ?_
      exact J.zretM (pc := 49) C rfl hR ((Option.some.inj hf).trans hp) dX2_endsCue_49
    · refine J.iconst (pc := 16) C (v := 0) dX2_endsCue_16 (by decide) ?_
      exact J.zretM (pc := 17) C rfl hR ((Option.some.inj hf).trans hp) dX2_endsCue_17
set_option maxHeartbeats 4000000 in
set_option maxRecDepth 100000 in
theorem m_X2_endsSet {l : Launch} {σ : Mem} {k : Nat} {t0 : (Int32 × Mem)} (hf : f_X2_endsSet σ k = some t0) : Ct l yX2_endsSet cX2_endsSet 1 (some FieldType.boolean) 0 0 (fun ks => Ok ks k 2) (fun ad => [.ref (ad k)]) σ (fun _ => some (.int t0.1)) t0.2 := by
  refine Ct.of (plainFor_of_name (by decide)) (fun _ => Nat.le_of_ble_eq_true rfl) ?_
  intro X C _ hk hcl hR
  have C : Cx X RX2 cX2_endsSet 1 (some FieldType.boolean) 0 0 := C
  have hp : t0 = t0 := rfl
  show J X 0 [(0, .ref (Xad X k))] [] σ
  unfold f_X2_endsSet at hf
  refine J.aload_n (pc := 0) C dX2_endsSet_0 rfl 0 rfl ?_
  refine J.iconst (pc := 1) C (v := (-1)) dX2_endsSet_1 (by decide) ?_
  refine J.putM (pc := 2) C kcX2 hk 6 rfl tw_281 rfl rfl rfl rfl hf dX2_endsSet_2 (fun σ_1 hf => ?_)
  refine J.aload_n (pc := 5) C dX2_endsSet_5 rfl 0 rfl ?_
  refine J.iconst (pc := 6) C (v := 2) dX2_endsSet_6 (by decide) ?_
  refine J.putM (pc := 7) C kcX2 hk 3 rfl tw_278 rfl rfl rfl rfl hf dX2_endsSet_7 (fun σ_2 hf => ?_)
  refine J.aload_n (pc := 10) C dX2_endsSet_10 rfl 0 rfl ?_
  refine J.getI (pc := 11) C kcX2 hk 5 rfl tw_280 rfl dX2_endsSet_11 ?_
  refine J.if_eq (pc := 14) C (tgt := 21) dX2_endsSet_14 (by decide) hf (fun hf => ?_) (fun hf => ?_)
  · refine J.iconst (pc := 21) C (v := 0) dX2_endsSet_21 (by decide) ?_
    exact J.zretM (pc := 22) C rfl hR ((Option.some.inj hf).trans hp) dX2_endsSet_22
  · refine J.iconst (pc := 17) C (v := 1) dX2_endsSet_17 (by decide) ?_
    refine J.goto (pc := 18) C (tgt := 22) dX2_endsSet_18 (by decide) ?_
    exact J.zretM (pc := 22) C rfl hR ((Option.some.inj hf).trans hp) dX2_endsSet_22
set_option maxHeartbeats 4000000 in
set_option maxRecDepth 100000 in
theorem m_X2_endsTime {l : Launch} {σ : Mem} {k : Nat} {t0 : (Int32 × Mem)} (hf : f_X2_endsTime σ k = some t0) : Ct l yX2_endsTime cX2_endsTime 1 (some FieldType.boolean) 0 0 (fun ks => Ok ks k 2) (fun ad => [.ref (ad k)]) σ (fun _ => some (.int t0.1)) t0.2 := by
  refine Ct.of (plainFor_of_name (by decide)) (fun _ => Nat.le_of_ble_eq_true rfl) ?_
  intro X C _ hk hcl hR
  have C : Cx X RX2 cX2_endsTime 1 (some FieldType.boolean) 0 0 := C
  have hp : t0 = t0 := rfl
  show J X 0 [(0, .ref (Xad X k))] [] σ
  unfold f_X2_endsTime at hf
  refine J.aload_n (pc := 0) C dX2_endsTime_0 rfl 0 rfl ?_
  refine J.aload_n (pc := 1) C dX2_endsTime_1 rfl 0 rfl ?_
  refine J.getI (pc := 2) C kcX2 hk 6 rfl tw_281 rfl dX2_endsTime_2 ?_
  refine J.putM (pc := 5) C kcX2 hk 4 rfl tw_279 rfl rfl rfl rfl hf dX2_endsTime_5 (fun σ_1 hf => ?_)
  refine J.aload_n (pc := 8) C dX2_endsTime_8 rfl 0 rfl ?_
  refine J.iconst (pc := 9) C (v := 0) dX2_endsTime_9 (by decide) ?_
  refine J.putM (pc := 10) C kcX2 hk 5 rfl tw_280 rfl rfl rfl rfl hf dX2_endsTime_10 (fun σ_2 hf => ?_)
  refine J.aload_n (pc := 13) C dX2_endsTime_13 rfl 0 rfl ?_
  refine J.iconst (pc := 14) C (v := 1) dX2_endsTime_14 (by decide) ?_
  refine J.putM (pc := 15) C kcX2 hk 3 rfl tw_278 rfl rfl rfl rfl hf dX2_endsTime_15 (fun σ_3 hf => ?_)
  refine J.aload_n (pc := 18) C dX2_endsTime_18 rfl 0 rfl ?_
  refine J.getI (pc := 19) C kcX2 hk 6 rfl tw_281 rfl dX2_endsTime_19 ?_
  refine J.iconst (pc := 22) C (v := (-1)) dX2_endsTime_22 (by decide) ?_
  refine J.icmp_eq (pc := 23) C (tgt := 30) dX2_endsTime_23 (by decide) hf (fun hf => ?_) (fun hf => ?_)
  · refine J.iconst (pc := 30) C (v := 0) dX2_endsTime_30 (by decide) ?_
    exact J.zretM (pc := 31) C rfl hR ((Option.some.inj hf).trans hp) dX2_endsTime_31
  · refine J.iconst (pc := 26) C (v := 1) dX2_endsTime_26 (by decide) ?_
    refine J.goto (pc := 27) C (tgt := 31) dX2_endsTime_27 (by decide) ?_
    exact J.zretM (pc := 31) C rfl hR ((Option.some.inj hf).trans hp) dX2_endsTime_31
set_option maxHeartbeats 4000000 in
set_option maxRecDepth 100000 in
theorem m_X2_isDigitUpTo {l : Launch} {σ : Mem} {k : Nat} {x1 : Int32} {x2 : Int32} {t0 : (Int32 × Mem)} (hf : f_X2_isDigitUpTo σ k x1 x2 = some t0) : Ct l yX2_isDigitUpTo cX2_isDigitUpTo 4 (some FieldType.boolean) 0 0 (fun ks => Ok ks k 2) (fun ad => [.ref (ad k), .int x1, .int x2]) σ (fun _ => some (.int t0.1)) t0.2 := by
  refine Ct.of (plainFor_of_name (by decide)) (fun _ => Nat.le_of_ble_eq_true rfl) ?_
  intro X C _ hk hcl hR
  have C : Cx X RX2 cX2_isDigitUpTo 4 (some FieldType.boolean) 0 0 := C
  have L48 : ∀ (σ : Mem) (x1 : Int32) (y0 : Int32) (t : (Int32 × Mem)), f_X2_isDigitUpTo_L48 σ k x1 y0 = some t → t = t0 → J X 48 [(0, .ref (Xad X k)), (1, .int x1)] [.int y0, .ref (Xad X k)] σ := by
    intro σ x1 y0 t hf hp
    unfold f_X2_isDigitUpTo_L48 at hf
    refine J.putM (pc := 48) C kcX2 hk 6 rfl tw_281 rfl rfl rfl rfl hf dX2_isDigitUpTo_48 (fun σ_2 hf => ?_)
    refine J.aload_n (pc := 51) C dX2_isDigitUpTo_51 rfl 0 rfl ?_
    refine J.getI (pc := 52) C kcX2 hk 6 rfl tw_281 rfl dX2_isDigitUpTo_52 ?_
    refine J.iload_n (pc := 55) C dX2_isDigitUpTo_55 rfl 1 rfl ?_
    refine J.icmp_gt (pc := 56) C (tgt := 63) dX2_isDigitUpTo_56 (by decide) hf (fun hf => ?_) (fun hf => ?_)
    · refine J.iconst (pc := 63) C (v := 0) dX2_isDigitUpTo_63 (by decide) ?_
      exact J.zretM (pc := 64) C rfl hR ((Option.some.inj hf).trans hp) dX2_isDigitUpTo_64
    · refine J.iconst (pc := 59) C (v := 1) dX2_isDigitUpTo_59 (by decide) ?_
      refine J.goto (pc := 60) C (tgt := 64) dX2_isDigitUpTo_60 (by decide) ?_
      exact J.zretM (pc := 64) C rfl hR ((Option.some.inj hf).trans hp) dX2_isDigitUpTo_64
  have hp : t0 = t0 := rfl
  show J X 0 [(0, .ref (Xad X k)), (1, .int x1), (2, .int x2)] [] σ
  unfold f_X2_isDigitUpTo at hf
  refine J.iload_n (pc := 0) C dX2_isDigitUpTo_0 rfl 2 rfl ?_
  refine J.bipush (pc := 1) C (v := 48) dX2_isDigitUpTo_1 (by decide) ?_
  refine J.icmp_lt (pc := 3) C (tgt := 19) dX2_isDigitUpTo_3 (by decide) hf (fun hf => ?_) (fun hf => ?_)
  · refine J.iconst (pc := 19) C (v := 0) dX2_isDigitUpTo_19 (by decide) ?_
    exact J.zretM (pc := 20) C rfl hR ((Option.some.inj hf).trans hp) dX2_isDigitUpTo_20
  · refine J.iload_n (pc := 6) C dX2_isDigitUpTo_6 rfl 2 rfl ?_
    refine J.bipush (pc := 7) C (v := 57) dX2_isDigitUpTo_7 (by decide) ?_
    refine J.icmp_gt (pc := 9) C (tgt := 19) dX2_isDigitUpTo_9 (by decide) hf (fun hf => ?_) (fun hf => ?_)
    · refine J.iconst (pc := 19) C (v := 0) dX2_isDigitUpTo_19 (by decide) ?_
      exact J.zretM (pc := 20) C rfl hR ((Option.some.inj hf).trans hp) dX2_isDigitUpTo_20
    · refine J.aload_n (pc := 12) C dX2_isDigitUpTo_12 rfl 0 rfl ?_
      refine J.getI (pc := 13) C kcX2 hk 6 rfl tw_281 rfl dX2_isDigitUpTo_13 ?_
      refine J.if_ne (pc := 16) C (tgt := 21) dX2_isDigitUpTo_16 (by decide) hf (fun hf => ?_) (fun hf => ?_)
      · refine J.iload_n (pc := 21) C dX2_isDigitUpTo_21 rfl 2 rfl ?_
        refine J.bipush (pc := 22) C (v := 48) dX2_isDigitUpTo_22 (by decide) ?_
        refine J.isub (pc := 24) C dX2_isDigitUpTo_24 ?_
        refine J.nmI hf (fun x3_1 hf => ?_)
        refine J.istore_n (pc := 25) C (loc' := [(3, .int x3_1), (0, .ref (Xad X k)), (1, .int x1), (2, .int x2)]) dX2_isDigitUpTo_25 rfl (by decide) rfl ?_
        refine J.aload_n (pc := 26) C dX2_isDigitUpTo_26 rfl 1 rfl ?_
        refine J.aload_n (pc := 27) C dX2_isDigitUpTo_27 rfl 1 rfl ?_
        refine J.getI (pc := 28) C kcX2 hk 6 rfl tw_281 rfl dX2_isDigitUpTo_28 ?_
        refine J.iconst (pc := 31) C (v := (-1)) dX2_isDigitUpTo_31 (by decide) ?_
        refine J.icmp_ne (pc := 32) C (tgt := 39) dX2_isDigitUpTo_32 (by decide) hf (fun hf => ?_) (fun hf => ?_)
        · refine J.bipush (pc := 39) C (v := 10) dX2_isDigitUpTo_39 (by decide) ?_
          refine J.aload_n (pc := 41) C dX2_isDigitUpTo_41 rfl 1 rfl ?_
          refine J.getI (pc := 42) C kcX2 hk 6 rfl tw_281 rfl dX2_isDigitUpTo_42 ?_
          refine J.imul (pc := 45) C dX2_isDigitUpTo_45 ?_
          refine J.iload_n (pc := 46) C dX2_isDigitUpTo_46 rfl 0 rfl ?_
          refine J.iadd (pc := 47) C dX2_isDigitUpTo_47 ?_
          exact J.sub (loc' := [(0, .ref (Xad X k)), (1, .int x1)]) [1, 2] rfl (L48 σ x1 ((10 * (σ k 6)) + x3_1) _ hf hp)
        · refine J.iload_n (pc := 35) C dX2_isDigitUpTo_35 rfl 0 rfl ?_
          refine J.goto (pc := 36) C (tgt := 48) dX2_isDigitUpTo_36 (by decide) ?_
          exact J.sub (loc' := [(0, .ref (Xad X k)), (1, .int x1)]) [1, 2] rfl (L48 σ x1 x3_1 _ hf hp)
      · refine J.iconst (pc := 19) C (v := 0) dX2_isDigitUpTo_19 (by decide) ?_
        exact J.zretM (pc := 20) C rfl hR ((Option.some.inj hf).trans hp) dX2_isDigitUpTo_20
set_option maxHeartbeats 4000000 in
set_option maxRecDepth 100000 in
theorem m_X2_isLetter {l : Launch} {σ : Mem} {k : Nat} {x1 : Int32} {t0 : (Int32 × Mem)} (hf : f_X2_isLetter σ k x1 = some t0) : Ct l yX2_isLetter cX2_isLetter 4 (some FieldType.boolean) 0 0 (fun ks => Ok ks k 2) (fun ad => [.ref (ad k), .int x1]) σ (fun _ => some (.int t0.1)) t0.2 := by
  refine Ct.of (plainFor_of_name (by decide)) (fun _ => Nat.le_of_ble_eq_true rfl) ?_
  intro X C _ hk hcl hR
  have C : Cx X RX2 cX2_isLetter 4 (some FieldType.boolean) 0 0 := C
  have L34 : ∀ (σ : Mem) (x2 : Int32) (y0 : Int32) (t : (Int32 × Mem)), f_X2_isLetter_L34 σ k x2 y0 = some t → t = t0 → J X 34 [(0, .ref (Xad X k)), (2, .int x2)] [.int y0] σ := by
    intro σ x2 y0 t hf hp
    unfold f_X2_isLetter_L34 at hf
    refine J.istore_n (pc := 34) C (loc' := [(3, .int y0), (0, .ref (Xad X k)), (2, .int x2)]) dX2_isLetter_34 rfl (by decide) rfl ?_
    refine J.aload_n (pc := 35) C dX2_isLetter_35 rfl 1 rfl ?_
    refine J.dup (pc := 36) C dX2_isLetter_36 rfl ?_
    refine J.getI (pc := 37) C kcX2 hk 5 rfl tw_280 rfl dX2_isLetter_37 ?_
    refine J.iload_n (pc := 40) C dX2_isLetter_40 rfl 2 rfl ?_
    refine J.ior (pc := 41) C dX2_isLetter_41 ?_
    refine J.putM (pc := 42) C kcX2 hk 5 rfl tw_280 rfl rfl rfl rfl hf dX2_isLetter_42 (fun σ_2 hf => ?_)
    refine J.iload_n (pc := 45) C dX2_isLetter_45 rfl 0 rfl ?_
    obtain ⟨hbit, hf⟩ := chk_some hf
    exact J.zretM (pc := 46) C (bit_nar hbit) hR ((Option.some.inj hf).trans hp) dX2_isLetter_46
  have hp : t0 = t0 := rfl
  show J X 0 [(0, .ref (Xad X k)), (1, .int x1)] [] σ
  unfold f_X2_isLetter at hf
  refine J.iload_n (pc := 0) C dX2_isLetter_0 rfl 1 rfl ?_
  refine J.bipush (pc := 1) C (v := 97) dX2_isLetter_1 (by decide) ?_
  refine J.icmp_lt (pc := 3) C (tgt := 12) dX2_isLetter_3 (by decide) hf (fun hf => ?_) (fun hf => ?_)
  · refine J.iconst (pc := 12) C (v := 0) dX2_isLetter_12 (by decide) ?_
    exact J.zretM (pc := 13) C rfl hR ((Option.some.inj hf).trans hp) dX2_isLetter_13
  · refine J.iload_n (pc := 6) C dX2_isLetter_6 rfl 1 rfl ?_
    refine J.bipush (pc := 7) C (v := 108) dX2_isLetter_7 (by decide) ?_
    refine J.icmp_le (pc := 9) C (tgt := 14) dX2_isLetter_9 (by decide) hf (fun hf => ?_) (fun hf => ?_)
    · refine J.iconst (pc := 14) C (v := 1) dX2_isLetter_14 (by decide) ?_
      refine J.iload_n (pc := 15) C dX2_isLetter_15 rfl 1 rfl ?_
      refine J.bipush (pc := 16) C (v := 97) dX2_isLetter_16 (by decide) ?_
      refine J.isub (pc := 18) C dX2_isLetter_18 ?_
      refine J.ishl (pc := 19) C dX2_isLetter_19 ?_
      refine J.nmI hf (fun x2_1 hf => ?_)
      refine J.istore_n (pc := 20) C (loc' := [(2, .int x2_1), (0, .ref (Xad X k)), (1, .int x1)]) dX2_isLetter_20 rfl (by decide) rfl ?_
      refine J.iload_n (pc := 21) C dX2_isLetter_21 rfl 0 rfl ?_
      refine J.aload_n (pc := 22) C dX2_isLetter_22 rfl 1 rfl ?_
      refine J.getI (pc := 23) C kcX2 hk 5 rfl tw_280 rfl dX2_isLetter_23 ?_
      refine J.icmp_le (pc := 26) C (tgt := 33) dX2_isLetter_26 (by decide) hf (fun hf => ?_) (fun hf => ?_)
      · refine J.iconst (pc := 33) C (v := 0) dX2_isLetter_33 (by decide) ?_
        exact J.sub (loc' := [(0, .ref (Xad X k)), (2, .int x2_1)]) [1, 0] rfl (L34 σ x2_1 0 _ hf hp)
      · refine J.iconst (pc := 29) C (v := 1) dX2_isLetter_29 (by decide) ?_
        refine J.goto (pc := 30) C (tgt := 34) dX2_isLetter_30 (by decide) ?_
        exact J.sub (loc' := [(0, .ref (Xad X k)), (2, .int x2_1)]) [1, 0] rfl (L34 σ x2_1 1 _ hf hp)
    · refine J.iconst (pc := 12) C (v := 0) dX2_isLetter_12 (by decide) ?_
      exact J.zretM (pc := 13) C rfl hR ((Option.some.inj hf).trans hp) dX2_isLetter_13
set_option maxHeartbeats 4000000 in
set_option maxRecDepth 100000 in
theorem m_X2_accepts {l : Launch} {n : Nat} {σ : Mem} {k : Nat} {x1 : Int32} {t0 : (Int32 × Mem)} (hf : f_X2_accepts n σ k x1 = some t0) : Ct l yX2_accepts cX2_accepts 2 (some FieldType.boolean) 4 85 (fun ks => Ok ks k 2) (fun ad => [.ref (ad k), .int x1]) σ (fun _ => some (.int t0.1)) t0.2 := by
  refine Ct.of (plainFor_of_name (by decide)) (fun _ => Nat.le_of_ble_eq_true rfl) ?_
  intro X C _ hk hcl hR
  have C : Cx X RX2 cX2_accepts 2 (some FieldType.boolean) 4 85 := C
  have hp : t0 = t0 := rfl
  show J X 0 [(0, .ref (Xad X k)), (1, .int x1)] [] σ
  unfold f_X2_accepts at hf
  refine J.aload_n (pc := 0) C dX2_accepts_0 rfl 0 rfl ?_
  refine J.getI (pc := 1) C kcX2 hk 3 rfl tw_278 rfl dX2_accepts_1 ?_
  refine J.nmI hf (fun z_1 hf => ?_)
  refine J.look2 (pc := 4) C dX2_accepts_4 (v0 := 0) (v1 := 1) rfl (by decide) (by decide) (by decide) (tgt0 := 32) (tgt1 := 54) (tgtd := 73) (by decide) (by decide) (by decide) hf (fun hf => ?_) (fun hf => ?_) (fun hf => ?_)
  · refine J.iload_n (pc := 32) C dX2_accepts_32 rfl 1 rfl ?_
    refine J.bipush (pc := 33) C (v := 58) dX2_accepts_33 (by decide) ?_
    refine J.icmp_ne (pc := 35) C (tgt := 45) dX2_accepts_35 (by decide) hf (fun hf => ?_) (fun hf => ?_)
    · refine J.aload_n (pc := 45) C dX2_accepts_45 rfl 0 rfl ?_
      refine J.sipush (pc := 46) C (v := 9999) dX2_accepts_46 (by decide) ?_
      refine J.iload_n (pc := 49) C dX2_accepts_49 rfl 1 rfl ?_
      obtain ⟨r_3, σ_4, h_2, hf⟩ := bnd2_some hf
      refine J.callV (pc := 50) C (m_X2_isDigitUpTo h_2) hk wyX2_isDigitUpTo tvX2_isDigitUpTo_i tvX2_isDigitUpTo_s tw_724 kcX2 rfl hk [.int 9999, .int x1] [] rfl rfl (Nat.le_of_ble_eq_true rfl) (Nat.le_of_ble_eq_true rfl) (Nat.le_of_ble_eq_true rfl) (stk' := [.int r_3]) rfl dX2_accepts_50 rfl ?_
      obtain ⟨hbit, hf⟩ := chk_some hf
      exact J.zretM (pc := 53) C (bit_nar hbit) hR ((Option.some.inj hf).trans hp) dX2_accepts_53
    · refine J.aload_n (pc := 38) C dX2_accepts_38 rfl 0 rfl ?_
      obtain ⟨r_6, σ_7, h_5, hf⟩ := bnd2_some hf
      refine J.callV (pc := 39) C (m_X2_endsTime h_5) hk wyX2_endsTime tvX2_endsTime_i tvX2_endsTime_s tw_720 kcX2 rfl hk [] [] rfl rfl (Nat.le_of_ble_eq_true rfl) (Nat.le_of_ble_eq_true rfl) (Nat.le_of_ble_eq_true rfl) (stk' := [.int r_6]) rfl dX2_accepts_39 rfl ?_
      refine J.goto (pc := 42) C (tgt := 53) dX2_accepts_42 (by decide) ?_
      obtain ⟨hbit, hf⟩ := chk_some hf
      exact J.zretM (pc := 53) C (bit_nar hbit) hR ((Option.some.inj hf).trans hp) dX2_accepts_53
  · refine J.iload_n (pc := 54) C dX2_accepts_54 rfl 1 rfl ?_
    refine J.bipush (pc := 55) C (v := 61) dX2_accepts_55 (by decide) ?_
    refine J.icmp_ne (pc := 57) C (tgt := 67) dX2_accepts_57 (by decide) hf (fun hf => ?_) (fun hf => ?_)
    · refine J.aload_n (pc := 67) C dX2_accepts_67 rfl 0 rfl ?_
      refine J.iload_n (pc := 68) C dX2_accepts_68 rfl 1 rfl ?_
      obtain ⟨r_9, σ_10, h_8, hf⟩ := bnd2_some hf
      refine J.callV (pc := 69) C (m_X2_isLetter h_8) hk wyX2_isLetter tvX2_isLetter_i tvX2_isLetter_s tw_732 kcX2 rfl hk [.int x1] [] rfl rfl (Nat.le_of_ble_eq_true rfl) (Nat.le_of_ble_eq_true rfl) (Nat.le_of_ble_eq_true rfl) (stk' := [.int r_9]) rfl dX2_accepts_69 rfl ?_
      obtain ⟨hbit, hf⟩ := chk_some hf
      exact J.zretM (pc := 72) C (bit_nar hbit) hR ((Option.some.inj hf).trans hp) dX2_accepts_72
    · refine J.aload_n (pc := 60) C dX2_accepts_60 rfl 0 rfl ?_
      obtain ⟨r_12, σ_13, h_11, hf⟩ := bnd2_some hf
      refine J.callV (pc := 61) C (m_X2_endsSet h_11) hk wyX2_endsSet tvX2_endsSet_i tvX2_endsSet_s tw_728 kcX2 rfl hk [] [] rfl rfl (Nat.le_of_ble_eq_true rfl) (Nat.le_of_ble_eq_true rfl) (Nat.le_of_ble_eq_true rfl) (stk' := [.int r_12]) rfl dX2_accepts_61 rfl ?_
      refine J.goto (pc := 64) C (tgt := 72) dX2_accepts_64 (by decide) ?_
      obtain ⟨hbit, hf⟩ := chk_some hf
      exact J.zretM (pc := 72) C (bit_nar hbit) hR ((Option.some.inj hf).trans hp) dX2_accepts_72
  · refine J.iload_n (pc := 73) C dX2_accepts_73 rfl 1 rfl ?_
    refine J.bipush (pc := 74) C (v := 44) dX2_accepts_74 (by decide) ?_
    refine J.icmp_ne (pc := 76) C (tgt := 86) dX2_accepts_76 (by decide) hf (fun hf => ?_) (fun hf => ?_)
    · refine J.aload_n (pc := 86) C dX2_accepts_86 rfl 0 rfl ?_
      refine J.sipush (pc := 87) C (v := 1000) dX2_accepts_87 (by decide) ?_
      refine J.iload_n (pc := 90) C dX2_accepts_90 rfl 1 rfl ?_
      obtain ⟨r_15, σ_16, h_14, hf⟩ := bnd2_some hf
      refine J.callV (pc := 91) C (m_X2_isDigitUpTo h_14) hk wyX2_isDigitUpTo tvX2_isDigitUpTo_i tvX2_isDigitUpTo_s tw_724 kcX2 rfl hk [.int 1000, .int x1] [] rfl rfl (Nat.le_of_ble_eq_true rfl) (Nat.le_of_ble_eq_true rfl) (Nat.le_of_ble_eq_true rfl) (stk' := [.int r_15]) rfl dX2_accepts_91 rfl ?_
      obtain ⟨hbit, hf⟩ := chk_some hf
      exact J.zretM (pc := 94) C (bit_nar hbit) hR ((Option.some.inj hf).trans hp) dX2_accepts_94
    · refine J.aload_n (pc := 79) C dX2_accepts_79 rfl 0 rfl ?_
      obtain ⟨r_18, σ_19, h_17, hf⟩ := bnd2_some hf
      refine J.callV (pc := 80) C (m_X2_endsCue h_17) hk wyX2_endsCue tvX2_endsCue_i tvX2_endsCue_s tw_736 kcX2 rfl hk [] [] rfl rfl (Nat.le_of_ble_eq_true rfl) (Nat.le_of_ble_eq_true rfl) (Nat.le_of_ble_eq_true rfl) (stk' := [.int r_18]) rfl dX2_accepts_80 rfl ?_
      refine J.goto (pc := 83) C (tgt := 94) dX2_accepts_83 (by decide) ?_
      obtain ⟨hbit, hf⟩ := chk_some hf
      exact J.zretM (pc := 94) C (bit_nar hbit) hR ((Option.some.inj hf).trans hp) dX2_accepts_94
set_option maxHeartbeats 4000000 in
set_option maxRecDepth 100000 in
theorem m_X2_findFault {l : Launch} {n : Nat} {σ : Mem} {k : Nat} {t0 : (Int32 × Mem)} (hf : f_X2_findFault n σ k = some t0) : Ct l yX2_findFault cX2_findFault 2 (some FieldType.int) 5 106 (fun ks => Ok ks k 2) (fun ad => [.ref (ad k)]) σ (fun _ => some (.int t0.1)) t0.2 := by
  refine Ct.of (plainFor_of_name (by decide)) (fun _ => Nat.le_of_ble_eq_true rfl) ?_
  intro X C _ hk hcl hR
  have C : Cx X RX2 cX2_findFault 2 (some FieldType.int) 5 106 := C
  have L20 : ∀ (σ : Mem) (x1 : Int32) (t : (Int32 × Mem)), f_X2_findFault_L20 n σ k x1 = some t → t = t0 → J X 20 [(0, .ref (Xad X k)), (1, .int x1)] [] σ := by
    intro σ x1 t hf hp
    unfold f_X2_findFault_L20 at hf
    refine J_iter (JJ := fun (s : Mem × Int32) => J X 20 [(0, .ref (Xad X k)), (1, .int (s.2))] [] s.1) (Ps := fun t => t = t0) ?_ n (σ, x1) t hf hp
    clear hf hp
    intro s t hf hp hq
    obtain ⟨σ, x1⟩ := s
    have hp := And.intro hp hq
    clear hq
    have hf : f_X2_findFault_B20 n σ k x1 = some t := hf
    show J X 20 [(0, .ref (Xad X k)), (1, .int x1)] [] σ
    unfold f_X2_findFault_B20 at hf
    refine J.iload_n (pc := 20) C dX2_findFault_20 rfl 1 rfl ?_
    refine J.aload_n (pc := 21) C dX2_findFault_21 rfl 0 rfl ?_
    refine J.getI (pc := 22) C kcX2 hk 2 rfl tw_276 rfl dX2_findFault_22 ?_
    refine J.icmp_ge (pc := 25) C (tgt := 49) dX2_findFault_25 (by decide) hf (fun hf => ?_) (fun hf => ?_)
    · refine J.aload_n (pc := 49) C dX2_findFault_49 rfl 0 rfl ?_
      obtain ⟨r_5, σ_6, h_4, hf⟩ := bnd2_some hf
      refine J.callV (pc := 50) C (m_X2_endsCue h_4) hk wyX2_endsCue tvX2_endsCue_i tvX2_endsCue_s tw_736 kcX2 rfl hk [] [] rfl rfl (Nat.le_of_ble_eq_true rfl) (Nat.le_of_ble_eq_true rfl) (Nat.le_of_ble_eq_true rfl) (stk' := [.int r_5]) rfl dX2_findFault_50 rfl ?_
      refine J.if_eq (pc := 53) C (tgt := 61) dX2_findFault_53 (by decide) hf (fun hf => ?_) (fun hf => ?_)
      · refine J.aload_n (pc := 61) C dX2_findFault_61 rfl 0 rfl ?_
        refine J.getI (pc := 62) C kcX2 hk 2 rfl tw_276 rfl dX2_findFault_62 ?_
        exact J.iretM (pc := 65) C hR ((hp.1 _ (Option.some.inj hf).symm)) dX2_findFault_65
      · refine J.bipush (pc := 56) C (v := (-6)) dX2_findFault_56 (by decide) ?_
        refine J.goto (pc := 58) C (tgt := 65) dX2_findFault_58 (by decide) ?_
        exact J.iretM (pc := 65) C hR ((hp.1 _ (Option.some.inj hf).symm)) dX2_findFault_65
    · refine J.aload_n (pc := 28) C dX2_findFault_28 rfl 0 rfl ?_
      refine J.aload_n (pc := 29) C dX2_findFault_29 rfl 0 rfl ?_
      refine J.getR (pc := 30) C kcX2 hk 1 rfl tw_275 rfl dX2_findFault_30 ?_
      refine J.iload_n (pc := 33) C dX2_findFault_33 rfl 1 rfl ?_
      refine J.cald (pc := 34) C (ok_2_1 hcl hk) hf dX2_findFault_34 (fun hf => ?_)
      obtain ⟨r_8, σ_9, h_7, hf⟩ := bnd2_some hf
      refine J.callV (pc := 35) C (m_X2_accepts h_7) hk wyX2_accepts tvX2_accepts_i tvX2_accepts_s tw_716 kcX2 rfl hk [.int (σ (ptr k 1) (ix x1))] [] rfl rfl (Nat.le_of_ble_eq_true rfl) (Nat.le_of_ble_eq_true rfl) (Nat.le_of_ble_eq_true rfl) (stk' := [.int r_8]) rfl dX2_findFault_35 rfl ?_
      refine J.if_ne (pc := 38) C (tgt := 43) dX2_findFault_38 (by decide) hf (fun hf => ?_) (fun hf => ?_)
      · obtain ⟨x1_10, hx_x1_10, hf⟩ := nm_some hf
        refine J.iinc (pc := 43) C (v := x1_10) (loc' := [(1, .int x1_10), (0, .ref (Xad X k))]) dX2_findFault_43 (k := 1) rfl (by rw [hx_x1_10]; rfl) (by decide) rfl ?_
        refine J.goto (pc := 46) C (tgt := 20) dX2_findFault_46 (by decide) ?_
        exact J.sub (loc' := [(0, .ref (Xad X k)), (1, .int x1_10)]) [1, 0] rfl (hp.2 _ (Option.some.inj hf).symm)
      · refine J.iload_n (pc := 41) C dX2_findFault_41 rfl 1 rfl ?_
        exact J.iretM (pc := 42) C hR ((hp.1 _ (Option.some.inj hf).symm)) dX2_findFault_42
  have hp : t0 = t0 := rfl
  show J X 0 [(0, .ref (Xad X k))] [] σ
  unfold f_X2_findFault at hf
  refine J.aload_n (pc := 0) C dX2_findFault_0 rfl 0 rfl ?_
  refine J.getR (pc := 1) C kcX2 hk 0 rfl tw_273 rfl dX2_findFault_1 ?_
  refine J.iconst (pc := 4) C (v := 0) dX2_findFault_4 (by decide) ?_
  refine J.putM (pc := 5) C kcX0 (ok_2_0 hcl hk) 3 rfl tw_208 rfl rfl rfl rfl hf dX2_findFault_5 (fun σ_1 hf => ?_)
  refine J.aload_n (pc := 8) C dX2_findFault_8 rfl 0 rfl ?_
  refine J.iconst (pc := 9) C (v := 0) dX2_findFault_9 (by decide) ?_
  refine J.putM (pc := 10) C kcX2 hk 3 rfl tw_278 rfl rfl rfl rfl hf dX2_findFault_10 (fun σ_2 hf => ?_)
  refine J.aload_n (pc := 13) C dX2_findFault_13 rfl 0 rfl ?_
  refine J.iconst (pc := 14) C (v := (-1)) dX2_findFault_14 (by decide) ?_
  refine J.putM (pc := 15) C kcX2 hk 6 rfl tw_281 rfl rfl rfl rfl hf dX2_findFault_15 (fun σ_3 hf => ?_)
  refine J.iconst (pc := 18) C (v := 0) dX2_findFault_18 (by decide) ?_
  refine J.istore_n (pc := 19) C (loc' := [(1, .int 0), (0, .ref (Xad X k))]) dX2_findFault_19 rfl (by decide) rfl ?_
  exact J.sub (loc' := [(0, .ref (Xad X k)), (1, .int 0)]) [1, 0] rfl (L20 σ_3 0 _ hf hp)
set_option maxHeartbeats 4000000 in
set_option maxRecDepth 100000 in
theorem m_X3_goBack {l : Launch} {n : Nat} {σ : Mem} {k : Nat} {t0 : Mem} (hf : f_X3_goBack n σ k = some t0) : Ct l yX3_goBack cX3_goBack 1 none 1 21 (fun ks => Ok ks k 3) (fun ad => [.ref (ad k)]) σ (fun _ => none) t0 := by
  refine Ct.of (plainFor_of_name (by decide)) (fun _ => Nat.le_of_ble_eq_true rfl) ?_
  intro X C _ hk hcl hR
  have C : Cx X RX3 cX3_goBack 1 none 1 21 := C
  have hp : t0 = t0 := rfl
  show J X 0 [(0, .ref (Xad X k))] [] σ
  unfold f_X3_goBack at hf
  refine J.aload_n (pc := 0) C dX3_goBack_0 rfl 0 rfl ?_
  refine J.getR (pc := 1) C kcX3 hk 1 rfl tw_155 rfl dX3_goBack_1 ?_
  obtain ⟨σ_3, h_1, hf⟩ := bnd_some hf
  refine J.callSN (pc := 4) C (m_X8_clear h_1) (ok_3_1 hcl hk) wyX8_clear tsX8_clear tn_346 [.ref (Xad X (ptr k 1))] [] rfl rfl (Nat.le_of_ble_eq_true rfl) (Nat.le_of_ble_eq_true rfl) (Nat.le_of_ble_eq_true rfl) (stk' := []) rfl dX3_goBack_4 rfl ?_
  refine J.aload_n (pc := 7) C dX3_goBack_7 rfl 0 rfl ?_
  refine J.getR (pc := 8) C kcX3 hk 2 rfl tw_157 rfl dX3_goBack_8 ?_
  obtain ⟨σ_6, h_4, hf⟩ := bnd_some hf
  refine J.callSN (pc := 11) C (m_X8_clear h_4) (ok_3_2 hcl hk) wyX8_clear tsX8_clear tn_346 [.ref (Xad X (ptr k 2))] [] rfl rfl (Nat.le_of_ble_eq_true rfl) (Nat.le_of_ble_eq_true rfl) (Nat.le_of_ble_eq_true rfl) (stk' := []) rfl dX3_goBack_11 rfl ?_
  refine J.aload_n (pc := 14) C dX3_goBack_14 rfl 0 rfl ?_
  refine J.getR (pc := 15) C kcX3 hk 3 rfl tw_159 rfl dX3_goBack_15 ?_
  obtain ⟨σ_9, h_7, hf⟩ := bnd_some hf
  refine J.callSN (pc := 18) C (m_X8_clear h_7) (ok_3_3 hcl hk) wyX8_clear tsX8_clear tn_346 [.ref (Xad X (ptr k 3))] [] rfl rfl (Nat.le_of_ble_eq_true rfl) (Nat.le_of_ble_eq_true rfl) (Nat.le_of_ble_eq_true rfl) (stk' := []) rfl dX3_goBack_18 rfl ?_
  exact J.vretM (pc := 21) C hR ((Option.some.inj hf).trans hp) dX3_goBack_21
set_option maxHeartbeats 4000000 in
set_option maxRecDepth 100000 in
theorem m_X3_copy {l : Launch} {σ : Mem} {k : Nat} {x1 : Nat} {t0 : Mem} (hf : f_X3_copy σ k x1 = some t0) : Ct l yX3_copy cX3_copy 2 none 3 60 (fun ks => Ok ks k 3 ∧ Ok ks x1 3) (fun ad => [.ref (ad k), .ref (ad x1)]) σ (fun _ => none) t0 := by
  refine Ct.of (plainFor_of_name (by decide)) (fun _ => Nat.le_of_ble_eq_true rfl) ?_
  intro X C _ hok hcl hR
  obtain ⟨hk, hx1⟩ := hok
  have C : Cx X RX3 cX3_copy 2 none 3 60 := C
  have hp : t0 = t0 := rfl
  show J X 0 [(0, .ref (Xad X k)), (1, .ref (Xad X x1))] [] σ
  unfold f_X3_copy at hf
  refine J.aload_n (pc := 0) C dX3_copy_0 rfl 0 rfl ?_
  refine J.getR (pc := 1) C kcX3 hk 0 rfl tw_152 rfl dX3_copy_1 ?_
  refine J.aload_n (pc := 4) C dX3_copy_4 rfl 1 rfl ?_
  refine J.getR (pc := 5) C kcX3 hx1 0 rfl tw_152 rfl dX3_copy_5 ?_
  obtain ⟨σ_3, h_1, hf⟩ := bnd_some hf
  refine J.callV (pc := 8) C (m_X4_copy h_1) ⟨(ok_3_0 hcl hk), (ok_3_0 hcl hx1)⟩ wyX4_copy tvX4_copy_i tvX4_copy_s tw_602 kcX4 rfl (ok_3_0 hcl hk) [.ref (Xad X (ptr x1 0))] [] rfl rfl (Nat.le_of_ble_eq_true rfl) (Nat.le_of_ble_eq_true rfl) (Nat.le_of_ble_eq_true rfl) (stk' := []) rfl dX3_copy_8 rfl ?_
  refine J.aload_n (pc := 11) C dX3_copy_11 rfl 1 rfl ?_
  refine J.getR (pc := 12) C kcX3 hx1 1 rfl tw_155 rfl dX3_copy_12 ?_
  refine J.aload_n (pc := 15) C dX3_copy_15 rfl 0 rfl ?_
  refine J.getR (pc := 16) C kcX3 hk 1 rfl tw_155 rfl dX3_copy_16 ?_
  obtain ⟨σ_6, h_4, hf⟩ := bnd_some hf
  refine J.callSN (pc := 19) C (m_X8_copyRow h_4) ⟨(ok_3_1 hcl hx1), (ok_3_1 hcl hk)⟩ wyX8_copyRow tsX8_copyRow tn_603 [.ref (Xad X (ptr x1 1)), .ref (Xad X (ptr k 1))] [] rfl rfl (Nat.le_of_ble_eq_true rfl) (Nat.le_of_ble_eq_true rfl) (Nat.le_of_ble_eq_true rfl) (stk' := []) rfl dX3_copy_19 rfl ?_
  refine J.aload_n (pc := 22) C dX3_copy_22 rfl 1 rfl ?_
  refine J.getR (pc := 23) C kcX3 hx1 2 rfl tw_157 rfl dX3_copy_23 ?_
  refine J.aload_n (pc := 26) C dX3_copy_26 rfl 0 rfl ?_
  refine J.getR (pc := 27) C kcX3 hk 2 rfl tw_157 rfl dX3_copy_27 ?_
  obtain ⟨σ_9, h_7, hf⟩ := bnd_some hf
  refine J.callSN (pc := 30) C (m_X8_copyRow h_7) ⟨(ok_3_2 hcl hx1), (ok_3_2 hcl hk)⟩ wyX8_copyRow tsX8_copyRow tn_603 [.ref (Xad X (ptr x1 2)), .ref (Xad X (ptr k 2))] [] rfl rfl (Nat.le_of_ble_eq_true rfl) (Nat.le_of_ble_eq_true rfl) (Nat.le_of_ble_eq_true rfl) (stk' := []) rfl dX3_copy_30 rfl ?_
  refine J.aload_n (pc := 33) C dX3_copy_33 rfl 1 rfl ?_
  refine J.getR (pc := 34) C kcX3 hx1 3 rfl tw_159 rfl dX3_copy_34 ?_
  refine J.aload_n (pc := 37) C dX3_copy_37 rfl 0 rfl ?_
  refine J.getR (pc := 38) C kcX3 hk 3 rfl tw_159 rfl dX3_copy_38 ?_
  obtain ⟨σ_12, h_10, hf⟩ := bnd_some hf
  refine J.callSN (pc := 41) C (m_X8_copyRow h_10) ⟨(ok_3_3 hcl hx1), (ok_3_3 hcl hk)⟩ wyX8_copyRow tsX8_copyRow tn_603 [.ref (Xad X (ptr x1 3)), .ref (Xad X (ptr k 3))] [] rfl rfl (Nat.le_of_ble_eq_true rfl) (Nat.le_of_ble_eq_true rfl) (Nat.le_of_ble_eq_true rfl) (stk' := []) rfl dX3_copy_41 rfl ?_
  exact J.vretM (pc := 44) C hR ((Option.some.inj hf).trans hp) dX3_copy_44
set_option maxHeartbeats 4000000 in
set_option maxRecDepth 100000 in
theorem m_X3_supply {l : Launch} {n : Nat} {σ : Mem} {k : Nat} {x1 : Nat} {t0 : Mem} (hf : f_X3_supply n σ k x1 = some t0) : Ct l yX3_supply cX3_supply 4 none 3 73 (fun ks => Ok ks k 3 ∧ Ok ks x1 1) (fun ad => [.ref (ad k), .ref (ad x1)]) σ (fun _ => none) t0 := by
  refine Ct.of (plainFor_of_name (by decide)) (fun _ => Nat.le_of_ble_eq_true rfl) ?_
  intro X C _ hok hcl hR
  obtain ⟨hk, hx1⟩ := hok
  have C : Cx X RX3 cX3_supply 4 none 3 73 := C
  have L2 : ∀ (σ : Mem) (x2 : Int32) (t : Mem), f_X3_supply_L2 n σ k x1 x2 = some t → t = t0 → J X 2 [(0, .ref (Xad X k)), (1, .ref (Xad X x1)), (2, .int x2)] [] σ := by
    intro σ x2 t hf hp
    unfold f_X3_supply_L2 at hf
    refine J_iter (JJ := fun (s : Mem × Int32) => J X 2 [(0, .ref (Xad X k)), (1, .ref (Xad X x1)), (2, .int (s.2))] [] s.1) (Ps := fun t => t = t0) ?_ n (σ, x2) t hf hp
    clear hf hp
    intro s t hf hp hq
    obtain ⟨σ, x2⟩ := s
    have hp := And.intro hp hq
    clear hq
    have hf : f_X3_supply_B2 n σ k x1 x2 = some t := hf
    show J X 2 [(0, .ref (Xad X k)), (1, .ref (Xad X x1)), (2, .int x2)] [] σ
    unfold f_X3_supply_B2 at hf
    refine J.iload_n (pc := 2) C dX3_supply_2 rfl 2 rfl ?_
    refine J.iconst (pc := 3) C (v := 3) dX3_supply_3 (by decide) ?_
    refine J.icmp_ge (pc := 4) C (tgt := 93) dX3_supply_4 (by decide) hf (fun hf => ?_) (fun hf => ?_)
    · exact J.vretM (pc := 93) C hR ((hp.1 _ (Option.some.inj hf).symm)) dX3_supply_93
    · refine J.aload_n (pc := 7) C dX3_supply_7 rfl 0 rfl ?_
      refine J.getR (pc := 8) C kcX3 hk 2 rfl tw_157 rfl dX3_supply_8 ?_
      refine J.iload_n (pc := 11) C dX3_supply_11 rfl 2 rfl ?_
      refine J.aload_n (pc := 12) C dX3_supply_12 rfl 1 rfl ?_
      refine J.iload_n (pc := 13) C dX3_supply_13 rfl 2 rfl ?_
      obtain ⟨r_2, h_1, hf⟩ := bnd_some hf
      refine J.callV (pc := 14) C (m_X1_demandOf h_1) hx1 wyX1_demandOf tvX1_demandOf_i tvX1_demandOf_s tw_482 kcX1 rfl hx1 [.int x2] [.int x2, .ref (Xad X (ptr k 2))] rfl rfl (Nat.le_of_ble_eq_true rfl) (Nat.le_of_ble_eq_true rfl) (Nat.le_of_ble_eq_true rfl) (stk' := [.int r_2, .int x2, .ref (Xad X (ptr k 2))]) rfl dX3_supply_14 rfl ?_
      refine J.iastM (pc := 17) C (ok_3_2 hcl hk) hf dX3_supply_17 (fun σ_3 hf => ?_)
      refine J.aload_n (pc := 18) C dX3_supply_18 rfl 0 rfl ?_
      refine J.getR (pc := 19) C kcX3 hk 2 rfl tw_157 rfl dX3_supply_19 ?_
      refine J.iload_n (pc := 22) C dX3_supply_22 rfl 2 rfl ?_
      refine J.iald (pc := 23) C (ok_3_2 hcl hk) hf dX3_supply_23 (fun hf => ?_)
      refine J.sipush (pc := 24) C (v := 1000) dX3_supply_24 (by decide) ?_
      refine J.aload_n (pc := 27) C dX3_supply_27 rfl 0 rfl ?_
      refine J.getR (pc := 28) C kcX3 hk 0 rfl tw_152 rfl dX3_supply_28 ?_
      refine J.iload_n (pc := 31) C dX3_supply_31 rfl 2 rfl ?_
      refine J.iconst (pc := 32) C (v := 0) dX3_supply_32 (by decide) ?_
      obtain ⟨r_5, h_4, hf⟩ := bnd_some hf
      refine J.callV (pc := 33) C (m_X4_value h_4) (ok_3_0 hcl hk) wyX4_value tvX4_value_i tvX4_value_s tw_490 kcX4 rfl (ok_3_0 hcl hk) [.int x2, .int 0] [.int 1000, .int (σ_3 (ptr k 2) (ix x2))] rfl rfl (Nat.le_of_ble_eq_true rfl) (Nat.le_of_ble_eq_true rfl) (Nat.le_of_ble_eq_true rfl) (stk' := [.int r_5, .int 1000, .int (σ_3 (ptr k 2) (ix x2))]) rfl dX3_supply_33 rfl ?_
      refine J.imul (pc := 36) C dX3_supply_36 ?_
      refine J.mminI (pc := 37) C tw_491 twm_min_s twm_i twm_min_c (Nat.le_of_ble_eq_true rfl) (Nat.le_of_ble_eq_true rfl) dX3_supply_37 ?_
      refine J.nmI hf (fun x3_6 hf => ?_)
      refine J.istore_n (pc := 40) C (loc' := [(3, .int x3_6), (0, .ref (Xad X k)), (1, .ref (Xad X x1)), (2, .int x2)]) dX3_supply_40 rfl (by decide) rfl ?_
      refine J.aload_n (pc := 41) C dX3_supply_41 rfl 1 rfl ?_
      refine J.getR (pc := 42) C kcX3 hk 1 rfl tw_155 rfl dX3_supply_42 ?_
      refine J.iload_n (pc := 45) C dX3_supply_45 rfl 3 rfl ?_
      refine J.aload_n (pc := 46) C dX3_supply_46 rfl 1 rfl ?_
      refine J.getR (pc := 47) C kcX3 hk 1 rfl tw_155 rfl dX3_supply_47 ?_
      refine J.iload_n (pc := 50) C dX3_supply_50 rfl 3 rfl ?_
      refine J.iald (pc := 51) C (ok_3_1 hcl hk) hf dX3_supply_51 (fun hf => ?_)
      refine J.iload_n (pc := 52) C dX3_supply_52 rfl 0 rfl ?_
      refine J.sipush (pc := 53) C (v := 1000) dX3_supply_53 (by decide) ?_
      refine J.aload_n (pc := 56) C dX3_supply_56 rfl 1 rfl ?_
      refine J.getR (pc := 57) C kcX3 hk 0 rfl tw_152 rfl dX3_supply_57 ?_
      refine J.iload_n (pc := 60) C dX3_supply_60 rfl 3 rfl ?_
      refine J.iconst (pc := 61) C (v := 1) dX3_supply_61 (by decide) ?_
      obtain ⟨r_8, h_7, hf⟩ := bnd_some hf
      refine J.callV (pc := 62) C (m_X4_value h_7) (ok_3_0 hcl hk) wyX4_value tvX4_value_i tvX4_value_s tw_490 kcX4 rfl (ok_3_0 hcl hk) [.int x2, .int 1] [.int 1000, .int x3_6, .int (σ_3 (ptr k 1) (ix x2)), .int x2, .ref (Xad X (ptr k 1))] rfl rfl (Nat.le_of_ble_eq_true rfl) (Nat.le_of_ble_eq_true rfl) (Nat.le_of_ble_eq_true rfl) (stk' := [.int r_8, .int 1000, .int x3_6, .int (σ_3 (ptr k 1) (ix x2)), .int x2, .ref (Xad X (ptr k 1))]) rfl dX3_supply_62 rfl ?_
      refine J.imul (pc := 65) C dX3_supply_65 ?_
      obtain ⟨r_10, h_9, hf⟩ := bnd_some hf
      refine J.callSN (pc := 66) C (m_X8_toward h_9) trivial wyX8_toward tsX8_toward tn_492 [.int (σ_3 (ptr k 1) (ix x2)), .int x3_6, .int (1000 * r_8)] [.int x2, .ref (Xad X (ptr k 1))] rfl rfl (Nat.le_of_ble_eq_true rfl) (Nat.le_of_ble_eq_true rfl) (Nat.le_of_ble_eq_true rfl) (stk' := [.int r_10, .int x2, .ref (Xad X (ptr k 1))]) rfl dX3_supply_66 rfl ?_
      refine J.iastM (pc := 69) C (ok_3_1 hcl hk) hf dX3_supply_69 (fun σ_11 hf => ?_)
      refine J.aload_n (pc := 70) C dX3_supply_70 rfl 2 rfl ?_
      refine J.iload_n (pc := 71) C dX3_supply_71 rfl 3 rfl ?_
      refine J.aload_n (pc := 72) C dX3_supply_72 rfl 1 rfl ?_
      refine J.getR (pc := 73) C kcX3 hk 2 rfl tw_157 rfl dX3_supply_73 ?_
      refine J.iload_n (pc := 76) C dX3_supply_76 rfl 3 rfl ?_
      refine J.iald (pc := 77) C (ok_3_2 hcl hk) hf dX3_supply_77 (fun hf => ?_)
      refine J.aload_n (pc := 78) C dX3_supply_78 rfl 1 rfl ?_
      refine J.getR (pc := 79) C kcX3 hk 1 rfl tw_155 rfl dX3_supply_79 ?_
      refine J.iload_n (pc := 82) C dX3_supply_82 rfl 3 rfl ?_
      refine J.iald (pc := 83) C (ok_3_1 hcl hk) hf dX3_supply_83 (fun hf => ?_)
      obtain ⟨σ_14, h_12, hf⟩ := bnd_some hf
      refine J.callV (pc := 84) C (m_X1_flow h_12) hx1 wyX1_flow tvX1_flow_i tvX1_flow_s tw_493 kcX1 rfl hx1 [.int x2, .int (σ_11 (ptr k 2) (ix x2)), .int (σ_11 (ptr k 1) (ix x2))] [] rfl rfl (Nat.le_of_ble_eq_true rfl) (Nat.le_of_ble_eq_true rfl) (Nat.le_of_ble_eq_true rfl) (stk' := []) rfl dX3_supply_84 rfl ?_
      obtain ⟨x2_15, hx_x2_15, hf⟩ := nm_some hf
      refine J.iinc (pc := 87) C (v := x2_15) (loc' := [(2, .int x2_15), (3, .int x3_6), (0, .ref (Xad X k)), (1, .ref (Xad X x1))]) dX3_supply_87 (k := 3) rfl (by rw [hx_x2_15]; rfl) (by decide) rfl ?_
      refine J.goto (pc := 90) C (tgt := 2) dX3_supply_90 (by decide) ?_
      exact J.sub (loc' := [(0, .ref (Xad X k)), (1, .ref (Xad X x1)), (2, .int x2_15)]) [2, 3, 0] rfl (hp.2 _ (Option.some.inj hf).symm)
  have hp : t0 = t0 := rfl
  show J X 0 [(0, .ref (Xad X k)), (1, .ref (Xad X x1))] [] σ
  unfold f_X3_supply at hf
  refine J.iconst (pc := 0) C (v := 0) dX3_supply_0 (by decide) ?_
  refine J.istore_n (pc := 1) C (loc' := [(2, .int 0), (0, .ref (Xad X k)), (1, .ref (Xad X x1))]) dX3_supply_1 rfl (by decide) rfl ?_
  exact J.sub (loc' := [(0, .ref (Xad X k)), (1, .ref (Xad X x1)), (2, .int 0)]) [1, 2, 0] rfl (L2 σ 0 _ hf hp)
set_option maxHeartbeats 4000000 in
set_option maxRecDepth 100000 in
theorem m_X3_isShort {l : Launch} {σ : Mem} {k : Nat} {x1 : Int32} {t0 : Int32} (hf : f_X3_isShort σ k x1 = some t0) : Ct l yX3_isShort cX3_isShort 2 (some FieldType.boolean) 0 0 (fun ks => Ok ks k 3) (fun ad => [.ref (ad k), .int x1]) σ (fun _ => some (.int t0)) σ := by
  refine Ct.of (plainFor_of_name (by decide)) (fun _ => Nat.le_of_ble_eq_true rfl) ?_
  intro X C _ hk hcl hR
  have C : Cx X RX3 cX3_isShort 2 (some FieldType.boolean) 0 0 := C
  have hp : t0 = t0 := rfl
  show J X 0 [(0, .ref (Xad X k)), (1, .int x1)] [] σ
  unfold f_X3_isShort at hf
  refine J.aload_n (pc := 0) C dX3_isShort_0 rfl 0 rfl ?_
  refine J.getR (pc := 1) C kcX3 hk 2 rfl tw_157 rfl dX3_isShort_1 ?_
  refine J.iload_n (pc := 4) C dX3_isShort_4 rfl 1 rfl ?_
  refine J.iald (pc := 5) C (ok_3_2 hcl hk) hf dX3_isShort_5 (fun hf => ?_)
  refine J.aload_n (pc := 6) C dX3_isShort_6 rfl 0 rfl ?_
  refine J.getR (pc := 7) C kcX3 hk 1 rfl tw_155 rfl dX3_isShort_7 ?_
  refine J.iload_n (pc := 10) C dX3_isShort_10 rfl 1 rfl ?_
  refine J.iald (pc := 11) C (ok_3_1 hcl hk) hf dX3_isShort_11 (fun hf => ?_)
  refine J.icmp_le (pc := 12) C (tgt := 19) dX3_isShort_12 (by decide) hf (fun hf => ?_) (fun hf => ?_)
  · refine J.iconst (pc := 19) C (v := 0) dX3_isShort_19 (by decide) ?_
    exact J.zretP (pc := 20) C rfl hR ((Option.some.inj hf).trans hp) dX3_isShort_20
  · refine J.iconst (pc := 15) C (v := 1) dX3_isShort_15 (by decide) ?_
    refine J.goto (pc := 16) C (tgt := 20) dX3_isShort_16 (by decide) ?_
    exact J.zretP (pc := 20) C rfl hR ((Option.some.inj hf).trans hp) dX3_isShort_20
set_option maxHeartbeats 4000000 in
set_option maxRecDepth 100000 in
theorem m_X3_countShort {l : Launch} {n : Nat} {σ : Mem} {k : Nat} {t0 : Mem} (hf : f_X3_countShort n σ k = some t0) : Ct l yX3_countShort cX3_countShort 2 none 1 21 (fun ks => Ok ks k 3) (fun ad => [.ref (ad k)]) σ (fun _ => none) t0 := by
  refine Ct.of (plainFor_of_name (by decide)) (fun _ => Nat.le_of_ble_eq_true rfl) ?_
  intro X C _ hk hcl hR
  have C : Cx X RX3 cX3_countShort 2 none 1 21 := C
  have L2 : ∀ (σ : Mem) (x1 : Int32) (t : Mem), f_X3_countShort_L2 n σ k x1 = some t → t = t0 → J X 2 [(0, .ref (Xad X k)), (1, .int x1)] [] σ := by
    intro σ x1 t hf hp
    unfold f_X3_countShort_L2 at hf
    refine J_iter (JJ := fun (s : Mem × Int32) => J X 2 [(0, .ref (Xad X k)), (1, .int (s.2))] [] s.1) (Ps := fun t => t = t0) ?_ n (σ, x1) t hf hp
    clear hf hp
    intro s t hf hp hq
    obtain ⟨σ, x1⟩ := s
    have hp := And.intro hp hq
    clear hq
    have hf : f_X3_countShort_B2 n σ k x1 = some t := hf
    show J X 2 [(0, .ref (Xad X k)), (1, .int x1)] [] σ
    unfold f_X3_countShort_B2 at hf
    refine J.iload_n (pc := 2) C dX3_countShort_2 rfl 1 rfl ?_
    refine J.iconst (pc := 3) C (v := 3) dX3_countShort_3 (by decide) ?_
    refine J.icmp_ge (pc := 4) C (tgt := 31) dX3_countShort_4 (by decide) hf (fun hf => ?_) (fun hf => ?_)
    · exact J.vretM (pc := 31) C hR ((hp.1 _ (Option.some.inj hf).symm)) dX3_countShort_31
    · refine J.aload_n (pc := 7) C dX3_countShort_7 rfl 0 rfl ?_
      refine J.iload_n (pc := 8) C dX3_countShort_8 rfl 1 rfl ?_
      obtain ⟨r_2, h_1, hf⟩ := bnd_some hf
      refine J.callV (pc := 9) C (m_X3_isShort h_1) hk wyX3_isShort tvX3_isShort_i tvX3_isShort_s tw_509 kcX3 rfl hk [.int x1] [] rfl rfl (Nat.le_of_ble_eq_true rfl) (Nat.le_of_ble_eq_true rfl) (Nat.le_of_ble_eq_true rfl) (stk' := [.int r_2]) rfl dX3_countShort_9 rfl ?_
      refine J.if_eq (pc := 12) C (tgt := 25) dX3_countShort_12 (by decide) hf (fun hf => ?_) (fun hf => ?_)
      · obtain ⟨x1_3, hx_x1_3, hf⟩ := nm_some hf
        refine J.iinc (pc := 25) C (v := x1_3) (loc' := [(1, .int x1_3), (0, .ref (Xad X k))]) dX3_countShort_25 (k := 1) rfl (by rw [hx_x1_3]; rfl) (by decide) rfl ?_
        refine J.goto (pc := 28) C (tgt := 2) dX3_countShort_28 (by decide) ?_
        exact J.sub (loc' := [(0, .ref (Xad X k)), (1, .int x1_3)]) [1, 0] rfl (hp.2 _ (Option.some.inj hf).symm)
      · refine J.aload_n (pc := 15) C dX3_countShort_15 rfl 0 rfl ?_
        refine J.getR (pc := 16) C kcX3 hk 3 rfl tw_159 rfl dX3_countShort_16 ?_
        refine J.iload_n (pc := 19) C dX3_countShort_19 rfl 1 rfl ?_
        refine J.dup2 (pc := 20) C dX3_countShort_20 rfl rfl ?_
        refine J.iald (pc := 21) C (ok_3_3 hcl hk) hf dX3_countShort_21 (fun hf => ?_)
        refine J.iconst (pc := 22) C (v := 1) dX3_countShort_22 (by decide) ?_
        refine J.iadd (pc := 23) C dX3_countShort_23 ?_
        refine J.iastM (pc := 24) C (ok_3_3 hcl hk) hf dX3_countShort_24 (fun σ_4 hf => ?_)
        obtain ⟨x1_5, hx_x1_5, hf⟩ := nm_some hf
        refine J.iinc (pc := 25) C (v := x1_5) (loc' := [(1, .int x1_5), (0, .ref (Xad X k))]) dX3_countShort_25 (k := 1) rfl (by rw [hx_x1_5]; rfl) (by decide) rfl ?_
        refine J.goto (pc := 28) C (tgt := 2) dX3_countShort_28 (by decide) ?_
        exact J.sub (loc' := [(0, .ref (Xad X k)), (1, .int x1_5)]) [1, 0] rfl (hp.2 _ (Option.some.inj hf).symm)
  have hp : t0 = t0 := rfl
  show J X 0 [(0, .ref (Xad X k))] [] σ
  unfold f_X3_countShort at hf
  refine J.iconst (pc := 0) C (v := 0) dX3_countShort_0 (by decide) ?_
  refine J.istore_n (pc := 1) C (loc' := [(1, .int 0), (0, .ref (Xad X k))]) dX3_countShort_1 rfl (by decide) rfl ?_
  exact J.sub (loc' := [(0, .ref (Xad X k)), (1, .int 0)]) [1, 0] rfl (L2 σ 0 _ hf hp)
set_option maxHeartbeats 4000000 in
set_option maxRecDepth 100000 in
theorem m_X3_someShort {l : Launch} {n : Nat} {σ : Mem} {k : Nat} {t0 : Int32} (hf : f_X3_someShort n σ k = some t0) : Ct l yX3_someShort cX3_someShort 2 (some FieldType.boolean) 1 21 (fun ks => Ok ks k 3) (fun ad => [.ref (ad k)]) σ (fun _ => some (.int t0)) σ := by
  refine Ct.of (plainFor_of_name (by decide)) (fun _ => Nat.le_of_ble_eq_true rfl) ?_
  intro X C _ hk hcl hR
  have C : Cx X RX3 cX3_someShort 2 (some FieldType.boolean) 1 21 := C
  have L2 : ∀ (x1 : Int32) (t : Int32), f_X3_someShort_L2 n σ k x1 = some t → t = t0 → J X 2 [(0, .ref (Xad X k)), (1, .int x1)] [] σ := by
    intro x1 t hf hp
    unfold f_X3_someShort_L2 at hf
    refine J_iter (JJ := fun (s : Int32) => J X 2 [(0, .ref (Xad X k)), (1, .int s)] [] σ) (Ps := fun t => t = t0) ?_ n x1 t hf hp
    clear hf hp
    intro s t hf hp hq
    obtain ⟨x1, rfl⟩ : ∃ z, z = s := ⟨_, rfl⟩
    have hp := And.intro hp hq
    clear hq
    have hf : f_X3_someShort_B2 n σ k x1 = some t := hf
    show J X 2 [(0, .ref (Xad X k)), (1, .int x1)] [] σ
    unfold f_X3_someShort_B2 at hf
    refine J.iload_n (pc := 2) C dX3_someShort_2 rfl 1 rfl ?_
    refine J.iconst (pc := 3) C (v := 3) dX3_someShort_3 (by decide) ?_
    refine J.icmp_ge (pc := 4) C (tgt := 23) dX3_someShort_4 (by decide) hf (fun hf => ?_) (fun hf => ?_)
    · refine J.iconst (pc := 23) C (v := 0) dX3_someShort_23 (by decide) ?_
      exact J.zretP (pc := 24) C rfl hR ((hp.1 _ (Option.some.inj hf).symm)) dX3_someShort_24
    · refine J.aload_n (pc := 7) C dX3_someShort_7 rfl 0 rfl ?_
      refine J.iload_n (pc := 8) C dX3_someShort_8 rfl 1 rfl ?_
      obtain ⟨r_2, h_1, hf⟩ := bnd_some hf
      refine J.callV (pc := 9) C (m_X3_isShort h_1) hk wyX3_isShort tvX3_isShort_i tvX3_isShort_s tw_509 kcX3 rfl hk [.int x1] [] rfl rfl (Nat.le_of_ble_eq_true rfl) (Nat.le_of_ble_eq_true rfl) (Nat.le_of_ble_eq_true rfl) (stk' := [.int r_2]) rfl dX3_someShort_9 rfl ?_
      refine J.if_eq (pc := 12) C (tgt := 17) dX3_someShort_12 (by decide) hf (fun hf => ?_) (fun hf => ?_)
      · obtain ⟨x1_3, hx_x1_3, hf⟩ := nm_some hf
        refine J.iinc (pc := 17) C (v := x1_3) (loc' := [(1, .int x1_3), (0, .ref (Xad X k))]) dX3_someShort_17 (k := 1) rfl (by rw [hx_x1_3]; rfl) (by decide) rfl ?_
        refine J.goto (pc := 20) C (tgt := 2) dX3_someShort_20 (by decide) ?_
        exact J.sub (loc' := [(0, .ref (Xad X k)), (1, .int x1_3)]) [1, 0] rfl (hp.2 _ (Option.some.inj hf).symm)
      · refine J.iconst (pc := 15) C (v := 1) dX3_someShort_15 (by decide) ?_
        exact J.zretP (pc := 16) C rfl hR ((hp.1 _ (Option.some.inj hf).symm)) dX3_someShort_16
  have hp : t0 = t0 := rfl
  show J X 0 [(0, .ref (Xad X k))] [] σ
  unfold f_X3_someShort at hf
  refine J.iconst (pc := 0) C (v := 0) dX3_someShort_0 (by decide) ?_
  refine J.istore_n (pc := 1) C (loc' := [(1, .int 0), (0, .ref (Xad X k))]) dX3_someShort_1 rfl (by decide) rfl ?_
  exact J.sub (loc' := [(0, .ref (Xad X k)), (1, .int 0)]) [1, 0] rfl (L2 0 _ hf hp)
set_option maxHeartbeats 4000000 in
set_option maxRecDepth 100000 in
theorem m_X4_change {l : Launch} {σ : Mem} {k : Nat} {x1 : Int32} {x2 : Int32} {x3 : Int32} {t0 : (Int32 × Mem)} (hf : f_X4_change σ k x1 x2 x3 = some t0) : Ct l yX4_change cX4_change 6 (some FieldType.int) 1 22 (fun ks => Ok ks k 4) (fun ad => [.ref (ad k), .int x1, .int x2, .int x3]) σ (fun _ => some (.int t0.1)) t0.2 := by
  refine Ct.of (plainFor_of_name (by decide)) (fun _ => Nat.le_of_ble_eq_true rfl) ?_
  intro X C _ hk hcl hR
  have C : Cx X RX4 cX4_change 6 (some FieldType.int) 1 22 := C
  have hp : t0 = t0 := rfl
  show J X 0 [(0, .ref (Xad X k)), (1, .int x1), (2, .int x2), (3, .int x3)] [] σ
  unfold f_X4_change at hf
  refine J.iload_n (pc := 0) C dX4_change_0 rfl 1 rfl ?_
  refine J.iconst (pc := 1) C (v := 0) dX4_change_1 (by decide) ?_
  refine J.aload_n (pc := 2) C dX4_change_2 rfl 0 rfl ?_
  refine J.getI (pc := 3) C kcX4 hk 3 rfl tw_70 rfl dX4_change_3 ?_
  refine J.iconst (pc := 6) C (v := 1) dX4_change_6 (by decide) ?_
  refine J.isub (pc := 7) C dX4_change_7 ?_
  obtain ⟨r_2, h_1, hf⟩ := bnd_some hf
  refine J.callSN (pc := 8) C (m_X8_within h_1) trivial wyX8_within tsX8_within tn_364 [.int x1, .int 0, .int ((σ k 3) - 1)] [] rfl rfl (Nat.le_of_ble_eq_true rfl) (Nat.le_of_ble_eq_true rfl) (Nat.le_of_ble_eq_true rfl) (stk' := [.int r_2]) rfl dX4_change_8 rfl ?_
  refine J.if_eq (pc := 11) C (tgt := 48) dX4_change_11 (by decide) hf (fun hf => ?_) (fun hf => ?_)
  · refine J.bipush (pc := 48) C (v := (-2)) dX4_change_48 (by decide) ?_
    exact J.iretM (pc := 50) C hR ((Option.some.inj hf).trans hp) dX4_change_50
  · refine J.iload_n (pc := 14) C dX4_change_14 rfl 2 rfl ?_
    refine J.iconst (pc := 15) C (v := 0) dX4_change_15 (by decide) ?_
    refine J.aload_n (pc := 16) C dX4_change_16 rfl 0 rfl ?_
    refine J.getR (pc := 17) C kcX4 hk 2 rfl tw_69 rfl dX4_change_17 ?_
    refine J.srrlen (pc := 20) C (st_4_2 hk) dX4_change_20 ?_
    refine J.iconst (pc := 21) C (v := 1) dX4_change_21 (by decide) ?_
    refine J.isub (pc := 22) C dX4_change_22 ?_
    obtain ⟨r_4, h_3, hf⟩ := bnd_some hf
    refine J.callSN (pc := 23) C (m_X8_within h_3) trivial wyX8_within tsX8_within tn_364 [.int x2, .int 0, .int ((Int32.ofNat (alen (ptr k 2))) - 1)] [] rfl rfl (Nat.le_of_ble_eq_true rfl) (Nat.le_of_ble_eq_true rfl) (Nat.le_of_ble_eq_true rfl) (stk' := [.int r_4]) rfl dX4_change_23 rfl ?_
    refine J.if_eq (pc := 26) C (tgt := 48) dX4_change_26 (by decide) hf (fun hf => ?_) (fun hf => ?_)
    · refine J.bipush (pc := 48) C (v := (-2)) dX4_change_48 (by decide) ?_
      exact J.iretM (pc := 50) C hR ((Option.some.inj hf).trans hp) dX4_change_50
    · refine J.iload_n (pc := 29) C dX4_change_29 rfl 3 rfl ?_
      refine J.aload_n (pc := 30) C dX4_change_30 rfl 0 rfl ?_
      refine J.getR (pc := 31) C kcX4 hk 0 rfl tw_67 rfl dX4_change_31 ?_
      refine J.iload_n (pc := 34) C dX4_change_34 rfl 2 rfl ?_
      refine J.sald (pc := 35) C (st_4_0 hk) hf dX4_change_35 (fun hf => ?_)
      refine J.aload_n (pc := 36) C dX4_change_36 rfl 0 rfl ?_
      refine J.getR (pc := 37) C kcX4 hk 1 rfl tw_68 rfl dX4_change_37 ?_
      refine J.iload_n (pc := 40) C dX4_change_40 rfl 2 rfl ?_
      refine J.sald (pc := 41) C (st_4_1 hk) hf dX4_change_41 (fun hf => ?_)
      obtain ⟨r_6, h_5, hf⟩ := bnd_some hf
      refine J.callSN (pc := 42) C (m_X8_within h_5) trivial wyX8_within tsX8_within tn_364 [.int x3, .int (σ (ptr k 0) (ix x2)), .int (σ (ptr k 1) (ix x2))] [] rfl rfl (Nat.le_of_ble_eq_true rfl) (Nat.le_of_ble_eq_true rfl) (Nat.le_of_ble_eq_true rfl) (stk' := [.int r_6]) rfl dX4_change_42 rfl ?_
      refine J.if_ne (pc := 45) C (tgt := 51) dX4_change_45 (by decide) hf (fun hf => ?_) (fun hf => ?_)
      · refine J.iload_n (pc := 51) C dX4_change_51 rfl 1 rfl ?_
        refine J.aload_n (pc := 52) C dX4_change_52 rfl 0 rfl ?_
        refine J.getR (pc := 53) C kcX4 hk 2 rfl tw_69 rfl dX4_change_53 ?_
        refine J.srrlen (pc := 56) C (st_4_2 hk) dX4_change_56 ?_
        refine J.imul (pc := 57) C dX4_change_57 ?_
        refine J.iload_n (pc := 58) C dX4_change_58 rfl 2 rfl ?_
        refine J.iadd (pc := 59) C dX4_change_59 ?_
        refine J.nmI hf (fun x4_7 hf => ?_)
        refine J.istore (pc := 60) C (loc' := [(4, .int x4_7), (0, .ref (Xad X k)), (1, .int x1), (2, .int x2), (3, .int x3)]) dX4_change_60 (by decide) rfl ?_
        refine J.aload_n (pc := 62) C dX4_change_62 rfl 1 rfl ?_
        refine J.getR (pc := 63) C kcX4 hk 4 rfl tw_71 rfl dX4_change_63 ?_
        refine J.iload (pc := 66) C dX4_change_66 0 rfl ?_
        refine J.iald (pc := 68) C (ok_4_4 hcl hk) hf dX4_change_68 (fun hf => ?_)
        refine J.nmI hf (fun x5_8 hf => ?_)
        refine J.istore (pc := 69) C (loc' := [(5, .int x5_8), (4, .int x4_7), (0, .ref (Xad X k)), (1, .int x1), (2, .int x2), (3, .int x3)]) dX4_change_69 (by decide) rfl ?_
        refine J.aload_n (pc := 71) C dX4_change_71 rfl 2 rfl ?_
        refine J.getR (pc := 72) C kcX4 hk 4 rfl tw_71 rfl dX4_change_72 ?_
        refine J.iload (pc := 75) C dX4_change_75 1 rfl ?_
        refine J.iload_n (pc := 77) C dX4_change_77 rfl 5 rfl ?_
        refine J.iastM (pc := 78) C (ok_4_4 hcl hk) hf dX4_change_78 (fun σ_9 hf => ?_)
        refine J.iload (pc := 79) C dX4_change_79 0 rfl ?_
        exact J.iretM (pc := 81) C hR ((Option.some.inj hf).trans hp) dX4_change_81
      · refine J.bipush (pc := 48) C (v := (-2)) dX4_change_48 (by decide) ?_
        exact J.iretM (pc := 50) C hR ((Option.some.inj hf).trans hp) dX4_change_50
set_option maxHeartbeats 4000000 in
set_option maxRecDepth 100000 in
theorem m_X7_goBack {l : Launch} {σ : Mem} {k : Nat} {t0 : Mem} (hf : f_X7_goBack σ k = some t0) : Ct l yX7_goBack cX7_goBack 1 none 0 0 (fun ks => Ok ks k 7) (fun ad => [.ref (ad k)]) σ (fun _ => none) t0 := by
  refine Ct.of (plainFor_of_name (by decide)) (fun _ => Nat.le_of_ble_eq_true rfl) ?_
  intro X C _ hk hcl hR
  have C : Cx X RX7 cX7_goBack 1 none 0 0 := C
  have hp : t0 = t0 := rfl
  show J X 0 [(0, .ref (Xad X k))] [] σ
  unfold f_X7_goBack at hf
  refine J.aload_n (pc := 0) C dX7_goBack_0 rfl 0 rfl ?_
  refine J.iconst (pc := 1) C (v := 0) dX7_goBack_1 (by decide) ?_
  refine J.putM (pc := 2) C kcX7 hk 1 rfl tw_179 rfl rfl rfl rfl hf dX7_goBack_2 (fun σ_1 hf => ?_)
  refine J.aload_n (pc := 5) C dX7_goBack_5 rfl 0 rfl ?_
  refine J.iconst (pc := 6) C (v := 0) dX7_goBack_6 (by decide) ?_
  refine J.putM (pc := 7) C kcX7 hk 2 rfl tw_180 rfl rfl rfl rfl hf dX7_goBack_7 (fun σ_2 hf => ?_)
  refine J.aload_n (pc := 10) C dX7_goBack_10 rfl 0 rfl ?_
  refine J.iconst (pc := 11) C (v := 0) dX7_goBack_11 (by decide) ?_
  refine J.putM (pc := 12) C kcX7 hk 3 rfl tw_183 rfl rfl rfl rfl hf dX7_goBack_12 (fun σ_3 hf => ?_)
  exact J.vretM (pc := 15) C hR ((Option.some.inj hf).trans hp) dX7_goBack_15
set_option maxHeartbeats 4000000 in
set_option maxRecDepth 100000 in
theorem m_X5_goBack {l : Launch} {n : Nat} {σ : Mem} {k : Nat} {t0 : Mem} (hf : f_X5_goBack n σ k = some t0) : Ct l yX5_goBack cX5_goBack 1 none 2 41 (fun ks => Ok ks k 5) (fun ad => [.ref (ad k)]) σ (fun _ => none) t0 := by
  refine Ct.of (plainFor_of_name (by decide)) (fun _ => Nat.le_of_ble_eq_true rfl) ?_
  intro X C _ hk hcl hR
  have C : Cx X RX5 cX5_goBack 1 none 2 41 := C
  have hp : t0 = t0 := rfl
  show J X 0 [(0, .ref (Xad X k))] [] σ
  unfold f_X5_goBack at hf
  refine J.aload_n (pc := 0) C dX5_goBack_0 rfl 0 rfl ?_
  refine J.getR (pc := 1) C kcX5 hk 1 rfl tw_221 rfl dX5_goBack_1 ?_
  obtain ⟨σ_3, h_1, hf⟩ := bnd_some hf
  refine J.callV (pc := 4) C (m_X1_goBack h_1) (ok_5_1 hcl hk) wyX1_goBack tvX1_goBack_i tvX1_goBack_s tw_335 kcX1 rfl (ok_5_1 hcl hk) [] [] rfl rfl (Nat.le_of_ble_eq_true rfl) (Nat.le_of_ble_eq_true rfl) (Nat.le_of_ble_eq_true rfl) (stk' := []) rfl dX5_goBack_4 rfl ?_
  refine J.aload_n (pc := 7) C dX5_goBack_7 rfl 0 rfl ?_
  refine J.getR (pc := 8) C kcX5 hk 2 rfl tw_223 rfl dX5_goBack_8 ?_
  obtain ⟨σ_6, h_4, hf⟩ := bnd_some hf
  refine J.callV (pc := 11) C (m_X3_goBack h_4) (ok_5_2 hcl hk) wyX3_goBack tvX3_goBack_i tvX3_goBack_s tw_342 kcX3 rfl (ok_5_2 hcl hk) [] [] rfl rfl (Nat.le_of_ble_eq_true rfl) (Nat.le_of_ble_eq_true rfl) (Nat.le_of_ble_eq_true rfl) (stk' := []) rfl dX5_goBack_11 rfl ?_
  refine J.aload_n (pc := 14) C dX5_goBack_14 rfl 0 rfl ?_
  refine J.getR (pc := 15) C kcX5 hk 3 rfl tw_225 rfl dX5_goBack_15 ?_
  obtain ⟨σ_9, h_7, hf⟩ := bnd_some hf
  refine J.callV (pc := 18) C (m_X7_goBack h_7) (ok_5_3 hcl hk) wyX7_goBack tvX7_goBack_i tvX7_goBack_s tw_347 kcX7 rfl (ok_5_3 hcl hk) [] [] rfl rfl (Nat.le_of_ble_eq_true rfl) (Nat.le_of_ble_eq_true rfl) (Nat.le_of_ble_eq_true rfl) (stk' := []) rfl dX5_goBack_18 rfl ?_
  refine J.aload_n (pc := 21) C dX5_goBack_21 rfl 0 rfl ?_
  refine J.iconst (pc := 22) C (v := 0) dX5_goBack_22 (by decide) ?_
  refine J.putM (pc := 23) C kcX5 hk 5 rfl tw_229 rfl rfl rfl rfl hf dX5_goBack_23 (fun σ_10 hf => ?_)
  refine J.aload_n (pc := 26) C dX5_goBack_26 rfl 0 rfl ?_
  refine J.iconst (pc := 27) C (v := 0) dX5_goBack_27 (by decide) ?_
  refine J.putM (pc := 28) C kcX5 hk 6 rfl tw_231 rfl rfl rfl rfl hf dX5_goBack_28 (fun σ_11 hf => ?_)
  exact J.vretM (pc := 31) C hR ((Option.some.inj hf).trans hp) dX5_goBack_31
set_option maxHeartbeats 4000000 in
set_option maxRecDepth 100000 in
theorem m_X5_begin {l : Launch} {n : Nat} {σ : Mem} {k : Nat} {x1 : Int32} {t0 : Mem} (hf : f_X5_begin n σ k x1 = some t0) : Ct l yX5_begin cX5_begin 2 none 3 61 (fun ks => Ok ks k 5) (fun ad => [.ref (ad k), .int x1]) σ (fun _ => none) t0 := by
  refine Ct.of (plainFor_of_name (by decide)) (fun _ => Nat.le_of_ble_eq_true rfl) ?_
  intro X C _ hk hcl hR
  have C : Cx X RX5 cX5_begin 2 none 3 61 := C
  have hp : t0 = t0 := rfl
  show J X 0 [(0, .ref (Xad X k)), (1, .int x1)] [] σ
  unfold f_X5_begin at hf
  refine J.aload_n (pc := 0) C dX5_begin_0 rfl 0 rfl ?_
  refine J.getR (pc := 1) C kcX5 hk 0 rfl tw_219 rfl dX5_begin_1 ?_
  obtain ⟨σ_3, h_1, hf⟩ := bnd_some hf
  refine J.callV (pc := 4) C (m_X4_reset h_1) (ok_5_0 hcl hk) wyX4_reset tvX4_reset_i tvX4_reset_s tw_325 kcX4 rfl (ok_5_0 hcl hk) [] [] rfl rfl (Nat.le_of_ble_eq_true rfl) (Nat.le_of_ble_eq_true rfl) (Nat.le_of_ble_eq_true rfl) (stk' := []) rfl dX5_begin_4 rfl ?_
  refine J.aload_n (pc := 7) C dX5_begin_7 rfl 0 rfl ?_
  refine J.getR (pc := 8) C kcX5 hk 1 rfl tw_221 rfl dX5_begin_8 ?_
  refine J.iload_n (pc := 11) C dX5_begin_11 rfl 1 rfl ?_
  obtain ⟨σ_6, h_4, hf⟩ := bnd_some hf
  refine J.callV (pc := 12) C (m_X1_begin h_4) (ok_5_1 hcl hk) wyX1_begin tvX1_begin_i tvX1_begin_s tw_326 kcX1 rfl (ok_5_1 hcl hk) [.int x1] [] rfl rfl (Nat.le_of_ble_eq_true rfl) (Nat.le_of_ble_eq_true rfl) (Nat.le_of_ble_eq_true rfl) (stk' := []) rfl dX5_begin_12 rfl ?_
  refine J.aload_n (pc := 15) C dX5_begin_15 rfl 0 rfl ?_
  refine J.getR (pc := 16) C kcX5 hk 2 rfl tw_223 rfl dX5_begin_16 ?_
  refine J.getR (pc := 19) C kcX3 (ok_5_2 hcl hk) 0 rfl tw_153 rfl dX5_begin_19 ?_
  obtain ⟨σ_9, h_7, hf⟩ := bnd_some hf
  refine J.callV (pc := 22) C (m_X4_reset h_7) (ok_3_0 hcl (ok_5_2 hcl hk)) wyX4_reset tvX4_reset_i tvX4_reset_s tw_325 kcX4 rfl (ok_3_0 hcl (ok_5_2 hcl hk)) [] [] rfl rfl (Nat.le_of_ble_eq_true rfl) (Nat.le_of_ble_eq_true rfl) (Nat.le_of_ble_eq_true rfl) (stk' := []) rfl dX5_begin_22 rfl ?_
  refine J.aload_n (pc := 25) C dX5_begin_25 rfl 0 rfl ?_
  refine J.getR (pc := 26) C kcX5 hk 3 rfl tw_225 rfl dX5_begin_26 ?_
  refine J.iconst (pc := 29) C (v := 0) dX5_begin_29 (by decide) ?_
  refine J.putM (pc := 30) C kcX7 (ok_5_3 hcl hk) 0 rfl tw_177 rfl rfl rfl rfl hf dX5_begin_30 (fun σ_10 hf => ?_)
  refine J.aload_n (pc := 33) C dX5_begin_33 rfl 0 rfl ?_
  refine J.getR (pc := 34) C kcX5 hk 4 rfl tw_227 rfl dX5_begin_34 ?_
  refine J.iconst (pc := 37) C (v := 0) dX5_begin_37 (by decide) ?_
  refine J.putM (pc := 38) C kcX0 (ok_5_4 hcl hk) 3 rfl tw_207 rfl rfl rfl rfl hf dX5_begin_38 (fun σ_11 hf => ?_)
  refine J.aload_n (pc := 41) C dX5_begin_41 rfl 0 rfl ?_
  obtain ⟨σ_14, h_12, hf⟩ := bnd_some hf
  refine J.callV (pc := 42) C (m_X5_goBack h_12) hk wyX5_goBack tvX5_goBack_i tvX5_goBack_s tw_331 kcX5 rfl hk [] [] rfl rfl (Nat.le_of_ble_eq_true rfl) (Nat.le_of_ble_eq_true rfl) (Nat.le_of_ble_eq_true rfl) (stk' := []) rfl dX5_begin_42 rfl ?_
  exact J.vretM (pc := 45) C hR ((Option.some.inj hf).trans hp) dX5_begin_45
set_option maxHeartbeats 4000000 in
set_option maxRecDepth 100000 in
theorem m_X7_copy {l : Launch} {σ : Mem} {k : Nat} {x1 : Nat} {t0 : Mem} (hf : f_X7_copy σ k x1 = some t0) : Ct l yX7_copy cX7_copy 2 none 0 0 (fun ks => Ok ks k 7 ∧ Ok ks x1 7) (fun ad => [.ref (ad k), .ref (ad x1)]) σ (fun _ => none) t0 := by
  refine Ct.of (plainFor_of_name (by decide)) (fun _ => Nat.le_of_ble_eq_true rfl) ?_
  intro X C _ hok hcl hR
  obtain ⟨hk, hx1⟩ := hok
  have C : Cx X RX7 cX7_copy 2 none 0 0 := C
  have hp : t0 = t0 := rfl
  show J X 0 [(0, .ref (Xad X k)), (1, .ref (Xad X x1))] [] σ
  unfold f_X7_copy at hf
  refine J.aload_n (pc := 0) C dX7_copy_0 rfl 0 rfl ?_
  refine J.aload_n (pc := 1) C dX7_copy_1 rfl 1 rfl ?_
  refine J.getI (pc := 2) C kcX7 hx1 0 rfl tw_176 rfl dX7_copy_2 ?_
  refine J.putM (pc := 5) C kcX7 hk 0 rfl tw_176 rfl rfl rfl rfl hf dX7_copy_5 (fun σ_1 hf => ?_)
  refine J.aload_n (pc := 8) C dX7_copy_8 rfl 0 rfl ?_
  refine J.aload_n (pc := 9) C dX7_copy_9 rfl 1 rfl ?_
  refine J.getI (pc := 10) C kcX7 hx1 1 rfl tw_179 rfl dX7_copy_10 ?_
  refine J.putM (pc := 13) C kcX7 hk 1 rfl tw_179 rfl rfl rfl rfl hf dX7_copy_13 (fun σ_2 hf => ?_)
  refine J.aload_n (pc := 16) C dX7_copy_16 rfl 0 rfl ?_
  refine J.aload_n (pc := 17) C dX7_copy_17 rfl 1 rfl ?_
  refine J.getI (pc := 18) C kcX7 hx1 2 rfl tw_180 rfl dX7_copy_18 ?_
  refine J.putM (pc := 21) C kcX7 hk 2 rfl tw_180 rfl rfl rfl rfl hf dX7_copy_21 (fun σ_3 hf => ?_)
  refine J.aload_n (pc := 24) C dX7_copy_24 rfl 0 rfl ?_
  refine J.aload_n (pc := 25) C dX7_copy_25 rfl 1 rfl ?_
  refine J.getI (pc := 26) C kcX7 hx1 3 rfl tw_183 rfl dX7_copy_26 ?_
  refine J.putM (pc := 29) C kcX7 hk 3 rfl tw_183 rfl rfl rfl rfl hf dX7_copy_29 (fun σ_4 hf => ?_)
  exact J.vretM (pc := 32) C hR ((Option.some.inj hf).trans hp) dX7_copy_32
set_option maxHeartbeats 4000000 in
set_option maxRecDepth 100000 in
theorem m_X5_copy {l : Launch} {σ : Mem} {k : Nat} {x1 : Nat} {t0 : Mem} (hf : f_X5_copy σ k x1 = some t0) : Ct l yX5_copy cX5_copy 2 none 4 81 (fun ks => Ok ks k 5 ∧ Ok ks x1 5) (fun ad => [.ref (ad k), .ref (ad x1)]) σ (fun _ => none) t0 := by
  refine Ct.of (plainFor_of_name (by decide)) (fun _ => Nat.le_of_ble_eq_true rfl) ?_
  intro X C _ hok hcl hR
  obtain ⟨hk, hx1⟩ := hok
  have C : Cx X RX5 cX5_copy 2 none 4 81 := C
  have hp : t0 = t0 := rfl
  show J X 0 [(0, .ref (Xad X k)), (1, .ref (Xad X x1))] [] σ
  unfold f_X5_copy at hf
  refine J.aload_n (pc := 0) C dX5_copy_0 rfl 0 rfl ?_
  refine J.getR (pc := 1) C kcX5 hk 0 rfl tw_219 rfl dX5_copy_1 ?_
  refine J.aload_n (pc := 4) C dX5_copy_4 rfl 1 rfl ?_
  refine J.getR (pc := 5) C kcX5 hx1 0 rfl tw_219 rfl dX5_copy_5 ?_
  obtain ⟨σ_3, h_1, hf⟩ := bnd_some hf
  refine J.callV (pc := 8) C (m_X4_copy h_1) ⟨(ok_5_0 hcl hk), (ok_5_0 hcl hx1)⟩ wyX4_copy tvX4_copy_i tvX4_copy_s tw_584 kcX4 rfl (ok_5_0 hcl hk) [.ref (Xad X (ptr x1 0))] [] rfl rfl (Nat.le_of_ble_eq_true rfl) (Nat.le_of_ble_eq_true rfl) (Nat.le_of_ble_eq_true rfl) (stk' := []) rfl dX5_copy_8 rfl ?_
  refine J.aload_n (pc := 11) C dX5_copy_11 rfl 0 rfl ?_
  refine J.getR (pc := 12) C kcX5 hk 1 rfl tw_221 rfl dX5_copy_12 ?_
  refine J.aload_n (pc := 15) C dX5_copy_15 rfl 1 rfl ?_
  refine J.getR (pc := 16) C kcX5 hx1 1 rfl tw_221 rfl dX5_copy_16 ?_
  obtain ⟨σ_6, h_4, hf⟩ := bnd_some hf
  refine J.callV (pc := 19) C (m_X1_copy h_4) ⟨(ok_5_1 hcl hk), (ok_5_1 hcl hx1)⟩ wyX1_copy tvX1_copy_i tvX1_copy_s tw_592 kcX1 rfl (ok_5_1 hcl hk) [.ref (Xad X (ptr x1 1))] [] rfl rfl (Nat.le_of_ble_eq_true rfl) (Nat.le_of_ble_eq_true rfl) (Nat.le_of_ble_eq_true rfl) (stk' := []) rfl dX5_copy_19 rfl ?_
  refine J.aload_n (pc := 22) C dX5_copy_22 rfl 0 rfl ?_
  refine J.getR (pc := 23) C kcX5 hk 2 rfl tw_223 rfl dX5_copy_23 ?_
  refine J.aload_n (pc := 26) C dX5_copy_26 rfl 1 rfl ?_
  refine J.getR (pc := 27) C kcX5 hx1 2 rfl tw_223 rfl dX5_copy_27 ?_
  obtain ⟨σ_9, h_7, hf⟩ := bnd_some hf
  refine J.callV (pc := 30) C (m_X3_copy h_7) ⟨(ok_5_2 hcl hk), (ok_5_2 hcl hx1)⟩ wyX3_copy tvX3_copy_i tvX3_copy_s tw_598 kcX3 rfl (ok_5_2 hcl hk) [.ref (Xad X (ptr x1 2))] [] rfl rfl (Nat.le_of_ble_eq_true rfl) (Nat.le_of_ble_eq_true rfl) (Nat.le_of_ble_eq_true rfl) (stk' := []) rfl dX5_copy_30 rfl ?_
  refine J.aload_n (pc := 33) C dX5_copy_33 rfl 0 rfl ?_
  refine J.getR (pc := 34) C kcX5 hk 3 rfl tw_225 rfl dX5_copy_34 ?_
  refine J.aload_n (pc := 37) C dX5_copy_37 rfl 1 rfl ?_
  refine J.getR (pc := 38) C kcX5 hx1 3 rfl tw_225 rfl dX5_copy_38 ?_
  obtain ⟨σ_12, h_10, hf⟩ := bnd_some hf
  refine J.callV (pc := 41) C (m_X7_copy h_10) ⟨(ok_5_3 hcl hk), (ok_5_3 hcl hx1)⟩ wyX7_copy tvX7_copy_i tvX7_copy_s tw_604 kcX7 rfl (ok_5_3 hcl hk) [.ref (Xad X (ptr x1 3))] [] rfl rfl (Nat.le_of_ble_eq_true rfl) (Nat.le_of_ble_eq_true rfl) (Nat.le_of_ble_eq_true rfl) (stk' := []) rfl dX5_copy_41 rfl ?_
  refine J.aload_n (pc := 44) C dX5_copy_44 rfl 0 rfl ?_
  refine J.getR (pc := 45) C kcX5 hk 4 rfl tw_227 rfl dX5_copy_45 ?_
  refine J.aload_n (pc := 48) C dX5_copy_48 rfl 1 rfl ?_
  refine J.getR (pc := 49) C kcX5 hx1 4 rfl tw_227 rfl dX5_copy_49 ?_
  obtain ⟨σ_15, h_13, hf⟩ := bnd_some hf
  refine J.callV (pc := 52) C (m_X0_copy h_13) ⟨(ok_5_4 hcl hk), (ok_5_4 hcl hx1)⟩ wyX0_copy tvX0_copy_i tvX0_copy_s tw_608 kcX0 rfl (ok_5_4 hcl hk) [.ref (Xad X (ptr x1 4))] [] rfl rfl (Nat.le_of_ble_eq_true rfl) (Nat.le_of_ble_eq_true rfl) (Nat.le_of_ble_eq_true rfl) (stk' := []) rfl dX5_copy_52 rfl ?_
  refine J.aload_n (pc := 55) C dX5_copy_55 rfl 0 rfl ?_
  refine J.aload_n (pc := 56) C dX5_copy_56 rfl 1 rfl ?_
  refine J.getI (pc := 57) C kcX5 hx1 5 rfl tw_229 rfl dX5_copy_57 ?_
  refine J.putM (pc := 60) C kcX5 hk 5 rfl tw_229 rfl rfl rfl rfl hf dX5_copy_60 (fun σ_16 hf => ?_)
  refine J.aload_n (pc := 63) C dX5_copy_63 rfl 0 rfl ?_
  refine J.aload_n (pc := 64) C dX5_copy_64 rfl 1 rfl ?_
  refine J.getI (pc := 65) C kcX5 hx1 6 rfl tw_231 rfl dX5_copy_65 ?_
  refine J.putM (pc := 68) C kcX5 hk 6 rfl tw_231 rfl rfl rfl rfl hf dX5_copy_68 (fun σ_17 hf => ?_)
  exact J.vretM (pc := 71) C hR ((Option.some.inj hf).trans hp) dX5_copy_71
set_option maxHeartbeats 4000000 in
set_option maxRecDepth 100000 in
theorem m_X7_enter {l : Launch} {σ : Mem} {k : Nat} {x1 : Int32} {t0 : Mem} (hf : f_X7_enter σ k x1 = some t0) : Ct l yX7_enter cX7_enter 2 none 0 0 (fun ks => Ok ks k 7) (fun ad => [.ref (ad k), .int x1]) σ (fun _ => none) t0 := by
  refine Ct.of (plainFor_of_name (by decide)) (fun _ => Nat.le_of_ble_eq_true rfl) ?_
  intro X C _ hk hcl hR
  have C : Cx X RX7 cX7_enter 2 none 0 0 := C
  have hp : t0 = t0 := rfl
  show J X 0 [(0, .ref (Xad X k)), (1, .int x1)] [] σ
  unfold f_X7_enter at hf
  refine J.aload_n (pc := 0) C dX7_enter_0 rfl 0 rfl ?_
  refine J.iload_n (pc := 1) C dX7_enter_1 rfl 1 rfl ?_
  refine J.putM (pc := 2) C kcX7 hk 2 rfl tw_180 rfl rfl rfl rfl hf dX7_enter_2 (fun σ_1 hf => ?_)
  refine J.aload_n (pc := 5) C dX7_enter_5 rfl 0 rfl ?_
  refine J.iconst (pc := 6) C (v := 0) dX7_enter_6 (by decide) ?_
  refine J.putM (pc := 7) C kcX7 hk 3 rfl tw_183 rfl rfl rfl rfl hf dX7_enter_7 (fun σ_2 hf => ?_)
  exact J.vretM (pc := 10) C hR ((Option.some.inj hf).trans hp) dX7_enter_10
set_option maxHeartbeats 4000000 in
set_option maxRecDepth 100000 in
theorem m_X7_calmDown {l : Launch} {σ : Mem} {k : Nat} {x1 : Int32} {t0 : Mem} (hf : f_X7_calmDown σ k x1 = some t0) : Ct l yX7_calmDown cX7_calmDown 2 none 1 21 (fun ks => Ok ks k 7) (fun ad => [.ref (ad k), .int x1]) σ (fun _ => none) t0 := by
  refine Ct.of (plainFor_of_name (by decide)) (fun _ => Nat.le_of_ble_eq_true rfl) ?_
  intro X C _ hk hcl hR
  have C : Cx X RX7 cX7_calmDown 2 none 1 21 := C
  have hp : t0 = t0 := rfl
  show J X 0 [(0, .ref (Xad X k)), (1, .int x1)] [] σ
  unfold f_X7_calmDown at hf
  refine J.aload_n (pc := 0) C dX7_calmDown_0 rfl 0 rfl ?_
  refine J.dup (pc := 1) C dX7_calmDown_1 rfl ?_
  refine J.getI (pc := 2) C kcX7 hk 3 rfl tw_183 rfl dX7_calmDown_2 ?_
  refine J.iconst (pc := 5) C (v := 1) dX7_calmDown_5 (by decide) ?_
  refine J.iadd (pc := 6) C dX7_calmDown_6 ?_
  refine J.putM (pc := 7) C kcX7 hk 3 rfl tw_183 rfl rfl rfl rfl hf dX7_calmDown_7 (fun σ_1 hf => ?_)
  refine J.aload_n (pc := 10) C dX7_calmDown_10 rfl 0 rfl ?_
  refine J.getI (pc := 11) C kcX7 hk 3 rfl tw_183 rfl dX7_calmDown_11 ?_
  refine J.iload_n (pc := 14) C dX7_calmDown_14 rfl 1 rfl ?_
  refine J.icmp_lt (pc := 15) C (tgt := 28) dX7_calmDown_15 (by decide) hf (fun hf => ?_) (fun hf => ?_)
  · exact J.vretM (pc := 28) C hR ((Option.some.inj hf).trans hp) dX7_calmDown_28
  · refine J.aload_n (pc := 18) C dX7_calmDown_18 rfl 0 rfl ?_
    refine J.aload_n (pc := 19) C dX7_calmDown_19 rfl 0 rfl ?_
    refine J.getI (pc := 20) C kcX7 hk 2 rfl tw_180 rfl dX7_calmDown_20 ?_
    refine J.iconst (pc := 23) C (v := 1) dX7_calmDown_23 (by decide) ?_
    refine J.isub (pc := 24) C dX7_calmDown_24 ?_
    obtain ⟨σ_4, h_2, hf⟩ := bnd_some hf
    refine J.callV (pc := 25) C (m_X7_enter h_2) hk wyX7_enter tvX7_enter_i tvX7_enter_s tw_451 kcX7 rfl hk [.int ((σ_1 k 2) - 1)] [] rfl rfl (Nat.le_of_ble_eq_true rfl) (Nat.le_of_ble_eq_true rfl) (Nat.le_of_ble_eq_true rfl) (stk' := []) rfl dX7_calmDown_25 rfl ?_
    exact J.vretM (pc := 28) C hR ((Option.some.inj hf).trans hp) dX7_calmDown_28
set_option maxHeartbeats 4000000 in
set_option maxRecDepth 100000 in
theorem m_X7_measured {l : Launch} {σ : Mem} {k : Nat} {t0 : Int32} (hf : f_X7_measured σ k = some t0) : Ct l yX7_measured cX7_measured 1 (some FieldType.int) 0 0 (fun ks => Ok ks k 7) (fun ad => [.ref (ad k)]) σ (fun _ => some (.int t0)) σ := by
  refine Ct.of (plainFor_of_name (by decide)) (fun _ => Nat.le_of_ble_eq_true rfl) ?_
  intro X C _ hk hcl hR
  have C : Cx X RX7 cX7_measured 1 (some FieldType.int) 0 0 := C
  have hp : t0 = t0 := rfl
  show J X 0 [(0, .ref (Xad X k))] [] σ
  unfold f_X7_measured at hf
  refine J.aload_n (pc := 0) C dX7_measured_0 rfl 0 rfl ?_
  refine J.getI (pc := 1) C kcX7 hk 1 rfl tw_179 rfl dX7_measured_1 ?_
  refine J.sipush (pc := 4) C (v := 1024) dX7_measured_4 (by decide) ?_
  refine J.idiv (pc := 7) C dX7_measured_7 (by decide) ?_
  exact J.iretP (pc := 8) C hR ((Option.some.inj hf).trans hp) dX7_measured_8
set_option maxHeartbeats 4000000 in
set_option maxRecDepth 100000 in
theorem m_X7_blow {l : Launch} {σ : Mem} {k : Nat} {x1 : Nat} {t0 : Mem} (hf : f_X7_blow σ k x1 = some t0) : Ct l yX7_blow cX7_blow 4 none 2 48 (fun ks => Ok ks k 7 ∧ Ok ks x1 4) (fun ad => [.ref (ad k), .ref (ad x1)]) σ (fun _ => none) t0 := by
  refine Ct.of (plainFor_of_name (by decide)) (fun _ => Nat.le_of_ble_eq_true rfl) ?_
  intro X C _ hok hcl hR
  obtain ⟨hk, hx1⟩ := hok
  have C : Cx X RX7 cX7_blow 4 none 2 48 := C
  have L130 : ∀ (σ : Mem) (t : Mem), f_X7_blow_L130 σ k x1 = some t → t = t0 → J X 130 [(0, .ref (Xad X k))] [] σ := by
    intro σ t hf hp
    unfold f_X7_blow_L130 at hf
    refine J.aload_n (pc := 130) C dX7_blow_130 rfl 0 rfl ?_
    refine J.iconst (pc := 131) C (v := 0) dX7_blow_131 (by decide) ?_
    refine J.putM (pc := 132) C kcX7 hk 3 rfl tw_183 rfl rfl rfl rfl hf dX7_blow_132 (fun σ_14 hf => ?_)
    exact J.vretM (pc := 135) C hR ((Option.some.inj hf).trans hp) dX7_blow_135
  have L111 : ∀ (σ : Mem) (y0 : Int32) (y1 : Int32) (t : Mem), f_X7_blow_L111 σ k x1 y0 y1 = some t → t = t0 → J X 111 [(0, .ref (Xad X k)), (1, .ref (Xad X x1))] [.int y0, .int y1] σ := by
    intro σ y0 y1 t hf hp
    unfold f_X7_blow_L111 at hf
    refine J.bipush (pc := 111) C (v := 10) dX7_blow_111 (by decide) ?_
    refine J.isub (pc := 113) C dX7_blow_113 ?_
    refine J.icmp_ge (pc := 114) C (tgt := 130) dX7_blow_114 (by decide) hf (fun hf => ?_) (fun hf => ?_)
    · exact J.sub (loc' := [(0, .ref (Xad X k))]) [0] rfl (L130 σ _ hf hp)
    · refine J.aload_n (pc := 117) C dX7_blow_117 rfl 0 rfl ?_
      refine J.aload_n (pc := 118) C dX7_blow_118 rfl 1 rfl ?_
      refine J.iconst (pc := 119) C (v := 0) dX7_blow_119 (by decide) ?_
      refine J.iconst (pc := 120) C (v := 4) dX7_blow_120 (by decide) ?_
      obtain ⟨r_18, h_17, hf⟩ := bnd_some hf
      refine J.callV (pc := 121) C (m_X4_value h_17) hx1 wyX4_value tvX4_value_i tvX4_value_s tw_443 kcX4 rfl hx1 [.int 0, .int 4] [.ref (Xad X k)] rfl rfl (Nat.le_of_ble_eq_true rfl) (Nat.le_of_ble_eq_true rfl) (Nat.le_of_ble_eq_true rfl) (stk' := [.int r_18, .ref (Xad X k)]) rfl dX7_blow_121 rfl ?_
      obtain ⟨σ_21, h_19, hf⟩ := bnd_some hf
      refine J.callV (pc := 124) C (m_X7_calmDown h_19) hk wyX7_calmDown tvX7_calmDown_i tvX7_calmDown_s tw_455 kcX7 rfl hk [.int r_18] [] rfl rfl (Nat.le_of_ble_eq_true rfl) (Nat.le_of_ble_eq_true rfl) (Nat.le_of_ble_eq_true rfl) (stk' := []) rfl dX7_blow_124 rfl ?_
      refine J.goto (pc := 127) C (tgt := 135) dX7_blow_127 (by decide) ?_
      exact J.vretM (pc := 135) C hR ((Option.some.inj hf).trans hp) dX7_blow_135
  have L87 : ∀ (σ : Mem) (x2 : Int32) (x3 : Int32) (t : Mem), f_X7_blow_L87 σ k x1 x2 x3 = some t → t = t0 → J X 87 [(0, .ref (Xad X k)), (1, .ref (Xad X x1)), (2, .int x2), (3, .int x3)] [] σ := by
    intro σ x2 x3 t hf hp
    unfold f_X7_blow_L87 at hf
    refine J.aload_n (pc := 87) C dX7_blow_87 rfl 0 rfl ?_
    refine J.getI (pc := 88) C kcX7 hk 2 rfl tw_180 rfl dX7_blow_88 ?_
    refine J.if_le (pc := 91) C (tgt := 130) dX7_blow_91 (by decide) hf (fun hf => ?_) (fun hf => ?_)
    · exact J.sub (loc' := [(0, .ref (Xad X k))]) [0] rfl (L130 σ _ hf hp)
    · refine J.aload_n (pc := 94) C dX7_blow_94 rfl 0 rfl ?_
      obtain ⟨r_16, h_15, hf⟩ := bnd_some hf
      refine J.callV (pc := 95) C (m_X7_measured h_15) hk wyX7_measured tvX7_measured_i tvX7_measured_s tw_450 kcX7 rfl hk [] [] rfl rfl (Nat.le_of_ble_eq_true rfl) (Nat.le_of_ble_eq_true rfl) (Nat.le_of_ble_eq_true rfl) (stk' := [.int r_16]) rfl dX7_blow_95 rfl ?_
      refine J.aload_n (pc := 98) C dX7_blow_98 rfl 0 rfl ?_
      refine J.getI (pc := 99) C kcX7 hk 2 rfl tw_180 rfl dX7_blow_99 ?_
      refine J.iconst (pc := 102) C (v := 2) dX7_blow_102 (by decide) ?_
      refine J.icmp_ne (pc := 103) C (tgt := 110) dX7_blow_103 (by decide) hf (fun hf => ?_) (fun hf => ?_)
      · refine J.iload_n (pc := 110) C dX7_blow_110 rfl 2 rfl ?_
        exact J.sub (loc' := [(0, .ref (Xad X k)), (1, .ref (Xad X x1))]) [0, 1] rfl (L111 σ x2 r_16 _ hf hp)
      · refine J.iload_n (pc := 106) C dX7_blow_106 rfl 3 rfl ?_
        refine J.goto (pc := 107) C (tgt := 111) dX7_blow_107 (by decide) ?_
        exact J.sub (loc' := [(0, .ref (Xad X k)), (1, .ref (Xad X x1))]) [0, 1] rfl (L111 σ x3 r_16 _ hf hp)
  have hp : t0 = t0 := rfl
  show J X 0 [(0, .ref (Xad X k)), (1, .ref (Xad X x1))] [] σ
  unfold f_X7_blow at hf
  refine J.aload_n (pc := 0) C dX7_blow_0 rfl 0 rfl ?_
  refine J.dup (pc := 1) C dX7_blow_1 rfl ?_
  refine J.getI (pc := 2) C kcX7 hk 1 rfl tw_179 rfl dX7_blow_2 ?_
  refine J.sipush (pc := 5) C (v := 1024) dX7_blow_5 (by decide) ?_
  refine J.aload_n (pc := 8) C dX7_blow_8 rfl 0 rfl ?_
  refine J.getI (pc := 9) C kcX7 hk 0 rfl tw_176 rfl dX7_blow_9 ?_
  refine J.imul (pc := 12) C dX7_blow_12 ?_
  refine J.aload_n (pc := 13) C dX7_blow_13 rfl 0 rfl ?_
  refine J.getI (pc := 14) C kcX7 hk 1 rfl tw_179 rfl dX7_blow_14 ?_
  refine J.isub (pc := 17) C dX7_blow_17 ?_
  refine J.i2l (pc := 18) C dX7_blow_18 ?_
  refine J.aload_n (pc := 19) C dX7_blow_19 rfl 1 rfl ?_
  refine J.iconst (pc := 20) C (v := 0) dX7_blow_20 (by decide) ?_
  refine J.iconst (pc := 21) C (v := 0) dX7_blow_21 (by decide) ?_
  obtain ⟨r_2, h_1, hf⟩ := bnd_some hf
  refine J.callV (pc := 22) C (m_X4_value h_1) hx1 wyX4_value tvX4_value_i tvX4_value_s tw_443 kcX4 rfl hx1 [.int 0, .int 0] [.long (((1024 * (σ k 0)) - (σ k 1)).toInt64), .int (σ k 1), .ref (Xad X k)] rfl rfl (Nat.le_of_ble_eq_true rfl) (Nat.le_of_ble_eq_true rfl) (Nat.le_of_ble_eq_true rfl) (stk' := [.int r_2, .long (((1024 * (σ k 0)) - (σ k 1)).toInt64), .int (σ k 1), .ref (Xad X k)]) rfl dX7_blow_22 rfl ?_
  refine J.i2l (pc := 25) C dX7_blow_25 ?_
  obtain ⟨r_4, h_3, hf⟩ := bnd_some hf
  refine J.callSN (pc := 26) C (m_X8_quotient h_3) trivial wyX8_quotient tsX8_quotient tn_444 [.long (((1024 * (σ k 0)) - (σ k 1)).toInt64), .long (r_2.toInt64)] [.int (σ k 1), .ref (Xad X k)] rfl rfl (Nat.le_of_ble_eq_true rfl) (Nat.le_of_ble_eq_true rfl) (Nat.le_of_ble_eq_true rfl) (stk' := [.long r_4, .int (σ k 1), .ref (Xad X k)]) rfl dX7_blow_26 rfl ?_
  refine J.l2i (pc := 29) C dX7_blow_29 ?_
  refine J.iadd (pc := 30) C dX7_blow_30 ?_
  refine J.putM (pc := 31) C kcX7 hk 1 rfl tw_179 rfl rfl rfl rfl hf dX7_blow_31 (fun σ_5 hf => ?_)
  refine J.aload_n (pc := 34) C dX7_blow_34 rfl 1 rfl ?_
  refine J.iconst (pc := 35) C (v := 0) dX7_blow_35 (by decide) ?_
  refine J.iconst (pc := 36) C (v := 1) dX7_blow_36 (by decide) ?_
  obtain ⟨r_7, h_6, hf⟩ := bnd_some hf
  refine J.callV (pc := 37) C (m_X4_value h_6) hx1 wyX4_value tvX4_value_i tvX4_value_s tw_443 kcX4 rfl hx1 [.int 0, .int 1] [] rfl rfl (Nat.le_of_ble_eq_true rfl) (Nat.le_of_ble_eq_true rfl) (Nat.le_of_ble_eq_true rfl) (stk' := [.int r_7]) rfl dX7_blow_37 rfl ?_
  refine J.istore_n (pc := 40) C (loc' := [(2, .int r_7), (0, .ref (Xad X k)), (1, .ref (Xad X x1))]) dX7_blow_40 rfl (by decide) rfl ?_
  refine J.aload_n (pc := 41) C dX7_blow_41 rfl 2 rfl ?_
  refine J.iconst (pc := 42) C (v := 0) dX7_blow_42 (by decide) ?_
  refine J.iconst (pc := 43) C (v := 2) dX7_blow_43 (by decide) ?_
  obtain ⟨r_9, h_8, hf⟩ := bnd_some hf
  refine J.callV (pc := 44) C (m_X4_value h_8) hx1 wyX4_value tvX4_value_i tvX4_value_s tw_443 kcX4 rfl hx1 [.int 0, .int 2] [] rfl rfl (Nat.le_of_ble_eq_true rfl) (Nat.le_of_ble_eq_true rfl) (Nat.le_of_ble_eq_true rfl) (stk' := [.int r_9]) rfl dX7_blow_44 rfl ?_
  refine J.istore_n (pc := 47) C (loc' := [(3, .int r_9), (2, .int r_7), (0, .ref (Xad X k)), (1, .ref (Xad X x1))]) dX7_blow_47 rfl (by decide) rfl ?_
  refine J.aload_n (pc := 48) C dX7_blow_48 rfl 2 rfl ?_
  obtain ⟨r_11, h_10, hf⟩ := bnd_some hf
  refine J.callV (pc := 49) C (m_X7_measured h_10) hk wyX7_measured tvX7_measured_i tvX7_measured_s tw_450 kcX7 rfl hk [] [] rfl rfl (Nat.le_of_ble_eq_true rfl) (Nat.le_of_ble_eq_true rfl) (Nat.le_of_ble_eq_true rfl) (stk' := [.int r_11]) rfl dX7_blow_49 rfl ?_
  refine J.iload_n (pc := 52) C dX7_blow_52 rfl 0 rfl ?_
  refine J.icmp_lt (pc := 53) C (tgt := 64) dX7_blow_53 (by decide) hf (fun hf => ?_) (fun hf => ?_)
  · refine J.aload_n (pc := 64) C dX7_blow_64 rfl 2 rfl ?_
    obtain ⟨r_13, h_12, hf⟩ := bnd_some hf
    refine J.callV (pc := 65) C (m_X7_measured h_12) hk wyX7_measured tvX7_measured_i tvX7_measured_s tw_450 kcX7 rfl hk [] [] rfl rfl (Nat.le_of_ble_eq_true rfl) (Nat.le_of_ble_eq_true rfl) (Nat.le_of_ble_eq_true rfl) (stk' := [.int r_13]) rfl dX7_blow_65 rfl ?_
    refine J.iload_n (pc := 68) C dX7_blow_68 rfl 1 rfl ?_
    refine J.icmp_lt (pc := 69) C (tgt := 87) dX7_blow_69 (by decide) hf (fun hf => ?_) (fun hf => ?_)
    · exact J.sub (loc' := [(0, .ref (Xad X k)), (1, .ref (Xad X x1)), (2, .int r_7), (3, .int r_9)]) [2, 3, 1, 0] rfl (L87 σ_5 r_7 r_9 _ hf hp)
    · refine J.aload_n (pc := 72) C dX7_blow_72 rfl 2 rfl ?_
      refine J.getI (pc := 73) C kcX7 hk 2 rfl tw_180 rfl dX7_blow_73 ?_
      refine J.if_ne (pc := 76) C (tgt := 87) dX7_blow_76 (by decide) hf (fun hf => ?_) (fun hf => ?_)
      · exact J.sub (loc' := [(0, .ref (Xad X k)), (1, .ref (Xad X x1)), (2, .int r_7), (3, .int r_9)]) [2, 3, 1, 0] rfl (L87 σ_5 r_7 r_9 _ hf hp)
      · refine J.aload_n (pc := 79) C dX7_blow_79 rfl 2 rfl ?_
        refine J.iconst (pc := 80) C (v := 1) dX7_blow_80 (by decide) ?_
        obtain ⟨σ_24, h_22, hf⟩ := bnd_some hf
        refine J.callV (pc := 81) C (m_X7_enter h_22) hk wyX7_enter tvX7_enter_i tvX7_enter_s tw_451 kcX7 rfl hk [.int 1] [] rfl rfl (Nat.le_of_ble_eq_true rfl) (Nat.le_of_ble_eq_true rfl) (Nat.le_of_ble_eq_true rfl) (stk' := []) rfl dX7_blow_81 rfl ?_
        refine J.goto (pc := 84) C (tgt := 135) dX7_blow_84 (by decide) ?_
        exact J.vretM (pc := 135) C hR ((Option.some.inj hf).trans hp) dX7_blow_135
  · refine J.aload_n (pc := 56) C dX7_blow_56 rfl 2 rfl ?_
    refine J.iconst (pc := 57) C (v := 2) dX7_blow_57 (by decide) ?_
    obtain ⟨σ_27, h_25, hf⟩ := bnd_some hf
    refine J.callV (pc := 58) C (m_X7_enter h_25) hk wyX7_enter tvX7_enter_i tvX7_enter_s tw_451 kcX7 rfl hk [.int 2] [] rfl rfl (Nat.le_of_ble_eq_true rfl) (Nat.le_of_ble_eq_true rfl) (Nat.le_of_ble_eq_true rfl) (stk' := []) rfl dX7_blow_58 rfl ?_
    refine J.goto (pc := 61) C (tgt := 135) dX7_blow_61 (by decide) ?_
    exact J.vretM (pc := 135) C hR ((Option.some.inj hf).trans hp) dX7_blow_135
set_option maxHeartbeats 4000000 in
set_option maxRecDepth 100000 in
theorem m_X5_makeTick {l : Launch} {n : Nat} {σ : Mem} {k : Nat} {t0 : Mem} (hf : f_X5_makeTick n σ k = some t0) : Ct l yX5_makeTick cX5_makeTick 1 none 4 96 (fun ks => Ok ks k 5) (fun ad => [.ref (ad k)]) σ (fun _ => none) t0 := by
  refine Ct.of (plainFor_of_name (by decide)) (fun _ => Nat.le_of_ble_eq_true rfl) ?_
  intro X C _ hk hcl hR
  have C : Cx X RX5 cX5_makeTick 1 none 4 96 := C
  have L125 : ∀ (σ : Mem) (t : Mem), f_X5_makeTick_L125 n σ k = some t → t = t0 → J X 125 [(0, .ref (Xad X k))] [] σ := by
    intro σ t hf hp
    unfold f_X5_makeTick_L125 at hf
    refine J.aload_n (pc := 125) C dX5_makeTick_125 rfl 0 rfl ?_
    refine J.dup (pc := 126) C dX5_makeTick_126 rfl ?_
    refine J.getI (pc := 127) C kcX5 hk 5 rfl tw_229 rfl dX5_makeTick_127 ?_
    refine J.iconst (pc := 130) C (v := 1) dX5_makeTick_130 (by decide) ?_
    refine J.iadd (pc := 131) C dX5_makeTick_131 ?_
    refine J.putM (pc := 132) C kcX5 hk 5 rfl tw_229 rfl rfl rfl rfl hf dX5_makeTick_132 (fun σ_30 hf => ?_)
    exact J.vretM (pc := 135) C hR ((Option.some.inj hf).trans hp) dX5_makeTick_135
  have hp : t0 = t0 := rfl
  show J X 0 [(0, .ref (Xad X k))] [] σ
  unfold f_X5_makeTick at hf
  refine J.aload_n (pc := 0) C dX5_makeTick_0 rfl 0 rfl ?_
  refine J.getR (pc := 1) C kcX5 hk 4 rfl tw_227 rfl dX5_makeTick_1 ?_
  refine J.aload_n (pc := 4) C dX5_makeTick_4 rfl 0 rfl ?_
  refine J.getI (pc := 5) C kcX5 hk 5 rfl tw_229 rfl dX5_makeTick_5 ?_
  refine J.aload_n (pc := 8) C dX5_makeTick_8 rfl 0 rfl ?_
  refine J.getR (pc := 9) C kcX5 hk 1 rfl tw_221 rfl dX5_makeTick_9 ?_
  obtain ⟨σ_3, h_1, hf⟩ := bnd_some hf
  refine J.callV (pc := 12) C (m_X0_carryOut h_1) ⟨(ok_5_4 hcl hk), (ok_5_1 hcl hk)⟩ wyX0_carryOut tvX0_carryOut_i tvX0_carryOut_s tw_420 kcX0 rfl (ok_5_4 hcl hk) [.int (σ k 5), .ref (Xad X (ptr k 1))] [] rfl rfl (Nat.le_of_ble_eq_true rfl) (Nat.le_of_ble_eq_true rfl) (Nat.le_of_ble_eq_true rfl) (stk' := []) rfl dX5_makeTick_12 rfl ?_
  refine J.aload_n (pc := 15) C dX5_makeTick_15 rfl 0 rfl ?_
  refine J.getR (pc := 16) C kcX5 hk 1 rfl tw_221 rfl dX5_makeTick_16 ?_
  refine J.aload_n (pc := 19) C dX5_makeTick_19 rfl 0 rfl ?_
  refine J.getI (pc := 20) C kcX5 hk 5 rfl tw_229 rfl dX5_makeTick_20 ?_
  obtain ⟨σ_6, h_4, hf⟩ := bnd_some hf
  refine J.callV (pc := 23) C (m_X1_keepCommands h_4) (ok_5_1 hcl hk) wyX1_keepCommands tvX1_keepCommands_i tvX1_keepCommands_s tw_428 kcX1 rfl (ok_5_1 hcl hk) [.int (σ_3 k 5)] [] rfl rfl (Nat.le_of_ble_eq_true rfl) (Nat.le_of_ble_eq_true rfl) (Nat.le_of_ble_eq_true rfl) (stk' := []) rfl dX5_makeTick_23 rfl ?_
  refine J.aload_n (pc := 26) C dX5_makeTick_26 rfl 0 rfl ?_
  refine J.getR (pc := 27) C kcX5 hk 3 rfl tw_225 rfl dX5_makeTick_27 ?_
  refine J.aload_n (pc := 30) C dX5_makeTick_30 rfl 0 rfl ?_
  refine J.getR (pc := 31) C kcX5 hk 0 rfl tw_219 rfl dX5_makeTick_31 ?_
  obtain ⟨σ_9, h_7, hf⟩ := bnd_some hf
  refine J.callV (pc := 34) C (m_X7_blow h_7) ⟨(ok_5_3 hcl hk), (ok_5_0 hcl hk)⟩ wyX7_blow tvX7_blow_i tvX7_blow_s tw_439 kcX7 rfl (ok_5_3 hcl hk) [.ref (Xad X (ptr k 0))] [] rfl rfl (Nat.le_of_ble_eq_true rfl) (Nat.le_of_ble_eq_true rfl) (Nat.le_of_ble_eq_true rfl) (stk' := []) rfl dX5_makeTick_34 rfl ?_
  refine J.aload_n (pc := 37) C dX5_makeTick_37 rfl 0 rfl ?_
  refine J.getR (pc := 38) C kcX5 hk 1 rfl tw_221 rfl dX5_makeTick_38 ?_
  refine J.aload_n (pc := 41) C dX5_makeTick_41 rfl 0 rfl ?_
  refine J.getI (pc := 42) C kcX5 hk 5 rfl tw_229 rfl dX5_makeTick_42 ?_
  refine J.aload_n (pc := 45) C dX5_makeTick_45 rfl 0 rfl ?_
  refine J.getR (pc := 46) C kcX5 hk 3 rfl tw_225 rfl dX5_makeTick_46 ?_
  refine J.getI (pc := 49) C kcX7 (ok_5_3 hcl hk) 2 rfl tw_181 rfl dX5_makeTick_49 ?_
  refine J.aload_n (pc := 52) C dX5_makeTick_52 rfl 0 rfl ?_
  refine J.getR (pc := 53) C kcX5 hk 0 rfl tw_219 rfl dX5_makeTick_53 ?_
  refine J.iconst (pc := 56) C (v := 0) dX5_makeTick_56 (by decide) ?_
  refine J.iconst (pc := 57) C (v := 3) dX5_makeTick_57 (by decide) ?_
  obtain ⟨r_11, h_10, hf⟩ := bnd_some hf
  refine J.callV (pc := 58) C (m_X4_value h_10) (ok_5_0 hcl hk) wyX4_value tvX4_value_i tvX4_value_s tw_459 kcX4 rfl (ok_5_0 hcl hk) [.int 0, .int 3] [.int (σ_9 (ptr k 3) 2), .int (σ_9 k 5), .ref (Xad X (ptr k 1))] rfl rfl (Nat.le_of_ble_eq_true rfl) (Nat.le_of_ble_eq_true rfl) (Nat.le_of_ble_eq_true rfl) (stk' := [.int r_11, .int (σ_9 (ptr k 3) 2), .int (σ_9 k 5), .ref (Xad X (ptr k 1))]) rfl dX5_makeTick_58 rfl ?_
  obtain ⟨σ_14, h_12, hf⟩ := bnd_some hf
  refine J.callV (pc := 61) C (m_X1_open h_12) (ok_5_1 hcl hk) wyX1_open tvX1_open_i tvX1_open_s tw_460 kcX1 rfl (ok_5_1 hcl hk) [.int (σ_9 k 5), .int (σ_9 (ptr k 3) 2), .int r_11] [] rfl rfl (Nat.le_of_ble_eq_true rfl) (Nat.le_of_ble_eq_true rfl) (Nat.le_of_ble_eq_true rfl) (stk' := []) rfl dX5_makeTick_61 rfl ?_
  refine J.aload_n (pc := 64) C dX5_makeTick_64 rfl 0 rfl ?_
  refine J.getR (pc := 65) C kcX5 hk 2 rfl tw_223 rfl dX5_makeTick_65 ?_
  refine J.aload_n (pc := 68) C dX5_makeTick_68 rfl 0 rfl ?_
  refine J.getR (pc := 69) C kcX5 hk 1 rfl tw_221 rfl dX5_makeTick_69 ?_
  obtain ⟨σ_17, h_15, hf⟩ := bnd_some hf
  refine J.callV (pc := 72) C (m_X3_supply h_15) ⟨(ok_5_2 hcl hk), (ok_5_1 hcl hk)⟩ wyX3_supply tvX3_supply_i tvX3_supply_s tw_478 kcX3 rfl (ok_5_2 hcl hk) [.ref (Xad X (ptr k 1))] [] rfl rfl (Nat.le_of_ble_eq_true rfl) (Nat.le_of_ble_eq_true rfl) (Nat.le_of_ble_eq_true rfl) (stk' := []) rfl dX5_makeTick_72 rfl ?_
  refine J.aload_n (pc := 75) C dX5_makeTick_75 rfl 0 rfl ?_
  refine J.getR (pc := 76) C kcX5 hk 1 rfl tw_221 rfl dX5_makeTick_76 ?_
  refine J.aload_n (pc := 79) C dX5_makeTick_79 rfl 0 rfl ?_
  refine J.getR (pc := 80) C kcX5 hk 3 rfl tw_225 rfl dX5_makeTick_80 ?_
  obtain ⟨r_19, h_18, hf⟩ := bnd_some hf
  refine J.callV (pc := 83) C (m_X7_measured h_18) (ok_5_3 hcl hk) wyX7_measured tvX7_measured_i tvX7_measured_s tw_498 kcX7 rfl (ok_5_3 hcl hk) [] [.ref (Xad X (ptr k 1))] rfl rfl (Nat.le_of_ble_eq_true rfl) (Nat.le_of_ble_eq_true rfl) (Nat.le_of_ble_eq_true rfl) (stk' := [.int r_19, .ref (Xad X (ptr k 1))]) rfl dX5_makeTick_83 rfl ?_
  obtain ⟨σ_22, h_20, hf⟩ := bnd_some hf
  refine J.callV (pc := 86) C (m_X1_rise h_20) (ok_5_1 hcl hk) wyX1_rise tvX1_rise_i tvX1_rise_s tw_499 kcX1 rfl (ok_5_1 hcl hk) [.int r_19] [] rfl rfl (Nat.le_of_ble_eq_true rfl) (Nat.le_of_ble_eq_true rfl) (Nat.le_of_ble_eq_true rfl) (stk' := []) rfl dX5_makeTick_86 rfl ?_
  refine J.aload_n (pc := 89) C dX5_makeTick_89 rfl 0 rfl ?_
  refine J.getR (pc := 90) C kcX5 hk 2 rfl tw_223 rfl dX5_makeTick_90 ?_
  obtain ⟨σ_25, h_23, hf⟩ := bnd_some hf
  refine J.callV (pc := 93) C (m_X3_countShort h_23) (ok_5_2 hcl hk) wyX3_countShort tvX3_countShort_i tvX3_countShort_s tw_505 kcX3 rfl (ok_5_2 hcl hk) [] [] rfl rfl (Nat.le_of_ble_eq_true rfl) (Nat.le_of_ble_eq_true rfl) (Nat.le_of_ble_eq_true rfl) (stk' := []) rfl dX5_makeTick_93 rfl ?_
  refine J.aload_n (pc := 96) C dX5_makeTick_96 rfl 0 rfl ?_
  refine J.getR (pc := 97) C kcX5 hk 1 rfl tw_221 rfl dX5_makeTick_97 ?_
  refine J.aload_n (pc := 100) C dX5_makeTick_100 rfl 0 rfl ?_
  refine J.getR (pc := 101) C kcX5 hk 0 rfl tw_219 rfl dX5_makeTick_101 ?_
  refine J.iconst (pc := 104) C (v := 0) dX5_makeTick_104 (by decide) ?_
  refine J.iconst (pc := 105) C (v := 5) dX5_makeTick_105 (by decide) ?_
  obtain ⟨r_27, h_26, hf⟩ := bnd_some hf
  refine J.callV (pc := 106) C (m_X4_value h_26) (ok_5_0 hcl hk) wyX4_value tvX4_value_i tvX4_value_s tw_459 kcX4 rfl (ok_5_0 hcl hk) [.int 0, .int 5] [.ref (Xad X (ptr k 1))] rfl rfl (Nat.le_of_ble_eq_true rfl) (Nat.le_of_ble_eq_true rfl) (Nat.le_of_ble_eq_true rfl) (stk' := [.int r_27, .ref (Xad X (ptr k 1))]) rfl dX5_makeTick_106 rfl ?_
  obtain ⟨r_29, h_28, hf⟩ := bnd_some hf
  refine J.callV (pc := 109) C (m_X1_driftsBeyond h_28) (ok_5_1 hcl hk) wyX1_driftsBeyond tvX1_driftsBeyond_i tvX1_driftsBeyond_s tw_513 kcX1 rfl (ok_5_1 hcl hk) [.int r_27] [] rfl rfl (Nat.le_of_ble_eq_true rfl) (Nat.le_of_ble_eq_true rfl) (Nat.le_of_ble_eq_true rfl) (stk' := [.int r_29]) rfl dX5_makeTick_109 rfl ?_
  refine J.if_eq (pc := 112) C (tgt := 125) dX5_makeTick_112 (by decide) hf (fun hf => ?_) (fun hf => ?_)
  · exact J.sub (loc' := [(0, .ref (Xad X k))]) [0] rfl (L125 σ_25 _ hf hp)
  · refine J.aload_n (pc := 115) C dX5_makeTick_115 rfl 0 rfl ?_
    refine J.dup (pc := 116) C dX5_makeTick_116 rfl ?_
    refine J.getI (pc := 117) C kcX5 hk 6 rfl tw_231 rfl dX5_makeTick_117 ?_
    refine J.iconst (pc := 120) C (v := 1) dX5_makeTick_120 (by decide) ?_
    refine J.iadd (pc := 121) C dX5_makeTick_121 ?_
    refine J.putM (pc := 122) C kcX5 hk 6 rfl tw_231 rfl rfl rfl rfl hf dX5_makeTick_122 (fun σ_31 hf => ?_)
    exact J.sub (loc' := [(0, .ref (Xad X k))]) [0] rfl (L125 σ_31 _ hf hp)
set_option maxHeartbeats 4000000 in
set_option maxRecDepth 100000 in
theorem m_X8_setUp {l : Launch} {n : Nat} {σ : Mem} {k : Nat} {x1 : Int32} {t0 : (Int32 × Mem)} (hf : f_X8_setUp n σ k x1 = some t0) : Ct l yX8_setUp cX8_setUp 3 (some FieldType.int) 4 82 (fun ks => Ok ks k 8) (fun ad => [.ref (ad k), .int x1]) σ (fun _ => some (.int t0.1)) t0.2 := by
  refine Ct.of (plainFor_of_name (by decide)) (fun _ => Nat.le_of_ble_eq_true rfl) ?_
  intro X C _ hk hcl hR
  have C : Cx X RX8 cX8_setUp 3 (some FieldType.int) 4 82 := C
  have hp : t0 = t0 := rfl
  show J X 0 [(0, .ref (Xad X k)), (1, .int x1)] [] σ
  unfold f_X8_setUp at hf
  refine J.iload_n (pc := 0) C dX8_setUp_0 rfl 1 rfl ?_
  refine J.iconst (pc := 1) C (v := 1) dX8_setUp_1 (by decide) ?_
  refine J.bipush (pc := 2) C (v := 12) dX8_setUp_2 (by decide) ?_
  obtain ⟨r_2, h_1, hf⟩ := bnd_some hf
  refine J.callS (pc := 4) C (m_X8_within h_1) trivial wyX8_within tsX8_within tw_318 [.int x1, .int 1, .int 12] [] rfl rfl (Nat.le_of_ble_eq_true rfl) (Nat.le_of_ble_eq_true rfl) (Nat.le_of_ble_eq_true rfl) (stk' := [.int r_2]) rfl dX8_setUp_4 rfl ?_
  refine J.if_ne (pc := 7) C (tgt := 13) dX8_setUp_7 (by decide) hf (fun hf => ?_) (fun hf => ?_)
  · refine J.aload_n (pc := 13) C dX8_setUp_13 rfl 0 rfl ?_
    refine J.getR (pc := 14) C kcX8 hk 0 rfl tw_298 rfl dX8_setUp_14 ?_
    refine J.getR (pc := 17) C kcX5 (ok_8_0 hcl hk) 1 rfl tw_222 rfl dX8_setUp_17 ?_
    refine J.getI (pc := 20) C kcX1 (ok_5_1 hcl (ok_8_0 hcl hk)) 8 rfl tw_114 rfl dX8_setUp_20 ?_
    refine J.nmI hf (fun x2_3 hf => ?_)
    refine J.istore_n (pc := 23) C (loc' := [(2, .int x2_3), (0, .ref (Xad X k)), (1, .int x1)]) dX8_setUp_23 rfl (by decide) rfl ?_
    refine J.aload_n (pc := 24) C dX8_setUp_24 rfl 1 rfl ?_
    refine J.getR (pc := 25) C kcX8 hk 0 rfl tw_298 rfl dX8_setUp_25 ?_
    refine J.iload_n (pc := 28) C dX8_setUp_28 rfl 2 rfl ?_
    obtain ⟨σ_6, h_4, hf⟩ := bnd_some hf
    refine J.callV (pc := 29) C (m_X5_begin h_4) (ok_8_0 hcl hk) wyX5_begin tvX5_begin_i tvX5_begin_s tw_321 kcX5 rfl (ok_8_0 hcl hk) [.int x1] [] rfl rfl (Nat.le_of_ble_eq_true rfl) (Nat.le_of_ble_eq_true rfl) (Nat.le_of_ble_eq_true rfl) (stk' := []) rfl dX8_setUp_29 rfl ?_
    refine J.iload_n (pc := 32) C dX8_setUp_32 rfl 0 rfl ?_
    exact J.iretM (pc := 33) C hR ((Option.some.inj hf).trans hp) dX8_setUp_33
  · refine J.bipush (pc := 10) C (v := (-2)) dX8_setUp_10 (by decide) ?_
    exact J.iretM (pc := 12) C hR ((Option.some.inj hf).trans hp) dX8_setUp_12
set_option maxHeartbeats 4000000 in
set_option maxRecDepth 100000 in
theorem m_X8_nozzle {l : Launch} {σ : Mem} {k : Nat} {x1 : Int32} {x2 : Int32} {x3 : Int32} {t0 : (Int32 × Mem)} (hf : f_X8_nozzle σ k x1 x2 x3 = some t0) : Ct l yX8_nozzle cX8_nozzle 4 (some FieldType.int) 2 47 (fun ks => Ok ks k 8) (fun ad => [.ref (ad k), .int x1, .int x2, .int x3]) σ (fun _ => some (.int t0.1)) t0.2 := by
  refine Ct.of (plainFor_of_name (by decide)) (fun _ => Nat.le_of_ble_eq_true rfl) ?_
  intro X C _ hk hcl hR
  have C : Cx X RX8 cX8_nozzle 4 (some FieldType.int) 2 47 := C
  have hp : t0 = t0 := rfl
  show J X 0 [(0, .ref (Xad X k)), (1, .int x1), (2, .int x2), (3, .int x3)] [] σ
  unfold f_X8_nozzle at hf
  refine J.aload_n (pc := 0) C dX8_nozzle_0 rfl 0 rfl ?_
  refine J.getR (pc := 1) C kcX8 hk 0 rfl tw_298 rfl dX8_nozzle_1 ?_
  refine J.getR (pc := 4) C kcX5 (ok_8_0 hcl hk) 1 rfl tw_222 rfl dX8_nozzle_4 ?_
  refine J.iload_n (pc := 7) C dX8_nozzle_7 rfl 1 rfl ?_
  obtain ⟨r_2, h_1, hf⟩ := bnd_some hf
  refine J.callV (pc := 8) C (m_X1_has h_1) (ok_5_1 hcl (ok_8_0 hcl hk)) wyX1_has tvX1_has_i tvX1_has_s tw_355 kcX1 rfl (ok_5_1 hcl (ok_8_0 hcl hk)) [.int x1] [] rfl rfl (Nat.le_of_ble_eq_true rfl) (Nat.le_of_ble_eq_true rfl) (Nat.le_of_ble_eq_true rfl) (stk' := [.int r_2]) rfl dX8_nozzle_8 rfl ?_
  refine J.if_ne (pc := 11) C (tgt := 16) dX8_nozzle_11 (by decide) hf (fun hf => ?_) (fun hf => ?_)
  · refine J.aload_n (pc := 16) C dX8_nozzle_16 rfl 0 rfl ?_
    refine J.getR (pc := 17) C kcX8 hk 0 rfl tw_298 rfl dX8_nozzle_17 ?_
    refine J.getR (pc := 20) C kcX5 (ok_8_0 hcl hk) 1 rfl tw_222 rfl dX8_nozzle_20 ?_
    refine J.getR (pc := 23) C kcX1 (ok_5_1 hcl (ok_8_0 hcl hk)) 0 rfl tw_99 rfl dX8_nozzle_23 ?_
    refine J.iload_n (pc := 26) C dX8_nozzle_26 rfl 1 rfl ?_
    refine J.iload_n (pc := 27) C dX8_nozzle_27 rfl 2 rfl ?_
    refine J.iload_n (pc := 28) C dX8_nozzle_28 rfl 3 rfl ?_
    obtain ⟨r_4, σ_5, h_3, hf⟩ := bnd2_some hf
    refine J.callV (pc := 29) C (m_X4_change h_3) (ok_1_0 hcl (ok_5_1 hcl (ok_8_0 hcl hk))) wyX4_change tvX4_change_i tvX4_change_s tw_360 kcX4 rfl (ok_1_0 hcl (ok_5_1 hcl (ok_8_0 hcl hk))) [.int x1, .int x2, .int x3] [] rfl rfl (Nat.le_of_ble_eq_true rfl) (Nat.le_of_ble_eq_true rfl) (Nat.le_of_ble_eq_true rfl) (stk' := [.int r_4]) rfl dX8_nozzle_29 rfl ?_
    exact J.iretM (pc := 32) C hR ((Option.some.inj hf).trans hp) dX8_nozzle_32
  · refine J.iconst (pc := 14) C (v := (-1)) dX8_nozzle_14 (by decide) ?_
    exact J.iretM (pc := 15) C hR ((Option.some.inj hf).trans hp) dX8_nozzle_15
