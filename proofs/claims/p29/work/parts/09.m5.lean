set_option maxHeartbeats 4000000 in
set_option maxRecDepth 100000 in
theorem m_L_cutBack {l : Launch} {n : Nat} {w : Nat} {σ : Mem} {x0 : Nat} {x1 : Int32} {t0 : (Int32 × Mem)} (hf : f_L_cutBack n w σ x0 x1 = some t0) : Ct l yL_cutBack cL_cutBack 6 (some FieldType.boolean) 7 163 (fun ks => Ok ks x0 8) (fun ad => [.ref (ad x0), .int x1]) σ (fun _ => some (.int t0.1)) t0.2 := by
  refine Ct.of (plainFor_of_name (by decide)) (fun _ => Nat.le_of_ble_eq_true rfl) ?_
  intro X C _ hx0 hcl hR
  have C : Cx X RL cL_cutBack 6 (some FieldType.boolean) 7 163 := C
  have L152 : ∀ (σ : Mem) (x4 : Int32) (x5 : Int32) (t : (Int32 × Mem)), f_L_cutBack_L152 n w σ x0 x4 x5 = some t → t = t0 → J X 152 [(0, .ref (Xad X x0)), (4, .int x4), (5, .int x5)] [] σ := by
    intro σ x4 x5 t hf hp
    unfold f_L_cutBack_L152 at hf
    refine J.iload (pc := 152) C dL_cutBack_152 2 rfl ?_
    refine J.if_eq (pc := 154) C (tgt := 171) dL_cutBack_154 (by decide) hf (fun hf => ?_) (fun hf => ?_)
    · refine J.iconst (pc := 171) C (v := 0) dL_cutBack_171 (by decide) ?_
      exact J.zretM (pc := 172) C rfl hR ((Option.some.inj hf).trans hp) dL_cutBack_172
    · refine J.aload_n (pc := 157) C dL_cutBack_157 rfl 0 rfl ?_
      refine J.iconst (pc := 158) C (v := 3) dL_cutBack_158 (by decide) ?_
      refine J.iload (pc := 159) C dL_cutBack_159 1 rfl ?_
      obtain ⟨r_10, σ_11, h_9, hf⟩ := bnd2_some hf
      refine J.callV (pc := 161) C (m_X8_set h_9) hx0 wyX8_set tvX8_set_i tvX8_set_s tw_369 kcX8 rfl hx0 [.int 3, .int x4] [] rfl rfl (Nat.le_of_ble_eq_true rfl) (Nat.le_of_ble_eq_true rfl) (Nat.le_of_ble_eq_true rfl) (stk' := [.int r_10]) rfl dL_cutBack_161 rfl ?_
      refine J.if_lt (pc := 164) C (tgt := 171) dL_cutBack_164 (by decide) hf (fun hf => ?_) (fun hf => ?_)
      · refine J.iconst (pc := 171) C (v := 0) dL_cutBack_171 (by decide) ?_
        exact J.zretM (pc := 172) C rfl hR ((Option.some.inj hf).trans hp) dL_cutBack_172
      · refine J.iconst (pc := 167) C (v := 1) dL_cutBack_167 (by decide) ?_
        refine J.goto (pc := 168) C (tgt := 172) dL_cutBack_168 (by decide) ?_
        exact J.zretM (pc := 172) C rfl hR ((Option.some.inj hf).trans hp) dL_cutBack_172
  have L150 : ∀ (σ : Mem) (x4 : Int32) (y0 : Int32) (t : (Int32 × Mem)), f_L_cutBack_L150 n w σ x0 x4 y0 = some t → t = t0 → J X 150 [(0, .ref (Xad X x0)), (4, .int x4)] [.int y0] σ := by
    intro σ x4 y0 t hf hp
    unfold f_L_cutBack_L150 at hf
    refine J.istore (pc := 150) C (loc' := [(5, .int y0), (0, .ref (Xad X x0)), (4, .int x4)]) dL_cutBack_150 (by decide) rfl ?_
    exact J.sub (loc' := [(0, .ref (Xad X x0)), (4, .int x4), (5, .int y0)]) [1, 2, 0] rfl (L152 σ x4 y0 _ hf hp)
  have L149 : ∀ (σ : Mem) (x4 : Int32) (t : (Int32 × Mem)), f_L_cutBack_L149 n w σ x0 x4 = some t → t = t0 → J X 149 [(0, .ref (Xad X x0)), (4, .int x4)] [] σ := by
    intro σ x4 t hf hp
    unfold f_L_cutBack_L149 at hf
    refine J.iconst (pc := 149) C (v := 0) dL_cutBack_149 (by decide) ?_
    exact J.sub (loc' := [(0, .ref (Xad X x0)), (4, .int x4)]) [0, 1] rfl (L150 σ x4 0 _ hf hp)
  have L126 : ∀ (σ : Mem) (x2 : Int32) (x4 : Int32) (x5 : Int32) (y0 : Int32) (y1 : Int32) (t : (Int32 × Mem)), f_L_cutBack_L126 n w σ x0 x2 x4 x5 y0 y1 = some t → t = t0 → J X 126 [(0, .ref (Xad X x0)), (2, .int x2), (4, .int x4), (5, .int x5)] [.int y0, .int y1, .ref (Xad X x0)] σ := by
    intro σ x2 x4 x5 y0 y1 t hf hp
    unfold f_L_cutBack_L126 at hf
    obtain ⟨r_15, σ_16, h_14, hf⟩ := bnd2_some hf
    refine J.callV (pc := 126) C (m_X8_set h_14) hx0 wyX8_set tvX8_set_i tvX8_set_s tw_369 kcX8 rfl hx0 [.int y1, .int y0] [] rfl rfl (Nat.le_of_ble_eq_true rfl) (Nat.le_of_ble_eq_true rfl) (Nat.le_of_ble_eq_true rfl) (stk' := [.int r_15]) rfl dL_cutBack_126 rfl ?_
    refine J.pop (pc := 129) C dL_cutBack_129 rfl ?_
    refine J.iload (pc := 130) C dL_cutBack_130 3 rfl ?_
    refine J.if_eq (pc := 132) C (tgt := 149) dL_cutBack_132 (by decide) hf (fun hf => ?_) (fun hf => ?_)
    · exact J.sub (loc' := [(0, .ref (Xad X x0)), (4, .int x4)]) [0, 2] rfl (L149 σ_16 x4 _ hf hp)
    · refine J.aload_n (pc := 135) C dL_cutBack_135 rfl 0 rfl ?_
      refine J.iload_n (pc := 136) C dL_cutBack_136 rfl 1 rfl ?_
      refine J.iconst (pc := 137) C (v := 0) dL_cutBack_137 (by decide) ?_
      refine J.iconst (pc := 138) C (v := 3) dL_cutBack_138 (by decide) ?_
      obtain ⟨r_18, σ_19, h_17, hf⟩ := bnd2_some hf
      refine J.callV (pc := 139) C (m_X8_ahead h_17) hx0 wyX8_ahead tvX8_ahead_i tvX8_ahead_s tw_576 kcX8 rfl hx0 [.int x2, .int 0, .int 3] [] rfl rfl (Nat.le_of_ble_eq_true rfl) (Nat.le_of_ble_eq_true rfl) (Nat.le_of_ble_eq_true rfl) (stk' := [.int r_18]) rfl dL_cutBack_139 rfl ?_
      refine J.if_le (pc := 142) C (tgt := 149) dL_cutBack_142 (by decide) hf (fun hf => ?_) (fun hf => ?_)
      · exact J.sub (loc' := [(0, .ref (Xad X x0)), (4, .int x4)]) [0, 2] rfl (L149 σ_19 x4 _ hf hp)
      · refine J.iconst (pc := 145) C (v := 1) dL_cutBack_145 (by decide) ?_
        refine J.goto (pc := 146) C (tgt := 150) dL_cutBack_146 (by decide) ?_
        exact J.sub (loc' := [(0, .ref (Xad X x0)), (4, .int x4)]) [0, 2] rfl (L150 σ_19 x4 1 _ hf hp)
  have L86 : ∀ (σ : Mem) (x1 : Int32) (x2 : Int32) (x3 : Int32) (x4 : Int32) (x5 : Int32) (t : (Int32 × Mem)), f_L_cutBack_L86 n w σ x0 x1 x2 x3 x4 x5 = some t → t = t0 → J X 86 [(0, .ref (Xad X x0)), (1, .int x1), (2, .int x2), (3, .int x3), (4, .int x4), (5, .int x5)] [] σ := by
    intro σ x1 x2 x3 x4 x5 t hf hp
    unfold f_L_cutBack_L86 at hf
    refine J.iload_n (pc := 86) C dL_cutBack_86 rfl 3 rfl ?_
    refine J.sipush (pc := 87) C (v := 1000) dL_cutBack_87 (by decide) ?_
    refine J.icmp_ge (pc := 90) C (tgt := 152) dL_cutBack_90 (by decide) hf (fun hf => ?_) (fun hf => ?_)
    · exact J.sub (loc' := [(0, .ref (Xad X x0)), (4, .int x4), (5, .int x5)]) [0, 4, 5] rfl (L152 σ x4 x5 _ hf hp)
    · refine J.aload_n (pc := 93) C dL_cutBack_93 rfl 0 rfl ?_
      refine J.iconst (pc := 94) C (v := 3) dL_cutBack_94 (by decide) ?_
      refine J.iload_n (pc := 95) C dL_cutBack_95 rfl 3 rfl ?_
      refine J.if_ge (pc := 96) C (tgt := 111) dL_cutBack_96 (by decide) hf (fun hf => ?_) (fun hf => ?_)
      · refine J.iload_n (pc := 111) C dL_cutBack_111 rfl 3 rfl ?_
        refine J.iconst (pc := 112) C (v := 1) dL_cutBack_112 (by decide) ?_
        refine J.iadd (pc := 113) C dL_cutBack_113 ?_
        refine J.iload_n (pc := 114) C dL_cutBack_114 rfl 1 rfl ?_
        refine J.iconst (pc := 115) C (v := 5) dL_cutBack_115 (by decide) ?_
        refine J.ishr (pc := 116) C dL_cutBack_116 ?_
        refine J.sipush (pc := 117) C (v := 1000) dL_cutBack_117 (by decide) ?_
        refine J.iload_n (pc := 120) C dL_cutBack_120 rfl 3 rfl ?_
        refine J.isub (pc := 121) C dL_cutBack_121 ?_
        obtain ⟨r_13, h_12, hf⟩ := bnd_some hf
        refine J.callS (pc := 122) C (m_L_up h_12) trivial wyL_up tsL_up tw_377 [.int (x1 >>> (5 &&& 31)), .int (1000 - x3)] [.int (x3 + 1), .int 3, .ref (Xad X x0)] rfl rfl (Nat.le_of_ble_eq_true rfl) (Nat.le_of_ble_eq_true rfl) (Nat.le_of_ble_eq_true rfl) (stk' := [.int r_13, .int (x3 + 1), .int 3, .ref (Xad X x0)]) rfl dL_cutBack_122 rfl ?_
        refine J.iadd (pc := 125) C dL_cutBack_125 ?_
        exact J.sub (loc' := [(0, .ref (Xad X x0)), (2, .int x2), (4, .int x4), (5, .int x5)]) [0, 2, 4, 5] rfl (L126 σ x2 x4 x5 ((x3 + 1) + r_13) 3 _ hf hp)
      · refine J.iload_n (pc := 99) C dL_cutBack_99 rfl 1 rfl ?_
        refine J.iconst (pc := 100) C (v := 5) dL_cutBack_100 (by decide) ?_
        refine J.ishr (pc := 101) C dL_cutBack_101 ?_
        refine J.sipush (pc := 102) C (v := 1001) dL_cutBack_102 (by decide) ?_
        obtain ⟨r_21, h_20, hf⟩ := bnd_some hf
        refine J.callS (pc := 105) C (m_L_up h_20) trivial wyL_up tsL_up tw_377 [.int (x1 >>> (5 &&& 31)), .int 1001] [.int 3, .ref (Xad X x0)] rfl rfl (Nat.le_of_ble_eq_true rfl) (Nat.le_of_ble_eq_true rfl) (Nat.le_of_ble_eq_true rfl) (stk' := [.int r_21, .int 3, .ref (Xad X x0)]) rfl dL_cutBack_105 rfl ?_
        refine J.goto (pc := 108) C (tgt := 126) dL_cutBack_108 (by decide) ?_
        exact J.sub (loc' := [(0, .ref (Xad X x0)), (2, .int x2), (4, .int x4), (5, .int x5)]) [0, 2, 4, 5] rfl (L126 σ x2 x4 x5 r_21 3 _ hf hp)
  have L84 : ∀ (σ : Mem) (x1 : Int32) (x2 : Int32) (x3 : Int32) (x4 : Int32) (y0 : Int32) (t : (Int32 × Mem)), f_L_cutBack_L84 n w σ x0 x1 x2 x3 x4 y0 = some t → t = t0 → J X 84 [(0, .ref (Xad X x0)), (1, .int x1), (2, .int x2), (3, .int x3), (4, .int x4)] [.int y0] σ := by
    intro σ x1 x2 x3 x4 y0 t hf hp
    unfold f_L_cutBack_L84 at hf
    refine J.istore (pc := 84) C (loc' := [(5, .int y0), (0, .ref (Xad X x0)), (1, .int x1), (2, .int x2), (3, .int x3), (4, .int x4)]) dL_cutBack_84 (by decide) rfl ?_
    exact J.sub (loc' := [(0, .ref (Xad X x0)), (1, .int x1), (2, .int x2), (3, .int x3), (4, .int x4), (5, .int y0)]) [1, 2, 3, 4, 5, 0] rfl (L86 σ x1 x2 x3 x4 y0 _ hf hp)
  have L83 : ∀ (σ : Mem) (x1 : Int32) (x2 : Int32) (x3 : Int32) (x4 : Int32) (t : (Int32 × Mem)), f_L_cutBack_L83 n w σ x0 x1 x2 x3 x4 = some t → t = t0 → J X 83 [(0, .ref (Xad X x0)), (1, .int x1), (2, .int x2), (3, .int x3), (4, .int x4)] [] σ := by
    intro σ x1 x2 x3 x4 t hf hp
    unfold f_L_cutBack_L83 at hf
    refine J.iconst (pc := 83) C (v := 0) dL_cutBack_83 (by decide) ?_
    exact J.sub (loc' := [(0, .ref (Xad X x0)), (1, .int x1), (2, .int x2), (3, .int x3), (4, .int x4)]) [0, 1, 2, 3, 4] rfl (L84 σ x1 x2 x3 x4 0 _ hf hp)
  have L51 : ∀ (σ : Mem) (x1 : Int32) (x2 : Int32) (x3 : Int32) (x4 : Int32) (y0 : Int32) (t : (Int32 × Mem)), f_L_cutBack_L51 n w σ x0 x1 x2 x3 x4 y0 = some t → t = t0 → J X 51 [(0, .ref (Xad X x0)), (1, .int x1), (2, .int x2), (3, .int x3), (4, .int x4)] [.int y0] σ := by
    intro σ x1 x2 x3 x4 y0 t hf hp
    unfold f_L_cutBack_L51 at hf
    refine J.istore (pc := 51) C (loc' := [(5, .int y0), (0, .ref (Xad X x0)), (1, .int x1), (2, .int x2), (3, .int x3), (4, .int x4)]) dL_cutBack_51 (by decide) rfl ?_
    refine J.iload_n (pc := 53) C dL_cutBack_53 rfl 4 rfl ?_
    refine J.if_lt (pc := 54) C (tgt := 86) dL_cutBack_54 (by decide) hf (fun hf => ?_) (fun hf => ?_)
    · exact J.sub (loc' := [(0, .ref (Xad X x0)), (1, .int x1), (2, .int x2), (3, .int x3), (4, .int x4), (5, .int y0)]) [1, 2, 3, 4, 5, 0] rfl (L86 σ x1 x2 x3 x4 y0 _ hf hp)
    · refine J.aload_n (pc := 57) C dL_cutBack_57 rfl 1 rfl ?_
      refine J.iconst (pc := 58) C (v := 3) dL_cutBack_58 (by decide) ?_
      refine J.iload_n (pc := 59) C dL_cutBack_59 rfl 4 rfl ?_
      obtain ⟨r_23, σ_24, h_22, hf⟩ := bnd2_some hf
      refine J.callV (pc := 60) C (m_X8_set h_22) hx0 wyX8_set tvX8_set_i tvX8_set_s tw_369 kcX8 rfl hx0 [.int 3, .int x3] [] rfl rfl (Nat.le_of_ble_eq_true rfl) (Nat.le_of_ble_eq_true rfl) (Nat.le_of_ble_eq_true rfl) (stk' := [.int r_23]) rfl dL_cutBack_60 rfl ?_
      refine J.pop (pc := 63) C dL_cutBack_63 rfl ?_
      refine J.iload (pc := 64) C dL_cutBack_64 0 rfl ?_
      refine J.if_eq (pc := 66) C (tgt := 83) dL_cutBack_66 (by decide) hf (fun hf => ?_) (fun hf => ?_)
      · exact J.sub (loc' := [(0, .ref (Xad X x0)), (1, .int x1), (2, .int x2), (3, .int x3), (4, .int x4)]) [1, 2, 3, 4, 5] rfl (L83 σ_24 x1 x2 x3 x4 _ hf hp)
      · refine J.aload_n (pc := 69) C dL_cutBack_69 rfl 1 rfl ?_
        refine J.iload_n (pc := 70) C dL_cutBack_70 rfl 3 rfl ?_
        refine J.iconst (pc := 71) C (v := 0) dL_cutBack_71 (by decide) ?_
        refine J.iconst (pc := 72) C (v := 3) dL_cutBack_72 (by decide) ?_
        obtain ⟨r_26, σ_27, h_25, hf⟩ := bnd2_some hf
        refine J.callV (pc := 73) C (m_X8_ahead h_25) hx0 wyX8_ahead tvX8_ahead_i tvX8_ahead_s tw_576 kcX8 rfl hx0 [.int x2, .int 0, .int 3] [] rfl rfl (Nat.le_of_ble_eq_true rfl) (Nat.le_of_ble_eq_true rfl) (Nat.le_of_ble_eq_true rfl) (stk' := [.int r_26]) rfl dL_cutBack_73 rfl ?_
        refine J.if_ne (pc := 76) C (tgt := 83) dL_cutBack_76 (by decide) hf (fun hf => ?_) (fun hf => ?_)
        · exact J.sub (loc' := [(0, .ref (Xad X x0)), (1, .int x1), (2, .int x2), (3, .int x3), (4, .int x4)]) [1, 2, 3, 4, 5] rfl (L83 σ_27 x1 x2 x3 x4 _ hf hp)
        · refine J.iconst (pc := 79) C (v := 1) dL_cutBack_79 (by decide) ?_
          refine J.goto (pc := 80) C (tgt := 84) dL_cutBack_80 (by decide) ?_
          exact J.sub (loc' := [(0, .ref (Xad X x0)), (1, .int x1), (2, .int x2), (3, .int x3), (4, .int x4)]) [1, 2, 3, 4, 5] rfl (L84 σ_27 x1 x2 x3 x4 1 _ hf hp)
  have L50 : ∀ (σ : Mem) (x1 : Int32) (x2 : Int32) (x3 : Int32) (x4 : Int32) (t : (Int32 × Mem)), f_L_cutBack_L50 n w σ x0 x1 x2 x3 x4 = some t → t = t0 → J X 50 [(0, .ref (Xad X x0)), (1, .int x1), (2, .int x2), (3, .int x3), (4, .int x4)] [] σ := by
    intro σ x1 x2 x3 x4 t hf hp
    unfold f_L_cutBack_L50 at hf
    refine J.iconst (pc := 50) C (v := 0) dL_cutBack_50 (by decide) ?_
    exact J.sub (loc' := [(0, .ref (Xad X x0)), (1, .int x1), (2, .int x2), (3, .int x3), (4, .int x4)]) [0, 1, 2, 3, 4] rfl (L51 σ x1 x2 x3 x4 0 _ hf hp)
  have L46 : ∀ (σ : Mem) (x1 : Int32) (x2 : Int32) (x3 : Int32) (x4 : Int32) (t : (Int32 × Mem)), f_L_cutBack_L46 n w σ x0 x1 x2 x3 x4 = some t → t = t0 → J X 46 [(0, .ref (Xad X x0)), (1, .int x1), (2, .int x2), (3, .int x3), (4, .int x4)] [] σ := by
    intro σ x1 x2 x3 x4 t hf hp
    unfold f_L_cutBack_L46 at hf
    refine J.iconst (pc := 46) C (v := 1) dL_cutBack_46 (by decide) ?_
    refine J.goto (pc := 47) C (tgt := 51) dL_cutBack_47 (by decide) ?_
    exact J.sub (loc' := [(0, .ref (Xad X x0)), (1, .int x1), (2, .int x2), (3, .int x3), (4, .int x4)]) [0, 1, 2, 3, 4] rfl (L51 σ x1 x2 x3 x4 1 _ hf hp)
  have hp : t0 = t0 := rfl
  show J X 0 [(0, .ref (Xad X x0)), (1, .int x1)] [] σ
  unfold f_L_cutBack at hf
  refine J.iconst (pc := 0) C (v := 1) dL_cutBack_0 (by decide) ?_
  refine J.iload_n (pc := 1) C dL_cutBack_1 rfl 1 rfl ?_
  refine J.bipush (pc := 2) C (v := 12) dL_cutBack_2 (by decide) ?_
  obtain ⟨r_2, h_1, hf⟩ := bnd_some hf
  refine J.callS (pc := 4) C (m_L_up h_1) trivial wyL_up tsL_up tw_377 [.int x1, .int 12] [.int 1] rfl rfl (Nat.le_of_ble_eq_true rfl) (Nat.le_of_ble_eq_true rfl) (Nat.le_of_ble_eq_true rfl) (stk' := [.int r_2, .int 1]) rfl dL_cutBack_4 rfl ?_
  refine J.iadd (pc := 7) C dL_cutBack_7 ?_
  refine J.nmI hf (fun x2_3 hf => ?_)
  refine J.istore_n (pc := 8) C (loc' := [(2, .int x2_3), (0, .ref (Xad X x0)), (1, .int x1)]) dL_cutBack_8 rfl (by decide) rfl ?_
  refine J.aload_n (pc := 9) C dL_cutBack_9 rfl 1 rfl ?_
  refine J.iload_n (pc := 10) C dL_cutBack_10 rfl 0 rfl ?_
  obtain ⟨r_5, σ_6, h_4, hf⟩ := bnd2_some hf
  refine J.callV (pc := 11) C (m_X8_safeCut h_4) hx0 wyX8_safeCut tvX8_safeCut_i tvX8_safeCut_s tw_668 kcX8 rfl hx0 [.int x2_3] [] rfl rfl (Nat.le_of_ble_eq_true rfl) (Nat.le_of_ble_eq_true rfl) (Nat.le_of_ble_eq_true rfl) (stk' := [.int r_5]) rfl dL_cutBack_11 rfl ?_
  refine J.istore_n (pc := 14) C (loc' := [(3, .int r_5), (2, .int x2_3), (0, .ref (Xad X x0)), (1, .int x1)]) dL_cutBack_14 rfl (by decide) rfl ?_
  refine J.aload_n (pc := 15) C dL_cutBack_15 rfl 2 rfl ?_
  refine J.bipush (pc := 16) C (v := 13) dL_cutBack_16 (by decide) ?_
  obtain ⟨r_8, h_7, hf⟩ := bnd_some hf
  refine J.callV (pc := 18) C (m_X8_state h_7) hx0 wyX8_state tvX8_state_i tvX8_state_s tw_387 kcX8 rfl hx0 [.int 13] [] rfl rfl (Nat.le_of_ble_eq_true rfl) (Nat.le_of_ble_eq_true rfl) (Nat.le_of_ble_eq_true rfl) (stk' := [.int r_8]) rfl dL_cutBack_18 rfl ?_
  refine J.istore (pc := 21) C (loc' := [(4, .int r_8), (3, .int r_5), (2, .int x2_3), (0, .ref (Xad X x0)), (1, .int x1)]) dL_cutBack_21 (by decide) rfl ?_
  refine J.iload_n (pc := 23) C dL_cutBack_23 rfl 1 rfl ?_
  refine J.bipush (pc := 24) C (v := (-6)) dL_cutBack_24 (by decide) ?_
  refine J.icmp_lt (pc := 26) C (tgt := 50) dL_cutBack_26 (by decide) hf (fun hf => ?_) (fun hf => ?_)
  · exact J.sub (loc' := [(0, .ref (Xad X x0)), (1, .int x1), (2, .int x2_3), (3, .int r_5), (4, .int r_8)]) [3, 4, 2, 1, 0] rfl (L50 σ_6 x1 x2_3 r_5 r_8 _ hf hp)
  · refine J.iload_n (pc := 29) C dL_cutBack_29 rfl 1 rfl ?_
    refine J.sipush (pc := 30) C (v := 1000) dL_cutBack_30 (by decide) ?_
    refine J.icmp_gt (pc := 33) C (tgt := 50) dL_cutBack_33 (by decide) hf (fun hf => ?_) (fun hf => ?_)
    · exact J.sub (loc' := [(0, .ref (Xad X x0)), (1, .int x1), (2, .int x2_3), (3, .int r_5), (4, .int r_8)]) [3, 4, 2, 1, 0] rfl (L50 σ_6 x1 x2_3 r_5 r_8 _ hf hp)
    · refine J.iload_n (pc := 36) C dL_cutBack_36 rfl 1 rfl ?_
      refine J.if_ge (pc := 37) C (tgt := 46) dL_cutBack_37 (by decide) hf (fun hf => ?_) (fun hf => ?_)
      · exact J.sub (loc' := [(0, .ref (Xad X x0)), (1, .int x1), (2, .int x2_3), (3, .int r_5), (4, .int r_8)]) [3, 4, 2, 1, 0] rfl (L46 σ_6 x1 x2_3 r_5 r_8 _ hf hp)
      · refine J.iload_n (pc := 40) C dL_cutBack_40 rfl 1 rfl ?_
        refine J.bipush (pc := 41) C (v := (-6)) dL_cutBack_41 (by decide) ?_
        refine J.icmp_ne (pc := 43) C (tgt := 50) dL_cutBack_43 (by decide) hf (fun hf => ?_) (fun hf => ?_)
        · exact J.sub (loc' := [(0, .ref (Xad X x0)), (1, .int x1), (2, .int x2_3), (3, .int r_5), (4, .int r_8)]) [3, 4, 2, 1, 0] rfl (L50 σ_6 x1 x2_3 r_5 r_8 _ hf hp)
        · exact J.sub (loc' := [(0, .ref (Xad X x0)), (1, .int x1), (2, .int x2_3), (3, .int r_5), (4, .int r_8)]) [3, 4, 2, 1, 0] rfl (L46 σ_6 x1 x2_3 r_5 r_8 _ hf hp)
set_option maxHeartbeats 4000000 in
set_option maxRecDepth 100000 in
theorem m_L_kept {l : Launch} {n : Nat} {w : Nat} {σ : Mem} {x0 : Nat} {x1 : Int32} {t0 : (Int32 × Mem)} (hf : f_L_kept n w σ x0 x1 = some t0) : Ct l yL_kept cL_kept 9 (some FieldType.boolean) 7 163 (fun ks => Ok ks x0 8) (fun ad => [.ref (ad x0), .int x1]) σ (fun _ => some (.int t0.1)) t0.2 := by
  refine Ct.of (plainFor_of_name (by decide)) (fun _ => Nat.le_of_ble_eq_true rfl) ?_
  intro X C _ hx0 hcl hR
  have C : Cx X RL cL_kept 9 (some FieldType.boolean) 7 163 := C
  have L159 : ∀ (σ : Mem) (x1 : Int32) (x2 : Int32) (x3 : Int32) (x4 : Int32) (x5 : Int32) (x6 : Int32) (x7 : Int32) (x8 : Int32) (t : ((Int32 × Mem) ⊕ (Int32))), f_L_kept_L159 n w σ x0 x1 x2 x3 x4 x5 x6 x7 x8 = some t → ((∀ r1, t = .inl r1 → r1 = t0) ∧ (∀ s1, t = .inr s1 → J X 150 [(0, .ref (Xad X x0)), (1, .int x1), (2, .int x2), (3, .int x3), (4, .int x4), (5, .int x5), (6, .int x6), (7, .int s1)] [] σ)) → J X 159 [(0, .ref (Xad X x0)), (1, .int x1), (2, .int x2), (3, .int x3), (4, .int x4), (5, .int x5), (6, .int x6), (7, .int x7), (8, .int x8)] [] σ := by
    intro σ x1 x2 x3 x4 x5 x6 x7 x8 t hf hp
    unfold f_L_kept_L159 at hf
    refine J_iter (JJ := fun (s : Int32) => J X 159 [(0, .ref (Xad X x0)), (1, .int x1), (2, .int x2), (3, .int x3), (4, .int x4), (5, .int x5), (6, .int x6), (7, .int x7), (8, .int s)] [] σ) (Ps := fun t => ((∀ r1, t = .inl r1 → r1 = t0) ∧ (∀ s1, t = .inr s1 → J X 150 [(0, .ref (Xad X x0)), (1, .int x1), (2, .int x2), (3, .int x3), (4, .int x4), (5, .int x5), (6, .int x6), (7, .int s1)] [] σ))) ?_ w x8 t hf hp
    clear hf hp
    intro s t hf hp hq
    obtain ⟨x8, rfl⟩ : ∃ z, z = s := ⟨_, rfl⟩
    have hp := And.intro hp hq
    clear hq
    have hf : f_L_kept_B159 n w σ x0 x1 x2 x3 x4 x5 x6 x7 x8 = some t := hf
    show J X 159 [(0, .ref (Xad X x0)), (1, .int x1), (2, .int x2), (3, .int x3), (4, .int x4), (5, .int x5), (6, .int x6), (7, .int x7), (8, .int x8)] [] σ
    unfold f_L_kept_B159 at hf
    refine J.iload (pc := 159) C dL_kept_159 8 rfl ?_
    refine J.iconst (pc := 161) C (v := 5) dL_kept_161 (by decide) ?_
    refine J.icmp_ge (pc := 162) C (tgt := 184) dL_kept_162 (by decide) hf (fun hf => ?_) (fun hf => ?_)
    · obtain ⟨x7_66, hx_x7_66, hf⟩ := nm_some hf
      refine J.iinc (pc := 184) C (v := x7_66) (loc' := [(7, .int x7_66), (0, .ref (Xad X x0)), (1, .int x1), (2, .int x2), (3, .int x3), (4, .int x4), (5, .int x5), (6, .int x6), (8, .int x8)]) dL_kept_184 (k := 7) rfl (by rw [hx_x7_66]; rfl) (by decide) rfl ?_
      refine J.goto (pc := 187) C (tgt := 150) dL_kept_187 (by decide) ?_
      exact J.sub (loc' := [(0, .ref (Xad X x0)), (1, .int x1), (2, .int x2), (3, .int x3), (4, .int x4), (5, .int x5), (6, .int x6), (7, .int x7_66)]) [1, 2, 3, 4, 5, 6, 7, 0] rfl ((hp.1 _ (Option.some.inj hf).symm).2 _ rfl)
    · refine J.aload_n (pc := 165) C dL_kept_165 rfl 0 rfl ?_
      refine J.iload (pc := 166) C dL_kept_166 7 rfl ?_
      refine J.iload (pc := 168) C dL_kept_168 8 rfl ?_
      obtain ⟨r_68, h_67, hf⟩ := bnd_some hf
      refine J.callV (pc := 170) C (m_X8_pressure h_67) hx0 wyX8_pressure tvX8_pressure_i tvX8_pressure_s tw_407 kcX8 rfl hx0 [.int x7, .int x8] [] rfl rfl (Nat.le_of_ble_eq_true rfl) (Nat.le_of_ble_eq_true rfl) (Nat.le_of_ble_eq_true rfl) (stk' := [.int r_68]) rfl dL_kept_170 rfl ?_
      refine J.if_eq (pc := 173) C (tgt := 178) dL_kept_173 (by decide) hf (fun hf => ?_) (fun hf => ?_)
      · obtain ⟨x8_69, hx_x8_69, hf⟩ := nm_some hf
        refine J.iinc (pc := 178) C (v := x8_69) (loc' := [(8, .int x8_69), (0, .ref (Xad X x0)), (1, .int x1), (2, .int x2), (3, .int x3), (4, .int x4), (5, .int x5), (6, .int x6), (7, .int x7)]) dL_kept_178 (k := 8) rfl (by rw [hx_x8_69]; rfl) (by decide) rfl ?_
        refine J.goto (pc := 181) C (tgt := 159) dL_kept_181 (by decide) ?_
        exact J.sub (loc' := [(0, .ref (Xad X x0)), (1, .int x1), (2, .int x2), (3, .int x3), (4, .int x4), (5, .int x5), (6, .int x6), (7, .int x7), (8, .int x8_69)]) [1, 2, 3, 4, 5, 6, 7, 8, 0] rfl (hp.2 _ (Option.some.inj hf).symm)
      · refine J.iconst (pc := 176) C (v := 0) dL_kept_176 (by decide) ?_
        exact J.zretM (pc := 177) C rfl hR (((hp.1 _ (Option.some.inj hf).symm).1 _ rfl)) dL_kept_177
  have L150 : ∀ (σ : Mem) (x1 : Int32) (x2 : Int32) (x3 : Int32) (x4 : Int32) (x5 : Int32) (x6 : Int32) (x7 : Int32) (t : (Int32 × Mem)), f_L_kept_L150 n w σ x0 x1 x2 x3 x4 x5 x6 x7 = some t → t = t0 → J X 150 [(0, .ref (Xad X x0)), (1, .int x1), (2, .int x2), (3, .int x3), (4, .int x4), (5, .int x5), (6, .int x6), (7, .int x7)] [] σ := by
    intro σ x1 x2 x3 x4 x5 x6 x7 t hf hp
    unfold f_L_kept_L150 at hf
    refine J_iter (JJ := fun (s : Int32) => J X 150 [(0, .ref (Xad X x0)), (1, .int x1), (2, .int x2), (3, .int x3), (4, .int x4), (5, .int x5), (6, .int x6), (7, .int s)] [] σ) (Ps := fun t => t = t0) ?_ w x7 t hf hp
    clear hf hp
    intro s t hf hp hq
    obtain ⟨x7, rfl⟩ : ∃ z, z = s := ⟨_, rfl⟩
    have hp := And.intro hp hq
    clear hq
    have hf : f_L_kept_B150 n w σ x0 x1 x2 x3 x4 x5 x6 x7 = some t := hf
    show J X 150 [(0, .ref (Xad X x0)), (1, .int x1), (2, .int x2), (3, .int x3), (4, .int x4), (5, .int x5), (6, .int x6), (7, .int x7)] [] σ
    unfold f_L_kept_B150 at hf
    refine J.iload (pc := 150) C dL_kept_150 7 rfl ?_
    refine J.iconst (pc := 152) C (v := 3) dL_kept_152 (by decide) ?_
    refine J.icmp_ge (pc := 153) C (tgt := 190) dL_kept_153 (by decide) hf (fun hf => ?_) (fun hf => ?_)
    · refine J.iconst (pc := 190) C (v := 1) dL_kept_190 (by decide) ?_
      refine J.iload_n (pc := 191) C dL_kept_191 rfl 1 rfl ?_
      refine J.bipush (pc := 192) C (v := 60) dL_kept_192 (by decide) ?_
      obtain ⟨r_30, h_29, hf⟩ := bnd_some hf
      refine J.callS (pc := 194) C (m_L_up h_29) trivial wyL_up tsL_up tw_377 [.int x1, .int 60] [.int 1] rfl rfl (Nat.le_of_ble_eq_true rfl) (Nat.le_of_ble_eq_true rfl) (Nat.le_of_ble_eq_true rfl) (stk' := [.int r_30, .int 1]) rfl dL_kept_194 rfl ?_
      refine J.iadd (pc := 197) C dL_kept_197 ?_
      refine J.nmI hf (fun x7_31 hf => ?_)
      refine J.istore (pc := 198) C (loc' := [(7, .int x7_31), (0, .ref (Xad X x0)), (1, .int x1), (2, .int x2), (3, .int x3), (4, .int x4), (5, .int x5), (6, .int x6)]) dL_kept_198 (by decide) rfl ?_
      refine J.aload_n (pc := 200) C dL_kept_200 rfl 1 rfl ?_
      refine J.iload (pc := 201) C dL_kept_201 0 rfl ?_
      refine J.iconst (pc := 203) C (v := 1) dL_kept_203 (by decide) ?_
      refine J.iconst (pc := 204) C (v := 0) dL_kept_204 (by decide) ?_
      obtain ⟨r_33, σ_34, h_32, hf⟩ := bnd2_some hf
      refine J.callV (pc := 205) C (m_X8_ahead h_32) hx0 wyX8_ahead tvX8_ahead_i tvX8_ahead_s tw_576 kcX8 rfl hx0 [.int x7_31, .int 1, .int 0] [] rfl rfl (Nat.le_of_ble_eq_true rfl) (Nat.le_of_ble_eq_true rfl) (Nat.le_of_ble_eq_true rfl) (stk' := [.int r_33]) rfl dL_kept_205 rfl ?_
      refine J.istore (pc := 208) C (loc' := [(8, .int r_33), (7, .int x7_31), (0, .ref (Xad X x0)), (1, .int x1), (2, .int x2), (3, .int x3), (4, .int x4), (5, .int x5), (6, .int x6)]) dL_kept_208 (by decide) rfl ?_
      refine J.aload_n (pc := 210) C dL_kept_210 rfl 2 rfl ?_
      refine J.iload (pc := 211) C dL_kept_211 1 rfl ?_
      obtain ⟨r_36, σ_37, h_35, hf⟩ := bnd2_some hf
      refine J.callV (pc := 213) C (m_X8_tick h_35) hx0 wyX8_tick tvX8_tick_i tvX8_tick_s tw_411 kcX8 rfl hx0 [.int x7_31] [] rfl rfl (Nat.le_of_ble_eq_true rfl) (Nat.le_of_ble_eq_true rfl) (Nat.le_of_ble_eq_true rfl) (stk' := [.int r_36]) rfl dL_kept_213 rfl ?_
      refine J.iload (pc := 216) C dL_kept_216 1 rfl ?_
      refine J.icmp_ne (pc := 218) C (tgt := 243) dL_kept_218 (by decide) hf (fun hf => ?_) (fun hf => ?_)
      · refine J.iconst (pc := 243) C (v := 0) dL_kept_243 (by decide) ?_
        exact J.zretM (pc := 244) C rfl hR ((hp.1 _ (Option.some.inj hf).symm)) dL_kept_244
      · refine J.aload_n (pc := 221) C dL_kept_221 rfl 2 rfl ?_
        obtain ⟨r_39, σ_40, h_38, hf⟩ := bnd2_some hf
        refine J.callV (pc := 222) C (m_X8_rewind h_38) hx0 wyX8_rewind tvX8_rewind_i tvX8_rewind_s tw_679 kcX8 rfl hx0 [] [] rfl rfl (Nat.le_of_ble_eq_true rfl) (Nat.le_of_ble_eq_true rfl) (Nat.le_of_ble_eq_true rfl) (stk' := [.int r_39]) rfl dL_kept_222 rfl ?_
        refine J.iload (pc := 225) C dL_kept_225 1 rfl ?_
        refine J.icmp_ne (pc := 227) C (tgt := 243) dL_kept_227 (by decide) hf (fun hf => ?_) (fun hf => ?_)
        · refine J.iconst (pc := 243) C (v := 0) dL_kept_243 (by decide) ?_
          exact J.zretM (pc := 244) C rfl hR ((hp.1 _ (Option.some.inj hf).symm)) dL_kept_244
        · refine J.aload_n (pc := 230) C dL_kept_230 rfl 2 rfl ?_
          refine J.iload (pc := 231) C dL_kept_231 1 rfl ?_
          refine J.iconst (pc := 233) C (v := 1) dL_kept_233 (by decide) ?_
          refine J.iconst (pc := 234) C (v := 0) dL_kept_234 (by decide) ?_
          obtain ⟨r_42, σ_43, h_41, hf⟩ := bnd2_some hf
          refine J.callV (pc := 235) C (m_X8_ahead h_41) hx0 wyX8_ahead tvX8_ahead_i tvX8_ahead_s tw_576 kcX8 rfl hx0 [.int x7_31, .int 1, .int 0] [] rfl rfl (Nat.le_of_ble_eq_true rfl) (Nat.le_of_ble_eq_true rfl) (Nat.le_of_ble_eq_true rfl) (stk' := [.int r_42]) rfl dL_kept_235 rfl ?_
          refine J.iload (pc := 238) C dL_kept_238 0 rfl ?_
          refine J.icmp_eq (pc := 240) C (tgt := 245) dL_kept_240 (by decide) hf (fun hf => ?_) (fun hf => ?_)
          · refine J.aload_n (pc := 245) C dL_kept_245 rfl 2 rfl ?_
            refine J.iconst (pc := 246) C (v := 1) dL_kept_246 (by decide) ?_
            refine J.iload_n (pc := 247) C dL_kept_247 rfl 3 rfl ?_
            refine J.bipush (pc := 248) C (v := 6) dL_kept_248 (by decide) ?_
            refine J.ishr (pc := 250) C dL_kept_250 ?_
            refine J.bipush (pc := 251) C (v := 12) dL_kept_251 (by decide) ?_
            obtain ⟨r_45, h_44, hf⟩ := bnd_some hf
            refine J.callS (pc := 253) C (m_L_up h_44) trivial wyL_up tsL_up tw_377 [.int (x1 >>> (6 &&& 31)), .int 12] [.int 1, .ref (Xad X x0)] rfl rfl (Nat.le_of_ble_eq_true rfl) (Nat.le_of_ble_eq_true rfl) (Nat.le_of_ble_eq_true rfl) (stk' := [.int r_45, .int 1, .ref (Xad X x0)]) rfl dL_kept_253 rfl ?_
            refine J.iadd (pc := 256) C dL_kept_256 ?_
            obtain ⟨r_47, σ_48, h_46, hf⟩ := bnd2_some hf
            refine J.callV (pc := 257) C (m_X8_setUp h_46) hx0 wyX8_setUp tvX8_setUp_i tvX8_setUp_s tw_314 kcX8 rfl hx0 [.int (1 + r_45)] [] rfl rfl (Nat.le_of_ble_eq_true rfl) (Nat.le_of_ble_eq_true rfl) (Nat.le_of_ble_eq_true rfl) (stk' := [.int r_47]) rfl dL_kept_257 rfl ?_
            refine J.pop (pc := 260) C dL_kept_260 rfl ?_
            refine J.aload_n (pc := 261) C dL_kept_261 rfl 2 rfl ?_
            refine J.iconst (pc := 262) C (v := 2) dL_kept_262 (by decide) ?_
            obtain ⟨r_50, h_49, hf⟩ := bnd_some hf
            refine J.callV (pc := 263) C (m_X8_state h_49) hx0 wyX8_state tvX8_state_i tvX8_state_s tw_387 kcX8 rfl hx0 [.int 2] [] rfl rfl (Nat.le_of_ble_eq_true rfl) (Nat.le_of_ble_eq_true rfl) (Nat.le_of_ble_eq_true rfl) (stk' := [.int r_50]) rfl dL_kept_263 rfl ?_
            refine J.if_ne (pc := 266) C (tgt := 343) dL_kept_266 (by decide) hf (fun hf => ?_) (fun hf => ?_)
            · refine J.iconst (pc := 343) C (v := 0) dL_kept_343 (by decide) ?_
              exact J.zretM (pc := 344) C rfl hR ((hp.1 _ (Option.some.inj hf).symm)) dL_kept_344
            · refine J.aload_n (pc := 269) C dL_kept_269 rfl 2 rfl ?_
              refine J.iconst (pc := 270) C (v := 3) dL_kept_270 (by decide) ?_
              obtain ⟨r_52, h_51, hf⟩ := bnd_some hf
              refine J.callV (pc := 271) C (m_X8_state h_51) hx0 wyX8_state tvX8_state_i tvX8_state_s tw_387 kcX8 rfl hx0 [.int 3] [] rfl rfl (Nat.le_of_ble_eq_true rfl) (Nat.le_of_ble_eq_true rfl) (Nat.le_of_ble_eq_true rfl) (stk' := [.int r_52]) rfl dL_kept_271 rfl ?_
              refine J.if_ne (pc := 274) C (tgt := 343) dL_kept_274 (by decide) hf (fun hf => ?_) (fun hf => ?_)
              · refine J.iconst (pc := 343) C (v := 0) dL_kept_343 (by decide) ?_
                exact J.zretM (pc := 344) C rfl hR ((hp.1 _ (Option.some.inj hf).symm)) dL_kept_344
              · refine J.aload_n (pc := 277) C dL_kept_277 rfl 2 rfl ?_
                refine J.iconst (pc := 278) C (v := 0) dL_kept_278 (by decide) ?_
                refine J.iconst (pc := 279) C (v := 0) dL_kept_279 (by decide) ?_
                obtain ⟨r_54, h_53, hf⟩ := bnd_some hf
                refine J.callV (pc := 280) C (m_X8_pressure h_53) hx0 wyX8_pressure tvX8_pressure_i tvX8_pressure_s tw_407 kcX8 rfl hx0 [.int 0, .int 0] [] rfl rfl (Nat.le_of_ble_eq_true rfl) (Nat.le_of_ble_eq_true rfl) (Nat.le_of_ble_eq_true rfl) (stk' := [.int r_54]) rfl dL_kept_280 rfl ?_
                refine J.bipush (pc := 283) C (v := 100) dL_kept_283 (by decide) ?_
                refine J.icmp_ne (pc := 285) C (tgt := 343) dL_kept_285 (by decide) hf (fun hf => ?_) (fun hf => ?_)
                · refine J.iconst (pc := 343) C (v := 0) dL_kept_343 (by decide) ?_
                  exact J.zretM (pc := 344) C rfl hR ((hp.1 _ (Option.some.inj hf).symm)) dL_kept_344
                · refine J.aload_n (pc := 288) C dL_kept_288 rfl 2 rfl ?_
                  refine J.iconst (pc := 289) C (v := 0) dL_kept_289 (by decide) ?_
                  obtain ⟨r_56, σ_57, h_55, hf⟩ := bnd2_some hf
                  refine J.callV (pc := 290) C (m_X8_restore h_55) hx0 wyX8_restore tvX8_restore_i tvX8_restore_s tw_646 kcX8 rfl hx0 [.int 0] [] rfl rfl (Nat.le_of_ble_eq_true rfl) (Nat.le_of_ble_eq_true rfl) (Nat.le_of_ble_eq_true rfl) (stk' := [.int r_56]) rfl dL_kept_290 rfl ?_
                  refine J.iload_n (pc := 293) C dL_kept_293 rfl 4 rfl ?_
                  refine J.icmp_ne (pc := 294) C (tgt := 343) dL_kept_294 (by decide) hf (fun hf => ?_) (fun hf => ?_)
                  · refine J.iconst (pc := 343) C (v := 0) dL_kept_343 (by decide) ?_
                    exact J.zretM (pc := 344) C rfl hR ((hp.1 _ (Option.some.inj hf).symm)) dL_kept_344
                  · refine J.aload_n (pc := 297) C dL_kept_297 rfl 2 rfl ?_
                    refine J.iconst (pc := 298) C (v := 2) dL_kept_298 (by decide) ?_
                    obtain ⟨r_59, h_58, hf⟩ := bnd_some hf
                    refine J.callV (pc := 299) C (m_X8_state h_58) hx0 wyX8_state tvX8_state_i tvX8_state_s tw_387 kcX8 rfl hx0 [.int 2] [] rfl rfl (Nat.le_of_ble_eq_true rfl) (Nat.le_of_ble_eq_true rfl) (Nat.le_of_ble_eq_true rfl) (stk' := [.int r_59]) rfl dL_kept_299 rfl ?_
                    refine J.iload_n (pc := 302) C dL_kept_302 rfl 5 rfl ?_
                    refine J.icmp_ne (pc := 303) C (tgt := 343) dL_kept_303 (by decide) hf (fun hf => ?_) (fun hf => ?_)
                    · refine J.iconst (pc := 343) C (v := 0) dL_kept_343 (by decide) ?_
                      exact J.zretM (pc := 344) C rfl hR ((hp.1 _ (Option.some.inj hf).symm)) dL_kept_344
                    · refine J.aload_n (pc := 306) C dL_kept_306 rfl 2 rfl ?_
                      refine J.iconst (pc := 307) C (v := 1) dL_kept_307 (by decide) ?_
                      refine J.iconst (pc := 308) C (v := 2) dL_kept_308 (by decide) ?_
                      obtain ⟨r_61, h_60, hf⟩ := bnd_some hf
                      refine J.callV (pc := 309) C (m_X8_pressure h_60) hx0 wyX8_pressure tvX8_pressure_i tvX8_pressure_s tw_407 kcX8 rfl hx0 [.int 1, .int 2] [] rfl rfl (Nat.le_of_ble_eq_true rfl) (Nat.le_of_ble_eq_true rfl) (Nat.le_of_ble_eq_true rfl) (stk' := [.int r_61]) rfl dL_kept_309 rfl ?_
                      refine J.iload (pc := 312) C dL_kept_312 7 rfl ?_
                      refine J.icmp_ne (pc := 314) C (tgt := 343) dL_kept_314 (by decide) hf (fun hf => ?_) (fun hf => ?_)
                      · refine J.iconst (pc := 343) C (v := 0) dL_kept_343 (by decide) ?_
                        exact J.zretM (pc := 344) C rfl hR ((hp.1 _ (Option.some.inj hf).symm)) dL_kept_344
                      · refine J.aload_n (pc := 317) C dL_kept_317 rfl 2 rfl ?_
                        refine J.iconst (pc := 318) C (v := 0) dL_kept_318 (by decide) ?_
                        refine J.bipush (pc := 319) C (v := 7) dL_kept_319 (by decide) ?_
                        obtain ⟨r_63, h_62, hf⟩ := bnd_some hf
                        refine J.callV (pc := 321) C (m_X8_spray h_62) hx0 wyX8_spray tvX8_spray_i tvX8_spray_s tw_403 kcX8 rfl hx0 [.int 0, .int 7] [] rfl rfl (Nat.le_of_ble_eq_true rfl) (Nat.le_of_ble_eq_true rfl) (Nat.le_of_ble_eq_true rfl) (stk' := [.int r_63]) rfl dL_kept_321 rfl ?_
                        refine J.iload (pc := 324) C dL_kept_324 8 rfl ?_
                        refine J.icmp_ne (pc := 326) C (tgt := 343) dL_kept_326 (by decide) hf (fun hf => ?_) (fun hf => ?_)
                        · refine J.iconst (pc := 343) C (v := 0) dL_kept_343 (by decide) ?_
                          exact J.zretM (pc := 344) C rfl hR ((hp.1 _ (Option.some.inj hf).symm)) dL_kept_344
                        · refine J.aload_n (pc := 329) C dL_kept_329 rfl 2 rfl ?_
                          refine J.iconst (pc := 330) C (v := 3) dL_kept_330 (by decide) ?_
                          obtain ⟨r_65, h_64, hf⟩ := bnd_some hf
                          refine J.callV (pc := 331) C (m_X8_state h_64) hx0 wyX8_state tvX8_state_i tvX8_state_s tw_387 kcX8 rfl hx0 [.int 3] [] rfl rfl (Nat.le_of_ble_eq_true rfl) (Nat.le_of_ble_eq_true rfl) (Nat.le_of_ble_eq_true rfl) (stk' := [.int r_65]) rfl dL_kept_331 rfl ?_
                          refine J.iload (pc := 334) C dL_kept_334 6 rfl ?_
                          refine J.icmp_ne (pc := 336) C (tgt := 343) dL_kept_336 (by decide) hf (fun hf => ?_) (fun hf => ?_)
                          · refine J.iconst (pc := 343) C (v := 0) dL_kept_343 (by decide) ?_
                            exact J.zretM (pc := 344) C rfl hR ((hp.1 _ (Option.some.inj hf).symm)) dL_kept_344
                          · refine J.iconst (pc := 339) C (v := 1) dL_kept_339 (by decide) ?_
                            refine J.goto (pc := 340) C (tgt := 344) dL_kept_340 (by decide) ?_
                            exact J.zretM (pc := 344) C rfl hR ((hp.1 _ (Option.some.inj hf).symm)) dL_kept_344
          · refine J.iconst (pc := 243) C (v := 0) dL_kept_243 (by decide) ?_
            exact J.zretM (pc := 244) C rfl hR ((hp.1 _ (Option.some.inj hf).symm)) dL_kept_244
    · refine J.iconst (pc := 156) C (v := 2) dL_kept_156 (by decide) ?_
      refine J.istore (pc := 157) C (loc' := [(8, .int 2), (0, .ref (Xad X x0)), (1, .int x1), (2, .int x2), (3, .int x3), (4, .int x4), (5, .int x5), (6, .int x6), (7, .int x7)]) dL_kept_157 (by decide) rfl ?_
      exact J.sub (loc' := [(0, .ref (Xad X x0)), (1, .int x1), (2, .int x2), (3, .int x3), (4, .int x4), (5, .int x5), (6, .int x6), (7, .int x7), (8, .int 2)]) [1, 2, 3, 4, 5, 6, 7, 8, 0] rfl (L159 σ x1 x2 x3 x4 x5 x6 x7 2 _ hf hp)
  have L115 : ∀ (σ : Mem) (x1 : Int32) (x2 : Int32) (x3 : Int32) (x4 : Int32) (x5 : Int32) (x6 : Int32) (x7 : Int32) (x8 : Int32) (t : ((Int32 × Mem) ⊕ (Int32))), f_L_kept_L115 n w σ x0 x1 x2 x3 x4 x5 x6 x7 x8 = some t → ((∀ r1, t = .inl r1 → r1 = t0) ∧ (∀ s1, t = .inr s1 → J X 101 [(0, .ref (Xad X x0)), (1, .int x1), (2, .int x2), (3, .int x3), (4, .int x4), (5, .int x5), (6, .int x6), (7, .int s1)] [] σ)) → J X 115 [(0, .ref (Xad X x0)), (1, .int x1), (2, .int x2), (3, .int x3), (4, .int x4), (5, .int x5), (6, .int x6), (7, .int x7), (8, .int x8)] [] σ := by
    intro σ x1 x2 x3 x4 x5 x6 x7 x8 t hf hp
    unfold f_L_kept_L115 at hf
    refine J_iter (JJ := fun (s : Int32) => J X 115 [(0, .ref (Xad X x0)), (1, .int x1), (2, .int x2), (3, .int x3), (4, .int x4), (5, .int x5), (6, .int x6), (7, .int x7), (8, .int s)] [] σ) (Ps := fun t => ((∀ r1, t = .inl r1 → r1 = t0) ∧ (∀ s1, t = .inr s1 → J X 101 [(0, .ref (Xad X x0)), (1, .int x1), (2, .int x2), (3, .int x3), (4, .int x4), (5, .int x5), (6, .int x6), (7, .int s1)] [] σ))) ?_ w x8 t hf hp
    clear hf hp
    intro s t hf hp hq
    obtain ⟨x8, rfl⟩ : ∃ z, z = s := ⟨_, rfl⟩
    have hp := And.intro hp hq
    clear hq
    have hf : f_L_kept_B115 n w σ x0 x1 x2 x3 x4 x5 x6 x7 x8 = some t := hf
    show J X 115 [(0, .ref (Xad X x0)), (1, .int x1), (2, .int x2), (3, .int x3), (4, .int x4), (5, .int x5), (6, .int x6), (7, .int x7), (8, .int x8)] [] σ
    unfold f_L_kept_B115 at hf
    refine J.iload (pc := 115) C dL_kept_115 8 rfl ?_
    refine J.bipush (pc := 117) C (v := 12) dL_kept_117 (by decide) ?_
    refine J.icmp_ge (pc := 119) C (tgt := 141) dL_kept_119 (by decide) hf (fun hf => ?_) (fun hf => ?_)
    · obtain ⟨x7_70, hx_x7_70, hf⟩ := nm_some hf
      refine J.iinc (pc := 141) C (v := x7_70) (loc' := [(7, .int x7_70), (0, .ref (Xad X x0)), (1, .int x1), (2, .int x2), (3, .int x3), (4, .int x4), (5, .int x5), (6, .int x6), (8, .int x8)]) dL_kept_141 (k := 7) rfl (by rw [hx_x7_70]; rfl) (by decide) rfl ?_
      refine J.goto (pc := 144) C (tgt := 101) dL_kept_144 (by decide) ?_
      exact J.sub (loc' := [(0, .ref (Xad X x0)), (1, .int x1), (2, .int x2), (3, .int x3), (4, .int x4), (5, .int x5), (6, .int x6), (7, .int x7_70)]) [1, 2, 3, 4, 5, 6, 7, 0] rfl ((hp.1 _ (Option.some.inj hf).symm).2 _ rfl)
    · refine J.aload_n (pc := 122) C dL_kept_122 rfl 0 rfl ?_
      refine J.iload (pc := 123) C dL_kept_123 7 rfl ?_
      refine J.iload (pc := 125) C dL_kept_125 8 rfl ?_
      obtain ⟨r_72, h_71, hf⟩ := bnd_some hf
      refine J.callV (pc := 127) C (m_X8_spray h_71) hx0 wyX8_spray tvX8_spray_i tvX8_spray_s tw_403 kcX8 rfl hx0 [.int x7, .int x8] [] rfl rfl (Nat.le_of_ble_eq_true rfl) (Nat.le_of_ble_eq_true rfl) (Nat.le_of_ble_eq_true rfl) (stk' := [.int r_72]) rfl dL_kept_127 rfl ?_
      refine J.if_eq (pc := 130) C (tgt := 135) dL_kept_130 (by decide) hf (fun hf => ?_) (fun hf => ?_)
      · obtain ⟨x8_73, hx_x8_73, hf⟩ := nm_some hf
        refine J.iinc (pc := 135) C (v := x8_73) (loc' := [(8, .int x8_73), (0, .ref (Xad X x0)), (1, .int x1), (2, .int x2), (3, .int x3), (4, .int x4), (5, .int x5), (6, .int x6), (7, .int x7)]) dL_kept_135 (k := 8) rfl (by rw [hx_x8_73]; rfl) (by decide) rfl ?_
        refine J.goto (pc := 138) C (tgt := 115) dL_kept_138 (by decide) ?_
        exact J.sub (loc' := [(0, .ref (Xad X x0)), (1, .int x1), (2, .int x2), (3, .int x3), (4, .int x4), (5, .int x5), (6, .int x6), (7, .int x7), (8, .int x8_73)]) [1, 2, 3, 4, 5, 6, 7, 8, 0] rfl (hp.2 _ (Option.some.inj hf).symm)
      · refine J.iconst (pc := 133) C (v := 0) dL_kept_133 (by decide) ?_
        exact J.zretM (pc := 134) C rfl hR (((hp.1 _ (Option.some.inj hf).symm).1 _ rfl)) dL_kept_134
  have L101 : ∀ (σ : Mem) (x1 : Int32) (x2 : Int32) (x3 : Int32) (x4 : Int32) (x5 : Int32) (x6 : Int32) (x7 : Int32) (t : (Int32 × Mem)), f_L_kept_L101 n w σ x0 x1 x2 x3 x4 x5 x6 x7 = some t → t = t0 → J X 101 [(0, .ref (Xad X x0)), (1, .int x1), (2, .int x2), (3, .int x3), (4, .int x4), (5, .int x5), (6, .int x6), (7, .int x7)] [] σ := by
    intro σ x1 x2 x3 x4 x5 x6 x7 t hf hp
    unfold f_L_kept_L101 at hf
    refine J_iter (JJ := fun (s : Int32) => J X 101 [(0, .ref (Xad X x0)), (1, .int x1), (2, .int x2), (3, .int x3), (4, .int x4), (5, .int x5), (6, .int x6), (7, .int s)] [] σ) (Ps := fun t => t = t0) ?_ w x7 t hf hp
    clear hf hp
    intro s t hf hp hq
    obtain ⟨x7, rfl⟩ : ∃ z, z = s := ⟨_, rfl⟩
    have hp := And.intro hp hq
    clear hq
    have hf : f_L_kept_B101 n w σ x0 x1 x2 x3 x4 x5 x6 x7 = some t := hf
    show J X 101 [(0, .ref (Xad X x0)), (1, .int x1), (2, .int x2), (3, .int x3), (4, .int x4), (5, .int x5), (6, .int x6), (7, .int x7)] [] σ
    unfold f_L_kept_B101 at hf
    refine J.iload (pc := 101) C dL_kept_101 7 rfl ?_
    refine J.aload_n (pc := 103) C dL_kept_103 rfl 0 rfl ?_
    refine J.iconst (pc := 104) C (v := 1) dL_kept_104 (by decide) ?_
    obtain ⟨r_28, h_27, hf⟩ := bnd_some hf
    refine J.callV (pc := 105) C (m_X8_state h_27) hx0 wyX8_state tvX8_state_i tvX8_state_s tw_387 kcX8 rfl hx0 [.int 1] [.int x7] rfl rfl (Nat.le_of_ble_eq_true rfl) (Nat.le_of_ble_eq_true rfl) (Nat.le_of_ble_eq_true rfl) (stk' := [.int r_28, .int x7]) rfl dL_kept_105 rfl ?_
    refine J.icmp_ge (pc := 108) C (tgt := 147) dL_kept_108 (by decide) hf (fun hf => ?_) (fun hf => ?_)
    · refine J.iconst (pc := 147) C (v := 0) dL_kept_147 (by decide) ?_
      refine J.istore (pc := 148) C (loc' := [(7, .int 0), (0, .ref (Xad X x0)), (1, .int x1), (2, .int x2), (3, .int x3), (4, .int x4), (5, .int x5), (6, .int x6)]) dL_kept_148 (by decide) rfl ?_
      obtain ⟨t0, hf, he⟩ := exi_some hf
      have hp := hp.1 _ he
      exact J.sub (loc' := [(0, .ref (Xad X x0)), (1, .int x1), (2, .int x2), (3, .int x3), (4, .int x4), (5, .int x5), (6, .int x6), (7, .int 0)]) [1, 2, 3, 4, 5, 6, 7, 0] rfl (L150 σ x1 x2 x3 x4 x5 x6 0 _ hf hp)
    · refine J.bipush (pc := 111) C (v := 6) dL_kept_111 (by decide) ?_
      refine J.istore (pc := 113) C (loc' := [(8, .int 6), (0, .ref (Xad X x0)), (1, .int x1), (2, .int x2), (3, .int x3), (4, .int x4), (5, .int x5), (6, .int x6), (7, .int x7)]) dL_kept_113 (by decide) rfl ?_
      exact J.sub (loc' := [(0, .ref (Xad X x0)), (1, .int x1), (2, .int x2), (3, .int x3), (4, .int x4), (5, .int x5), (6, .int x6), (7, .int x7), (8, .int 6)]) [1, 2, 3, 4, 5, 6, 7, 8, 0] rfl (L115 σ x1 x2 x3 x4 x5 x6 x7 6 _ hf hp)
  have hp : t0 = t0 := rfl
  show J X 0 [(0, .ref (Xad X x0)), (1, .int x1)] [] σ
  unfold f_L_kept at hf
  refine J.aload_n (pc := 0) C dL_kept_0 rfl 0 rfl ?_
  refine J.iconst (pc := 1) C (v := 0) dL_kept_1 (by decide) ?_
  obtain ⟨r_2, σ_3, h_1, hf⟩ := bnd2_some hf
  refine J.callV (pc := 2) C (m_X8_save h_1) hx0 wyX8_save tvX8_save_i tvX8_save_s tw_638 kcX8 rfl hx0 [.int 0] [] rfl rfl (Nat.le_of_ble_eq_true rfl) (Nat.le_of_ble_eq_true rfl) (Nat.le_of_ble_eq_true rfl) (stk' := [.int r_2]) rfl dL_kept_2 rfl ?_
  refine J.istore_n (pc := 5) C (loc' := [(2, .int r_2), (0, .ref (Xad X x0)), (1, .int x1)]) dL_kept_5 rfl (by decide) rfl ?_
  refine J.aload_n (pc := 6) C dL_kept_6 rfl 1 rfl ?_
  refine J.iconst (pc := 7) C (v := 2) dL_kept_7 (by decide) ?_
  obtain ⟨r_5, h_4, hf⟩ := bnd_some hf
  refine J.callV (pc := 8) C (m_X8_state h_4) hx0 wyX8_state tvX8_state_i tvX8_state_s tw_387 kcX8 rfl hx0 [.int 2] [] rfl rfl (Nat.le_of_ble_eq_true rfl) (Nat.le_of_ble_eq_true rfl) (Nat.le_of_ble_eq_true rfl) (stk' := [.int r_5]) rfl dL_kept_8 rfl ?_
  refine J.istore_n (pc := 11) C (loc' := [(3, .int r_5), (2, .int r_2), (0, .ref (Xad X x0)), (1, .int x1)]) dL_kept_11 rfl (by decide) rfl ?_
  refine J.aload_n (pc := 12) C dL_kept_12 rfl 2 rfl ?_
  refine J.iconst (pc := 13) C (v := 3) dL_kept_13 (by decide) ?_
  obtain ⟨r_7, h_6, hf⟩ := bnd_some hf
  refine J.callV (pc := 14) C (m_X8_state h_6) hx0 wyX8_state tvX8_state_i tvX8_state_s tw_387 kcX8 rfl hx0 [.int 3] [] rfl rfl (Nat.le_of_ble_eq_true rfl) (Nat.le_of_ble_eq_true rfl) (Nat.le_of_ble_eq_true rfl) (stk' := [.int r_7]) rfl dL_kept_14 rfl ?_
  refine J.istore (pc := 17) C (loc' := [(4, .int r_7), (3, .int r_5), (2, .int r_2), (0, .ref (Xad X x0)), (1, .int x1)]) dL_kept_17 (by decide) rfl ?_
  refine J.aload_n (pc := 19) C dL_kept_19 rfl 3 rfl ?_
  refine J.iconst (pc := 20) C (v := 1) dL_kept_20 (by decide) ?_
  refine J.iconst (pc := 21) C (v := 2) dL_kept_21 (by decide) ?_
  obtain ⟨r_9, h_8, hf⟩ := bnd_some hf
  refine J.callV (pc := 22) C (m_X8_pressure h_8) hx0 wyX8_pressure tvX8_pressure_i tvX8_pressure_s tw_407 kcX8 rfl hx0 [.int 1, .int 2] [] rfl rfl (Nat.le_of_ble_eq_true rfl) (Nat.le_of_ble_eq_true rfl) (Nat.le_of_ble_eq_true rfl) (stk' := [.int r_9]) rfl dL_kept_22 rfl ?_
  refine J.istore (pc := 25) C (loc' := [(5, .int r_9), (4, .int r_7), (3, .int r_5), (2, .int r_2), (0, .ref (Xad X x0)), (1, .int x1)]) dL_kept_25 (by decide) rfl ?_
  refine J.aload_n (pc := 27) C dL_kept_27 rfl 4 rfl ?_
  refine J.iconst (pc := 28) C (v := 0) dL_kept_28 (by decide) ?_
  refine J.bipush (pc := 29) C (v := 7) dL_kept_29 (by decide) ?_
  obtain ⟨r_11, h_10, hf⟩ := bnd_some hf
  refine J.callV (pc := 31) C (m_X8_spray h_10) hx0 wyX8_spray tvX8_spray_i tvX8_spray_s tw_403 kcX8 rfl hx0 [.int 0, .int 7] [] rfl rfl (Nat.le_of_ble_eq_true rfl) (Nat.le_of_ble_eq_true rfl) (Nat.le_of_ble_eq_true rfl) (stk' := [.int r_11]) rfl dL_kept_31 rfl ?_
  refine J.istore (pc := 34) C (loc' := [(6, .int r_11), (5, .int r_9), (4, .int r_7), (3, .int r_5), (2, .int r_2), (0, .ref (Xad X x0)), (1, .int x1)]) dL_kept_34 (by decide) rfl ?_
  refine J.aload_n (pc := 36) C dL_kept_36 rfl 5 rfl ?_
  obtain ⟨r_13, σ_14, h_12, hf⟩ := bnd2_some hf
  refine J.callV (pc := 37) C (m_X8_rewind h_12) hx0 wyX8_rewind tvX8_rewind_i tvX8_rewind_s tw_679 kcX8 rfl hx0 [] [] rfl rfl (Nat.le_of_ble_eq_true rfl) (Nat.le_of_ble_eq_true rfl) (Nat.le_of_ble_eq_true rfl) (stk' := [.int r_13]) rfl dL_kept_37 rfl ?_
  refine J.iload_n (pc := 40) C dL_kept_40 rfl 4 rfl ?_
  refine J.icmp_ne (pc := 41) C (tgt := 96) dL_kept_41 (by decide) hf (fun hf => ?_) (fun hf => ?_)
  · refine J.iconst (pc := 96) C (v := 0) dL_kept_96 (by decide) ?_
    exact J.zretM (pc := 97) C rfl hR ((Option.some.inj hf).trans hp) dL_kept_97
  · refine J.aload_n (pc := 44) C dL_kept_44 rfl 5 rfl ?_
    refine J.iconst (pc := 45) C (v := 0) dL_kept_45 (by decide) ?_
    obtain ⟨r_16, h_15, hf⟩ := bnd_some hf
    refine J.callV (pc := 46) C (m_X8_state h_15) hx0 wyX8_state tvX8_state_i tvX8_state_s tw_387 kcX8 rfl hx0 [.int 0] [] rfl rfl (Nat.le_of_ble_eq_true rfl) (Nat.le_of_ble_eq_true rfl) (Nat.le_of_ble_eq_true rfl) (stk' := [.int r_16]) rfl dL_kept_46 rfl ?_
    refine J.if_ne (pc := 49) C (tgt := 96) dL_kept_49 (by decide) hf (fun hf => ?_) (fun hf => ?_)
    · refine J.iconst (pc := 96) C (v := 0) dL_kept_96 (by decide) ?_
      exact J.zretM (pc := 97) C rfl hR ((Option.some.inj hf).trans hp) dL_kept_97
    · refine J.aload_n (pc := 52) C dL_kept_52 rfl 5 rfl ?_
      refine J.iconst (pc := 53) C (v := 2) dL_kept_53 (by decide) ?_
      obtain ⟨r_18, h_17, hf⟩ := bnd_some hf
      refine J.callV (pc := 54) C (m_X8_state h_17) hx0 wyX8_state tvX8_state_i tvX8_state_s tw_387 kcX8 rfl hx0 [.int 2] [] rfl rfl (Nat.le_of_ble_eq_true rfl) (Nat.le_of_ble_eq_true rfl) (Nat.le_of_ble_eq_true rfl) (stk' := [.int r_18]) rfl dL_kept_54 rfl ?_
      refine J.iload_n (pc := 57) C dL_kept_57 rfl 3 rfl ?_
      refine J.icmp_ne (pc := 58) C (tgt := 96) dL_kept_58 (by decide) hf (fun hf => ?_) (fun hf => ?_)
      · refine J.iconst (pc := 96) C (v := 0) dL_kept_96 (by decide) ?_
        exact J.zretM (pc := 97) C rfl hR ((Option.some.inj hf).trans hp) dL_kept_97
      · refine J.aload_n (pc := 61) C dL_kept_61 rfl 5 rfl ?_
        refine J.iconst (pc := 62) C (v := 3) dL_kept_62 (by decide) ?_
        obtain ⟨r_20, h_19, hf⟩ := bnd_some hf
        refine J.callV (pc := 63) C (m_X8_state h_19) hx0 wyX8_state tvX8_state_i tvX8_state_s tw_387 kcX8 rfl hx0 [.int 3] [] rfl rfl (Nat.le_of_ble_eq_true rfl) (Nat.le_of_ble_eq_true rfl) (Nat.le_of_ble_eq_true rfl) (stk' := [.int r_20]) rfl dL_kept_63 rfl ?_
        refine J.iload (pc := 66) C dL_kept_66 2 rfl ?_
        refine J.icmp_ne (pc := 68) C (tgt := 96) dL_kept_68 (by decide) hf (fun hf => ?_) (fun hf => ?_)
        · refine J.iconst (pc := 96) C (v := 0) dL_kept_96 (by decide) ?_
          exact J.zretM (pc := 97) C rfl hR ((Option.some.inj hf).trans hp) dL_kept_97
        · refine J.aload_n (pc := 71) C dL_kept_71 rfl 5 rfl ?_
          refine J.iconst (pc := 72) C (v := 4) dL_kept_72 (by decide) ?_
          obtain ⟨r_22, h_21, hf⟩ := bnd_some hf
          refine J.callV (pc := 73) C (m_X8_state h_21) hx0 wyX8_state tvX8_state_i tvX8_state_s tw_387 kcX8 rfl hx0 [.int 4] [] rfl rfl (Nat.le_of_ble_eq_true rfl) (Nat.le_of_ble_eq_true rfl) (Nat.le_of_ble_eq_true rfl) (stk' := [.int r_22]) rfl dL_kept_73 rfl ?_
          refine J.if_ne (pc := 76) C (tgt := 96) dL_kept_76 (by decide) hf (fun hf => ?_) (fun hf => ?_)
          · refine J.iconst (pc := 96) C (v := 0) dL_kept_96 (by decide) ?_
            exact J.zretM (pc := 97) C rfl hR ((Option.some.inj hf).trans hp) dL_kept_97
          · refine J.aload_n (pc := 79) C dL_kept_79 rfl 5 rfl ?_
            refine J.iconst (pc := 80) C (v := 5) dL_kept_80 (by decide) ?_
            obtain ⟨r_24, h_23, hf⟩ := bnd_some hf
            refine J.callV (pc := 81) C (m_X8_state h_23) hx0 wyX8_state tvX8_state_i tvX8_state_s tw_387 kcX8 rfl hx0 [.int 5] [] rfl rfl (Nat.le_of_ble_eq_true rfl) (Nat.le_of_ble_eq_true rfl) (Nat.le_of_ble_eq_true rfl) (stk' := [.int r_24]) rfl dL_kept_81 rfl ?_
            refine J.if_ne (pc := 84) C (tgt := 96) dL_kept_84 (by decide) hf (fun hf => ?_) (fun hf => ?_)
            · refine J.iconst (pc := 96) C (v := 0) dL_kept_96 (by decide) ?_
              exact J.zretM (pc := 97) C rfl hR ((Option.some.inj hf).trans hp) dL_kept_97
            · refine J.aload_n (pc := 87) C dL_kept_87 rfl 5 rfl ?_
              refine J.bipush (pc := 88) C (v := 7) dL_kept_88 (by decide) ?_
              obtain ⟨r_26, h_25, hf⟩ := bnd_some hf
              refine J.callV (pc := 90) C (m_X8_state h_25) hx0 wyX8_state tvX8_state_i tvX8_state_s tw_387 kcX8 rfl hx0 [.int 7] [] rfl rfl (Nat.le_of_ble_eq_true rfl) (Nat.le_of_ble_eq_true rfl) (Nat.le_of_ble_eq_true rfl) (stk' := [.int r_26]) rfl dL_kept_90 rfl ?_
              refine J.if_eq (pc := 93) C (tgt := 98) dL_kept_93 (by decide) hf (fun hf => ?_) (fun hf => ?_)
              · refine J.iconst (pc := 98) C (v := 0) dL_kept_98 (by decide) ?_
                refine J.istore (pc := 99) C (loc' := [(7, .int 0), (6, .int r_11), (5, .int r_9), (4, .int r_7), (3, .int r_5), (2, .int r_2), (0, .ref (Xad X x0)), (1, .int x1)]) dL_kept_99 (by decide) rfl ?_
                exact J.sub (loc' := [(0, .ref (Xad X x0)), (1, .int x1), (2, .int r_2), (3, .int r_5), (4, .int r_7), (5, .int r_9), (6, .int r_11), (7, .int 0)]) [6, 7, 5, 4, 3, 2, 1, 0] rfl (L101 σ_14 x1 r_2 r_5 r_7 r_9 r_11 0 _ hf hp)
              · refine J.iconst (pc := 96) C (v := 0) dL_kept_96 (by decide) ?_
                exact J.zretM (pc := 97) C rfl hR ((Option.some.inj hf).trans hp) dL_kept_97
