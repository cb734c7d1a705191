set_option maxHeartbeats 4000000 in
set_option maxRecDepth 100000 in
theorem m_L_up {l : Launch} {x0 : Int32} {x1 : Int32} {σ : Mem} {t0 : Int32} (hf : f_L_up x0 x1 = some t0) : Ct l yL_up cL_up 2 (some FieldType.int) 0 0 (fun _ => True) (fun _ => [.int x0, .int x1]) σ (fun _ => some (.int t0)) σ := by
  refine Ct.of (plainFor_of_name (by decide)) (fun _ => Nat.le_of_ble_eq_true rfl) ?_
  intro X C _ _ hcl hR
  have C : Cx X RL cL_up 2 (some FieldType.int) 0 0 := C
  have hp : t0 = t0 := rfl
  show J X 0 [(0, .int x0), (1, .int x1)] [] σ
  unfold f_L_up at hf
  refine J.iload_n (pc := 0) C dL_up_0 rfl 0 rfl ?_
  refine J.ldc (pc := 1) C (v := 2147483647) dL_up_1 tw_380 ?_
  refine J.iand (pc := 3) C dL_up_3 ?_
  refine J.iload_n (pc := 4) C dL_up_4 rfl 1 rfl ?_
  obtain ⟨hne, hf⟩ := chk_some hf
  refine J.iremM (pc := 5) C dL_up_5 (of_decide_eq_true hne) ?_
  exact J.iretP (pc := 6) C hR ((Option.some.inj hf).trans hp) dL_up_6
set_option maxHeartbeats 4000000 in
set_option maxRecDepth 100000 in
theorem m_L_wind {l : Launch} {n : Nat} {w : Nat} {σ : Mem} {x0 : Nat} {x1 : Int32} {x2 : Int32} {t0 : Int32} (hf : f_L_wind n w σ x0 x1 x2 = some t0) : Ct l yL_wind cL_wind 6 (some FieldType.boolean) 2 44 (fun ks => Ok ks x0 8) (fun ad => [.ref (ad x0), .int x1, .int x2]) σ (fun _ => some (.int t0)) σ := by
  refine Ct.of (plainFor_of_name (by decide)) (fun _ => Nat.le_of_ble_eq_true rfl) ?_
  intro X C _ hx0 hcl hR
  have C : Cx X RL cL_wind 6 (some FieldType.boolean) 2 44 := C
  have L211 : ∀ (t : Int32), f_L_wind_L211 n w σ x0 = some t → t = t0 → J X 211 [] [] σ := by
    intro t hf hp
    unfold f_L_wind_L211 at hf
    refine J.iconst (pc := 211) C (v := 1) dL_wind_211 (by decide) ?_
    refine J.goto (pc := 212) C (tgt := 216) dL_wind_212 (by decide) ?_
    exact J.zretP (pc := 216) C rfl hR ((Option.some.inj hf).trans hp) dL_wind_216
  have L197 : ∀ (x5 : Int32) (t : Int32), f_L_wind_L197 n w σ x0 x5 = some t → t = t0 → J X 197 [(0, .ref (Xad X x0)), (5, .int x5)] [] σ := by
    intro x5 t hf hp
    unfold f_L_wind_L197 at hf
    refine J.aload_n (pc := 197) C dL_wind_197 rfl 0 rfl ?_
    refine J.bipush (pc := 198) C (v := 6) dL_wind_198 (by decide) ?_
    obtain ⟨r_16, h_15, hf⟩ := bnd_some hf
    refine J.callV (pc := 200) C (m_X8_state h_15) hx0 wyX8_state tvX8_state_i tvX8_state_s tw_387 kcX8 rfl hx0 [.int 6] [] rfl rfl (Nat.le_of_ble_eq_true rfl) (Nat.le_of_ble_eq_true rfl) (Nat.le_of_ble_eq_true rfl) (stk' := [.int r_16]) rfl dL_wind_200 rfl ?_
    refine J.if_eq (pc := 203) C (tgt := 211) dL_wind_203 (by decide) hf (fun hf => ?_) (fun hf => ?_)
    · exact J.sub (loc' := []) [] rfl (L211  _ hf hp)
    · refine J.iload (pc := 206) C dL_wind_206 1 rfl ?_
      refine J.if_le (pc := 208) C (tgt := 215) dL_wind_208 (by decide) hf (fun hf => ?_) (fun hf => ?_)
      · refine J.iconst (pc := 215) C (v := 0) dL_wind_215 (by decide) ?_
        exact J.zretP (pc := 216) C rfl hR ((Option.some.inj hf).trans hp) dL_wind_216
      · exact J.sub (loc' := []) [] rfl (L211  _ hf hp)
  have L175 : ∀ (x1 : Int32) (x3 : Int32) (x5 : Int32) (y0 : Int32) (y1 : Int32) (t : Int32), f_L_wind_L175 n w σ x0 x1 x3 x5 y0 y1 = some t → t = t0 → J X 175 [(0, .ref (Xad X x0)), (1, .int x1), (3, .int x3), (5, .int x5)] [.int y0, .int y1] σ := by
    intro x1 x3 x5 y0 y1 t hf hp
    unfold f_L_wind_L175 at hf
    refine J.icmp_ge (pc := 175) C (tgt := 215) dL_wind_175 (by decide) hf (fun hf => ?_) (fun hf => ?_)
    · refine J.iconst (pc := 215) C (v := 0) dL_wind_215 (by decide) ?_
      exact J.zretP (pc := 216) C rfl hR ((Option.some.inj hf).trans hp) dL_wind_216
    · refine J.iload (pc := 178) C dL_wind_178 3 rfl ?_
      refine J.if_gt (pc := 180) C (tgt := 197) dL_wind_180 (by decide) hf (fun hf => ?_) (fun hf => ?_)
      · exact J.sub (loc' := [(0, .ref (Xad X x0)), (5, .int x5)]) [0, 3] rfl (L197 x5 _ hf hp)
      · refine J.iload_n (pc := 183) C dL_wind_183 rfl 1 rfl ?_
        refine J.if_gt (pc := 184) C (tgt := 197) dL_wind_184 (by decide) hf (fun hf => ?_) (fun hf => ?_)
        · exact J.sub (loc' := [(0, .ref (Xad X x0)), (5, .int x5)]) [0, 3] rfl (L197 x5 _ hf hp)
        · refine J.iload_n (pc := 187) C dL_wind_187 rfl 2 rfl ?_
          refine J.aload_n (pc := 188) C dL_wind_188 rfl 0 rfl ?_
          refine J.bipush (pc := 189) C (v := 11) dL_wind_189 (by decide) ?_
          obtain ⟨r_18, h_17, hf⟩ := bnd_some hf
          refine J.callV (pc := 191) C (m_X8_state h_17) hx0 wyX8_state tvX8_state_i tvX8_state_s tw_387 kcX8 rfl hx0 [.int 11] [.int x3] rfl rfl (Nat.le_of_ble_eq_true rfl) (Nat.le_of_ble_eq_true rfl) (Nat.le_of_ble_eq_true rfl) (stk' := [.int r_18, .int x3]) rfl dL_wind_191 rfl ?_
          refine J.icmp_ge (pc := 194) C (tgt := 215) dL_wind_194 (by decide) hf (fun hf => ?_) (fun hf => ?_)
          · refine J.iconst (pc := 215) C (v := 0) dL_wind_215 (by decide) ?_
            exact J.zretP (pc := 216) C rfl hR ((Option.some.inj hf).trans hp) dL_wind_216
          · exact J.sub (loc' := [(0, .ref (Xad X x0)), (5, .int x5)]) [0, 3] rfl (L197 x5 _ hf hp)
  have L79 : ∀ (x1 : Int32) (x3 : Int32) (x5 : Int32) (t : Int32), f_L_wind_L79 n w σ x0 x1 x3 x5 = some t → t = t0 → J X 79 [(0, .ref (Xad X x0)), (1, .int x1), (3, .int x3), (5, .int x5)] [] σ := by
    intro x1 x3 x5 t hf hp
    unfold f_L_wind_L79 at hf
    refine J.iload_n (pc := 79) C dL_wind_79 rfl 2 rfl ?_
    refine J.aload_n (pc := 80) C dL_wind_80 rfl 0 rfl ?_
    refine J.bipush (pc := 81) C (v := 12) dL_wind_81 (by decide) ?_
    obtain ⟨r_8, h_7, hf⟩ := bnd_some hf
    refine J.callV (pc := 83) C (m_X8_state h_7) hx0 wyX8_state tvX8_state_i tvX8_state_s tw_387 kcX8 rfl hx0 [.int 12] [.int x3] rfl rfl (Nat.le_of_ble_eq_true rfl) (Nat.le_of_ble_eq_true rfl) (Nat.le_of_ble_eq_true rfl) (stk' := [.int r_8, .int x3]) rfl dL_wind_83 rfl ?_
    refine J.icmp_lt (pc := 86) C (tgt := 110) dL_wind_86 (by decide) hf (fun hf => ?_) (fun hf => ?_)
    · refine J.iload (pc := 110) C dL_wind_110 3 rfl ?_
      refine J.iload_n (pc := 112) C dL_wind_112 rfl 1 rfl ?_
      refine J.icmp_le (pc := 113) C (tgt := 142) dL_wind_113 (by decide) hf (fun hf => ?_) (fun hf => ?_)
      · refine J.iload (pc := 142) C dL_wind_142 3 rfl ?_
        refine J.iload_n (pc := 144) C dL_wind_144 rfl 1 rfl ?_
        refine J.iconst (pc := 145) C (v := 1) dL_wind_145 (by decide) ?_
        refine J.isub (pc := 146) C dL_wind_146 ?_
        refine J.icmp_lt (pc := 147) C (tgt := 215) dL_wind_147 (by decide) hf (fun hf => ?_) (fun hf => ?_)
        · refine J.iconst (pc := 215) C (v := 0) dL_wind_215 (by decide) ?_
          exact J.zretP (pc := 216) C rfl hR ((Option.some.inj hf).trans hp) dL_wind_216
        · refine J.aload_n (pc := 150) C dL_wind_150 rfl 0 rfl ?_
          refine J.bipush (pc := 151) C (v := 6) dL_wind_151 (by decide) ?_
          obtain ⟨r_10, h_9, hf⟩ := bnd_some hf
          refine J.callV (pc := 153) C (m_X8_state h_9) hx0 wyX8_state tvX8_state_i tvX8_state_s tw_387 kcX8 rfl hx0 [.int 6] [] rfl rfl (Nat.le_of_ble_eq_true rfl) (Nat.le_of_ble_eq_true rfl) (Nat.le_of_ble_eq_true rfl) (stk' := [.int r_10]) rfl dL_wind_153 rfl ?_
          refine J.aload_n (pc := 156) C dL_wind_156 rfl 0 rfl ?_
          refine J.bipush (pc := 157) C (v := 14) dL_wind_157 (by decide) ?_
          obtain ⟨r_12, h_11, hf⟩ := bnd_some hf
          refine J.callV (pc := 159) C (m_X8_state h_11) hx0 wyX8_state tvX8_state_i tvX8_state_s tw_387 kcX8 rfl hx0 [.int 14] [.int r_10] rfl rfl (Nat.le_of_ble_eq_true rfl) (Nat.le_of_ble_eq_true rfl) (Nat.le_of_ble_eq_true rfl) (stk' := [.int r_12, .int r_10]) rfl dL_wind_159 rfl ?_
          refine J.if_ne (pc := 162) C (tgt := 169) dL_wind_162 (by decide) hf (fun hf => ?_) (fun hf => ?_)
          · refine J.aload_n (pc := 169) C dL_wind_169 rfl 0 rfl ?_
            refine J.bipush (pc := 170) C (v := 14) dL_wind_170 (by decide) ?_
            obtain ⟨r_14, h_13, hf⟩ := bnd_some hf
            refine J.callV (pc := 172) C (m_X8_state h_13) hx0 wyX8_state tvX8_state_i tvX8_state_s tw_387 kcX8 rfl hx0 [.int 14] [.int r_10] rfl rfl (Nat.le_of_ble_eq_true rfl) (Nat.le_of_ble_eq_true rfl) (Nat.le_of_ble_eq_true rfl) (stk' := [.int r_14, .int r_10]) rfl dL_wind_172 rfl ?_
            exact J.sub (loc' := [(0, .ref (Xad X x0)), (1, .int x1), (3, .int x3), (5, .int x5)]) [0, 1, 2, 3] rfl (L175 x1 x3 x5 r_14 r_10 _ hf hp)
          · refine J.iconst (pc := 165) C (v := 1) dL_wind_165 (by decide) ?_
            refine J.goto (pc := 166) C (tgt := 175) dL_wind_166 (by decide) ?_
            exact J.sub (loc' := [(0, .ref (Xad X x0)), (1, .int x1), (3, .int x3), (5, .int x5)]) [0, 1, 2, 3] rfl (L175 x1 x3 x5 1 r_10 _ hf hp)
      · refine J.iload_n (pc := 116) C dL_wind_116 rfl 1 rfl ?_
        refine J.if_ne (pc := 117) C (tgt := 140) dL_wind_117 (by decide) hf (fun hf => ?_) (fun hf => ?_)
        · refine J.iconst (pc := 140) C (v := 0) dL_wind_140 (by decide) ?_
          exact J.zretP (pc := 141) C rfl hR ((Option.some.inj hf).trans hp) dL_wind_141
        · refine J.iload (pc := 120) C dL_wind_120 3 rfl ?_
          refine J.iconst (pc := 122) C (v := 1) dL_wind_122 (by decide) ?_
          refine J.icmp_ne (pc := 123) C (tgt := 140) dL_wind_123 (by decide) hf (fun hf => ?_) (fun hf => ?_)
          · refine J.iconst (pc := 140) C (v := 0) dL_wind_140 (by decide) ?_
            exact J.zretP (pc := 141) C rfl hR ((Option.some.inj hf).trans hp) dL_wind_141
          · refine J.iload_n (pc := 126) C dL_wind_126 rfl 2 rfl ?_
            refine J.aload_n (pc := 127) C dL_wind_127 rfl 0 rfl ?_
            refine J.bipush (pc := 128) C (v := 11) dL_wind_128 (by decide) ?_
            obtain ⟨r_20, h_19, hf⟩ := bnd_some hf
            refine J.callV (pc := 130) C (m_X8_state h_19) hx0 wyX8_state tvX8_state_i tvX8_state_s tw_387 kcX8 rfl hx0 [.int 11] [.int x3] rfl rfl (Nat.le_of_ble_eq_true rfl) (Nat.le_of_ble_eq_true rfl) (Nat.le_of_ble_eq_true rfl) (stk' := [.int r_20, .int x3]) rfl dL_wind_130 rfl ?_
            refine J.icmp_lt (pc := 133) C (tgt := 140) dL_wind_133 (by decide) hf (fun hf => ?_) (fun hf => ?_)
            · refine J.iconst (pc := 140) C (v := 0) dL_wind_140 (by decide) ?_
              exact J.zretP (pc := 141) C rfl hR ((Option.some.inj hf).trans hp) dL_wind_141
            · refine J.iconst (pc := 136) C (v := 1) dL_wind_136 (by decide) ?_
              refine J.goto (pc := 137) C (tgt := 141) dL_wind_137 (by decide) ?_
              exact J.zretP (pc := 141) C rfl hR ((Option.some.inj hf).trans hp) dL_wind_141
    · refine J.iload (pc := 89) C dL_wind_89 3 rfl ?_
      refine J.iconst (pc := 91) C (v := 2) dL_wind_91 (by decide) ?_
      refine J.icmp_ne (pc := 92) C (tgt := 108) dL_wind_92 (by decide) hf (fun hf => ?_) (fun hf => ?_)
      · refine J.iconst (pc := 108) C (v := 0) dL_wind_108 (by decide) ?_
        exact J.zretP (pc := 109) C rfl hR ((Option.some.inj hf).trans hp) dL_wind_109
      · refine J.aload_n (pc := 95) C dL_wind_95 rfl 0 rfl ?_
        refine J.bipush (pc := 96) C (v := 6) dL_wind_96 (by decide) ?_
        obtain ⟨r_22, h_21, hf⟩ := bnd_some hf
        refine J.callV (pc := 98) C (m_X8_state h_21) hx0 wyX8_state tvX8_state_i tvX8_state_s tw_387 kcX8 rfl hx0 [.int 6] [] rfl rfl (Nat.le_of_ble_eq_true rfl) (Nat.le_of_ble_eq_true rfl) (Nat.le_of_ble_eq_true rfl) (stk' := [.int r_22]) rfl dL_wind_98 rfl ?_
        refine J.if_ne (pc := 101) C (tgt := 108) dL_wind_101 (by decide) hf (fun hf => ?_) (fun hf => ?_)
        · refine J.iconst (pc := 108) C (v := 0) dL_wind_108 (by decide) ?_
          exact J.zretP (pc := 109) C rfl hR ((Option.some.inj hf).trans hp) dL_wind_109
        · refine J.iconst (pc := 104) C (v := 1) dL_wind_104 (by decide) ?_
          refine J.goto (pc := 105) C (tgt := 109) dL_wind_105 (by decide) ?_
          exact J.zretP (pc := 109) C rfl hR ((Option.some.inj hf).trans hp) dL_wind_109
  have L64 : ∀ (x1 : Int32) (x2 : Int32) (x3 : Int32) (x4 : Int32) (x5 : Int32) (t : Int32), f_L_wind_L64 n w σ x0 x1 x2 x3 x4 x5 = some t → t = t0 → J X 64 [(0, .ref (Xad X x0)), (1, .int x1), (2, .int x2), (3, .int x3), (4, .int x4), (5, .int x5)] [] σ := by
    intro x1 x2 x3 x4 x5 t hf hp
    unfold f_L_wind_L64 at hf
    refine J.iload_n (pc := 64) C dL_wind_64 rfl 3 rfl ?_
    refine J.iload (pc := 65) C dL_wind_65 4 rfl ?_
    refine J.iconst (pc := 67) C (v := 1) dL_wind_67 (by decide) ?_
    refine J.isub (pc := 68) C dL_wind_68 ?_
    refine J.icmp_ge (pc := 69) C (tgt := 79) dL_wind_69 (by decide) hf (fun hf => ?_) (fun hf => ?_)
    · exact J.sub (loc' := [(0, .ref (Xad X x0)), (1, .int x1), (3, .int x3), (5, .int x5)]) [0, 1, 3, 5] rfl (L79 x1 x3 x5 _ hf hp)
    · refine J.iload_n (pc := 72) C dL_wind_72 rfl 3 rfl ?_
      refine J.iload_n (pc := 73) C dL_wind_73 rfl 2 rfl ?_
      refine J.icmp_ge (pc := 74) C (tgt := 79) dL_wind_74 (by decide) hf (fun hf => ?_) (fun hf => ?_)
      · exact J.sub (loc' := [(0, .ref (Xad X x0)), (1, .int x1), (3, .int x3), (5, .int x5)]) [0, 1, 3, 5] rfl (L79 x1 x3 x5 _ hf hp)
      · refine J.iconst (pc := 77) C (v := 0) dL_wind_77 (by decide) ?_
        exact J.zretP (pc := 78) C rfl hR ((Option.some.inj hf).trans hp) dL_wind_78
  have L53 : ∀ (x1 : Int32) (x2 : Int32) (x3 : Int32) (x4 : Int32) (x5 : Int32) (t : Int32), f_L_wind_L53 n w σ x0 x1 x2 x3 x4 x5 = some t → t = t0 → J X 53 [(0, .ref (Xad X x0)), (1, .int x1), (2, .int x2), (3, .int x3), (4, .int x4), (5, .int x5)] [] σ := by
    intro x1 x2 x3 x4 x5 t hf hp
    unfold f_L_wind_L53 at hf
    refine J.iload_n (pc := 53) C dL_wind_53 rfl 3 rfl ?_
    refine J.iload (pc := 54) C dL_wind_54 4 rfl ?_
    refine J.icmp_le (pc := 56) C (tgt := 64) dL_wind_56 (by decide) hf (fun hf => ?_) (fun hf => ?_)
    · exact J.sub (loc' := [(0, .ref (Xad X x0)), (1, .int x1), (2, .int x2), (3, .int x3), (4, .int x4), (5, .int x5)]) [0, 1, 2, 3, 4, 5] rfl (L64 x1 x2 x3 x4 x5 _ hf hp)
    · refine J.iload_n (pc := 59) C dL_wind_59 rfl 3 rfl ?_
      refine J.iload_n (pc := 60) C dL_wind_60 rfl 2 rfl ?_
      refine J.icmp_gt (pc := 61) C (tgt := 77) dL_wind_61 (by decide) hf (fun hf => ?_) (fun hf => ?_)
      · refine J.iconst (pc := 77) C (v := 0) dL_wind_77 (by decide) ?_
        exact J.zretP (pc := 78) C rfl hR ((Option.some.inj hf).trans hp) dL_wind_78
      · exact J.sub (loc' := [(0, .ref (Xad X x0)), (1, .int x1), (2, .int x2), (3, .int x3), (4, .int x4), (5, .int x5)]) [0, 1, 2, 3, 4, 5] rfl (L64 x1 x2 x3 x4 x5 _ hf hp)
  have L42 : ∀ (x1 : Int32) (x2 : Int32) (x3 : Int32) (x4 : Int32) (x5 : Int32) (t : Int32), f_L_wind_L42 n w σ x0 x1 x2 x3 x4 x5 = some t → t = t0 → J X 42 [(0, .ref (Xad X x0)), (1, .int x1), (2, .int x2), (3, .int x3), (4, .int x4), (5, .int x5)] [] σ := by
    intro x1 x2 x3 x4 x5 t hf hp
    unfold f_L_wind_L42 at hf
    refine J.iload (pc := 42) C dL_wind_42 4 rfl ?_
    refine J.iload_n (pc := 44) C dL_wind_44 rfl 2 rfl ?_
    refine J.icmp_gt (pc := 45) C (tgt := 53) dL_wind_45 (by decide) hf (fun hf => ?_) (fun hf => ?_)
    · exact J.sub (loc' := [(0, .ref (Xad X x0)), (1, .int x1), (2, .int x2), (3, .int x3), (4, .int x4), (5, .int x5)]) [0, 1, 2, 3, 4, 5] rfl (L53 x1 x2 x3 x4 x5 _ hf hp)
    · refine J.iload_n (pc := 48) C dL_wind_48 rfl 3 rfl ?_
      refine J.iload_n (pc := 49) C dL_wind_49 rfl 2 rfl ?_
      refine J.icmp_gt (pc := 50) C (tgt := 77) dL_wind_50 (by decide) hf (fun hf => ?_) (fun hf => ?_)
      · refine J.iconst (pc := 77) C (v := 0) dL_wind_77 (by decide) ?_
        exact J.zretP (pc := 78) C rfl hR ((Option.some.inj hf).trans hp) dL_wind_78
      · exact J.sub (loc' := [(0, .ref (Xad X x0)), (1, .int x1), (2, .int x2), (3, .int x3), (4, .int x4), (5, .int x5)]) [0, 1, 2, 3, 4, 5] rfl (L53 x1 x2 x3 x4 x5 _ hf hp)
  have hp : t0 = t0 := rfl
  show J X 0 [(0, .ref (Xad X x0)), (1, .int x1), (2, .int x2)] [] σ
  unfold f_L_wind at hf
  refine J.aload_n (pc := 0) C dL_wind_0 rfl 0 rfl ?_
  refine J.iconst (pc := 1) C (v := 4) dL_wind_1 (by decide) ?_
  obtain ⟨r_2, h_1, hf⟩ := bnd_some hf
  refine J.callV (pc := 2) C (m_X8_state h_1) hx0 wyX8_state tvX8_state_i tvX8_state_s tw_387 kcX8 rfl hx0 [.int 4] [] rfl rfl (Nat.le_of_ble_eq_true rfl) (Nat.le_of_ble_eq_true rfl) (Nat.le_of_ble_eq_true rfl) (stk' := [.int r_2]) rfl dL_wind_2 rfl ?_
  refine J.istore_n (pc := 5) C (loc' := [(3, .int r_2), (0, .ref (Xad X x0)), (1, .int x1), (2, .int x2)]) dL_wind_5 rfl (by decide) rfl ?_
  refine J.aload_n (pc := 6) C dL_wind_6 rfl 1 rfl ?_
  refine J.iconst (pc := 7) C (v := 3) dL_wind_7 (by decide) ?_
  obtain ⟨r_4, h_3, hf⟩ := bnd_some hf
  refine J.callV (pc := 8) C (m_X8_state h_3) hx0 wyX8_state tvX8_state_i tvX8_state_s tw_387 kcX8 rfl hx0 [.int 3] [] rfl rfl (Nat.le_of_ble_eq_true rfl) (Nat.le_of_ble_eq_true rfl) (Nat.le_of_ble_eq_true rfl) (stk' := [.int r_4]) rfl dL_wind_8 rfl ?_
  refine J.istore (pc := 11) C (loc' := [(4, .int r_4), (3, .int r_2), (0, .ref (Xad X x0)), (1, .int x1), (2, .int x2)]) dL_wind_11 (by decide) rfl ?_
  refine J.aload_n (pc := 13) C dL_wind_13 rfl 2 rfl ?_
  refine J.iconst (pc := 14) C (v := 5) dL_wind_14 (by decide) ?_
  obtain ⟨r_6, h_5, hf⟩ := bnd_some hf
  refine J.callV (pc := 15) C (m_X8_state h_5) hx0 wyX8_state tvX8_state_i tvX8_state_s tw_387 kcX8 rfl hx0 [.int 5] [] rfl rfl (Nat.le_of_ble_eq_true rfl) (Nat.le_of_ble_eq_true rfl) (Nat.le_of_ble_eq_true rfl) (stk' := [.int r_6]) rfl dL_wind_15 rfl ?_
  refine J.istore (pc := 18) C (loc' := [(5, .int r_6), (4, .int r_4), (3, .int r_2), (0, .ref (Xad X x0)), (1, .int x1), (2, .int x2)]) dL_wind_18 (by decide) rfl ?_
  refine J.iload_n (pc := 20) C dL_wind_20 rfl 2 rfl ?_
  refine J.if_lt (pc := 21) C (tgt := 77) dL_wind_21 (by decide) hf (fun hf => ?_) (fun hf => ?_)
  · refine J.iconst (pc := 77) C (v := 0) dL_wind_77 (by decide) ?_
    exact J.zretP (pc := 78) C rfl hR ((Option.some.inj hf).trans hp) dL_wind_78
  · refine J.iload_n (pc := 24) C dL_wind_24 rfl 2 rfl ?_
    refine J.sipush (pc := 25) C (v := 300) dL_wind_25 (by decide) ?_
    refine J.icmp_gt (pc := 28) C (tgt := 77) dL_wind_28 (by decide) hf (fun hf => ?_) (fun hf => ?_)
    · refine J.iconst (pc := 77) C (v := 0) dL_wind_77 (by decide) ?_
      exact J.zretP (pc := 78) C rfl hR ((Option.some.inj hf).trans hp) dL_wind_78
    · refine J.iload (pc := 31) C dL_wind_31 1 rfl ?_
      refine J.iload_n (pc := 33) C dL_wind_33 rfl 5 rfl ?_
      refine J.icmp_lt (pc := 34) C (tgt := 42) dL_wind_34 (by decide) hf (fun hf => ?_) (fun hf => ?_)
      · exact J.sub (loc' := [(0, .ref (Xad X x0)), (1, .int x1), (2, .int x2), (3, .int r_2), (4, .int r_4), (5, .int r_6)]) [3, 4, 5, 2, 1, 0] rfl (L42 x1 x2 r_2 r_4 r_6 _ hf hp)
      · refine J.iload_n (pc := 37) C dL_wind_37 rfl 2 rfl ?_
        refine J.iload_n (pc := 38) C dL_wind_38 rfl 5 rfl ?_
        refine J.icmp_lt (pc := 39) C (tgt := 77) dL_wind_39 (by decide) hf (fun hf => ?_) (fun hf => ?_)
        · refine J.iconst (pc := 77) C (v := 0) dL_wind_77 (by decide) ?_
          exact J.zretP (pc := 78) C rfl hR ((Option.some.inj hf).trans hp) dL_wind_78
        · exact J.sub (loc' := [(0, .ref (Xad X x0)), (1, .int x1), (2, .int x2), (3, .int r_2), (4, .int r_4), (5, .int r_6)]) [3, 4, 5, 2, 1, 0] rfl (L42 x1 x2 r_2 r_4 r_6 _ hf hp)
set_option maxHeartbeats 4000000 in
set_option maxRecDepth 100000 in
theorem m_L_ordered {l : Launch} {n : Nat} {w : Nat} {σ : Mem} {x0 : Nat} {t0 : Int32} (hf : f_L_ordered n w σ x0 = some t0) : Ct l yL_ordered cL_ordered 4 (some FieldType.boolean) 3 65 (fun ks => Ok ks x0 8) (fun ad => [.ref (ad x0)]) σ (fun _ => some (.int t0)) σ := by
  refine Ct.of (plainFor_of_name (by decide)) (fun _ => Nat.le_of_ble_eq_true rfl) ?_
  intro X C _ hx0 hcl hR
  have C : Cx X RL cL_ordered 4 (some FieldType.boolean) 3 65 := C
  have L44 : ∀ (x1 : Int32) (x2 : Int32) (x3 : Int32) (t : (Int32 ⊕ (Int32 × Int32))), f_L_ordered_L44 n w σ x0 x1 x2 x3 = some t → ((∀ r1, t = .inl r1 → r1 = t0) ∧ (∀ s1, t = .inr s1 → J X 17 [(0, .ref (Xad X x0)), (1, .int x1), (2, .int (s1.1)), (3, .int (s1.2))] [] σ)) → J X 44 [(0, .ref (Xad X x0)), (1, .int x1), (2, .int x2), (3, .int x3)] [] σ := by
    intro x1 x2 x3 t hf hp
    unfold f_L_ordered_L44 at hf
    refine J.aload_n (pc := 44) C dL_ordered_44 rfl 0 rfl ?_
    refine J.iload_n (pc := 45) C dL_ordered_45 rfl 3 rfl ?_
    refine J.iconst (pc := 46) C (v := 0) dL_ordered_46 (by decide) ?_
    obtain ⟨r_9, h_8, hf⟩ := bnd_some hf
    refine J.callV (pc := 47) C (m_X8_part h_8) hx0 wyX8_part tvX8_part_i tvX8_part_s tw_537 kcX8 rfl hx0 [.int x3, .int 0] [] rfl rfl (Nat.le_of_ble_eq_true rfl) (Nat.le_of_ble_eq_true rfl) (Nat.le_of_ble_eq_true rfl) (stk' := [.int r_9]) rfl dL_ordered_47 rfl ?_
    refine J.iload_n (pc := 50) C dL_ordered_50 rfl 1 rfl ?_
    refine J.icmp_lt (pc := 51) C (tgt := 58) dL_ordered_51 (by decide) hf (fun hf => ?_) (fun hf => ?_)
    · refine J.iload_n (pc := 58) C dL_ordered_58 rfl 2 rfl ?_
      refine J.istore_n (pc := 59) C (loc' := [(2, .int x2), (0, .ref (Xad X x0)), (1, .int x1), (3, .int x3)]) dL_ordered_59 rfl (by decide) rfl ?_
      obtain ⟨x3_10, hx_x3_10, hf⟩ := nm_some hf
      refine J.iinc (pc := 60) C (v := x3_10) (loc' := [(3, .int x3_10), (2, .int x2), (0, .ref (Xad X x0)), (1, .int x1)]) dL_ordered_60 (k := 3) rfl (by rw [hx_x3_10]; rfl) (by decide) rfl ?_
      refine J.goto (pc := 63) C (tgt := 17) dL_ordered_63 (by decide) ?_
      exact J.sub (loc' := [(0, .ref (Xad X x0)), (1, .int x1), (2, .int x2), (3, .int x3_10)]) [2, 3, 1, 0] rfl (hp.2 _ (Option.some.inj hf).symm)
    · refine J.iload_n (pc := 54) C dL_ordered_54 rfl 3 rfl ?_
      refine J.goto (pc := 55) C (tgt := 59) dL_ordered_55 (by decide) ?_
      refine J.istore_n (pc := 59) C (loc' := [(2, .int x3), (0, .ref (Xad X x0)), (1, .int x1), (3, .int x3)]) dL_ordered_59 rfl (by decide) rfl ?_
      obtain ⟨x3_11, hx_x3_11, hf⟩ := nm_some hf
      refine J.iinc (pc := 60) C (v := x3_11) (loc' := [(3, .int x3_11), (2, .int x3), (0, .ref (Xad X x0)), (1, .int x1)]) dL_ordered_60 (k := 3) rfl (by rw [hx_x3_11]; rfl) (by decide) rfl ?_
      refine J.goto (pc := 63) C (tgt := 17) dL_ordered_63 (by decide) ?_
      exact J.sub (loc' := [(0, .ref (Xad X x0)), (1, .int x1), (2, .int x3), (3, .int x3_11)]) [2, 3, 1, 0] rfl (hp.2 _ (Option.some.inj hf).symm)
  have L17 : ∀ (x1 : Int32) (x2 : Int32) (x3 : Int32) (t : Int32), f_L_ordered_L17 n w σ x0 x1 x2 x3 = some t → t = t0 → J X 17 [(0, .ref (Xad X x0)), (1, .int x1), (2, .int x2), (3, .int x3)] [] σ := by
    intro x1 x2 x3 t hf hp
    unfold f_L_ordered_L17 at hf
    refine J_iter (JJ := fun (s : Int32 × Int32) => J X 17 [(0, .ref (Xad X x0)), (1, .int x1), (2, .int (s.1)), (3, .int (s.2))] [] σ) (Ps := fun t => t = t0) ?_ w (x2, x3) t hf hp
    clear hf hp
    intro s t hf hp hq
    obtain ⟨x2, x3⟩ := s
    have hp := And.intro hp hq
    clear hq
    have hf : f_L_ordered_B17 n w σ x0 x1 x2 x3 = some t := hf
    show J X 17 [(0, .ref (Xad X x0)), (1, .int x1), (2, .int x2), (3, .int x3)] [] σ
    unfold f_L_ordered_B17 at hf
    refine J.iload_n (pc := 17) C dL_ordered_17 rfl 3 rfl ?_
    refine J.if_lt (pc := 18) C (tgt := 66) dL_ordered_18 (by decide) hf (fun hf => ?_) (fun hf => ?_)
    · refine J.aload_n (pc := 66) C dL_ordered_66 rfl 0 rfl ?_
      refine J.bipush (pc := 67) C (v := 8) dL_ordered_67 (by decide) ?_
      obtain ⟨r_7, h_6, hf⟩ := bnd_some hf
      refine J.callV (pc := 69) C (m_X8_state h_6) hx0 wyX8_state tvX8_state_i tvX8_state_s tw_387 kcX8 rfl hx0 [.int 8] [] rfl rfl (Nat.le_of_ble_eq_true rfl) (Nat.le_of_ble_eq_true rfl) (Nat.le_of_ble_eq_true rfl) (stk' := [.int r_7]) rfl dL_ordered_69 rfl ?_
      refine J.iload_n (pc := 72) C dL_ordered_72 rfl 2 rfl ?_
      refine J.icmp_ne (pc := 73) C (tgt := 80) dL_ordered_73 (by decide) hf (fun hf => ?_) (fun hf => ?_)
      · refine J.iconst (pc := 80) C (v := 0) dL_ordered_80 (by decide) ?_
        exact J.zretP (pc := 81) C rfl hR ((hp.1 _ (Option.some.inj hf).symm)) dL_ordered_81
      · refine J.iconst (pc := 76) C (v := 1) dL_ordered_76 (by decide) ?_
        refine J.goto (pc := 77) C (tgt := 81) dL_ordered_77 (by decide) ?_
        exact J.zretP (pc := 81) C rfl hR ((hp.1 _ (Option.some.inj hf).symm)) dL_ordered_81
    · refine J.iload_n (pc := 21) C dL_ordered_21 rfl 3 rfl ?_
      refine J.if_le (pc := 22) C (tgt := 44) dL_ordered_22 (by decide) hf (fun hf => ?_) (fun hf => ?_)
      · exact J.sub (loc' := [(0, .ref (Xad X x0)), (1, .int x1), (2, .int x2), (3, .int x3)]) [0, 1, 2, 3] rfl (L44 x1 x2 x3 _ hf hp)
      · refine J.aload_n (pc := 25) C dL_ordered_25 rfl 0 rfl ?_
        refine J.iload_n (pc := 26) C dL_ordered_26 rfl 3 rfl ?_
        refine J.iconst (pc := 27) C (v := 0) dL_ordered_27 (by decide) ?_
        obtain ⟨r_13, h_12, hf⟩ := bnd_some hf
        refine J.callV (pc := 28) C (m_X8_part h_12) hx0 wyX8_part tvX8_part_i tvX8_part_s tw_537 kcX8 rfl hx0 [.int x3, .int 0] [] rfl rfl (Nat.le_of_ble_eq_true rfl) (Nat.le_of_ble_eq_true rfl) (Nat.le_of_ble_eq_true rfl) (stk' := [.int r_13]) rfl dL_ordered_28 rfl ?_
        refine J.aload_n (pc := 31) C dL_ordered_31 rfl 0 rfl ?_
        refine J.iload_n (pc := 32) C dL_ordered_32 rfl 3 rfl ?_
        refine J.iconst (pc := 33) C (v := 1) dL_ordered_33 (by decide) ?_
        refine J.isub (pc := 34) C dL_ordered_34 ?_
        refine J.iconst (pc := 35) C (v := 0) dL_ordered_35 (by decide) ?_
        obtain ⟨r_15, h_14, hf⟩ := bnd_some hf
        refine J.callV (pc := 36) C (m_X8_part h_14) hx0 wyX8_part tvX8_part_i tvX8_part_s tw_537 kcX8 rfl hx0 [.int (x3 - 1), .int 0] [.int r_13] rfl rfl (Nat.le_of_ble_eq_true rfl) (Nat.le_of_ble_eq_true rfl) (Nat.le_of_ble_eq_true rfl) (stk' := [.int r_15, .int r_13]) rfl dL_ordered_36 rfl ?_
        refine J.icmp_ge (pc := 39) C (tgt := 44) dL_ordered_39 (by decide) hf (fun hf => ?_) (fun hf => ?_)
        · exact J.sub (loc' := [(0, .ref (Xad X x0)), (1, .int x1), (2, .int x2), (3, .int x3)]) [0, 1, 2, 3] rfl (L44 x1 x2 x3 _ hf hp)
        · refine J.iconst (pc := 42) C (v := 0) dL_ordered_42 (by decide) ?_
          exact J.zretP (pc := 43) C rfl hR ((hp.1 _ (Option.some.inj hf).symm)) dL_ordered_43
  have hp : t0 = t0 := rfl
  show J X 0 [(0, .ref (Xad X x0))] [] σ
  unfold f_L_ordered at hf
  refine J.aload_n (pc := 0) C dL_ordered_0 rfl 0 rfl ?_
  refine J.iconst (pc := 1) C (v := 0) dL_ordered_1 (by decide) ?_
  obtain ⟨r_2, h_1, hf⟩ := bnd_some hf
  refine J.callV (pc := 2) C (m_X8_state h_1) hx0 wyX8_state tvX8_state_i tvX8_state_s tw_387 kcX8 rfl hx0 [.int 0] [] rfl rfl (Nat.le_of_ble_eq_true rfl) (Nat.le_of_ble_eq_true rfl) (Nat.le_of_ble_eq_true rfl) (stk' := [.int r_2]) rfl dL_ordered_2 rfl ?_
  refine J.istore_n (pc := 5) C (loc' := [(1, .int r_2), (0, .ref (Xad X x0))]) dL_ordered_5 rfl (by decide) rfl ?_
  refine J.bipush (pc := 6) C (v := (-6)) dL_ordered_6 (by decide) ?_
  refine J.istore_n (pc := 8) C (loc' := [(2, .int (-6)), (1, .int r_2), (0, .ref (Xad X x0))]) dL_ordered_8 rfl (by decide) rfl ?_
  refine J.aload_n (pc := 9) C dL_ordered_9 rfl 2 rfl ?_
  refine J.iconst (pc := 10) C (v := 2) dL_ordered_10 (by decide) ?_
  obtain ⟨r_4, h_3, hf⟩ := bnd_some hf
  refine J.callV (pc := 11) C (m_X8_state h_3) hx0 wyX8_state tvX8_state_i tvX8_state_s tw_387 kcX8 rfl hx0 [.int 2] [] rfl rfl (Nat.le_of_ble_eq_true rfl) (Nat.le_of_ble_eq_true rfl) (Nat.le_of_ble_eq_true rfl) (stk' := [.int r_4]) rfl dL_ordered_11 rfl ?_
  refine J.iconst (pc := 14) C (v := 1) dL_ordered_14 (by decide) ?_
  refine J.isub (pc := 15) C dL_ordered_15 ?_
  refine J.nmI hf (fun x3_5 hf => ?_)
  refine J.istore_n (pc := 16) C (loc' := [(3, .int x3_5), (2, .int (-6)), (1, .int r_2), (0, .ref (Xad X x0))]) dL_ordered_16 rfl (by decide) rfl ?_
  exact J.sub (loc' := [(0, .ref (Xad X x0)), (1, .int r_2), (2, .int (-6)), (3, .int x3_5)]) [3, 2, 1, 0] rfl (L17 r_2 (-6) x3_5 _ hf hp)
