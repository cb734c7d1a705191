set_option maxHeartbeats 4000000 in
set_option maxRecDepth 100000 in
theorem m_L_refused {l : Launch} {n : Nat} {w : Nat} {σ : Mem} {x0 : Nat} {x1 : Int32} {t0 : (Int32 × Mem)} (hf : f_L_refused n w σ x0 x1 = some t0) : Ct l yL_refused cL_refused 3 (some FieldType.boolean) 7 163 (fun ks => Ok ks x0 8) (fun ad => [.ref (ad x0), .int x1]) σ (fun _ => some (.int t0.1)) t0.2 := by
  refine Ct.of (plainFor_of_name (by decide)) (fun _ => Nat.le_of_ble_eq_true rfl) ?_
  intro X C _ hx0 hcl hR
  have C : Cx X RL cL_refused 3 (some FieldType.boolean) 7 163 := C
  have L23 : ∀ (σ : Mem) (y0 : Int32) (t : (Int32 × Mem)), f_L_refused_L23 n w σ x0 y0 = some t → t = t0 → J X 23 [(0, .ref (Xad X x0))] [.int y0] σ := by
    intro σ y0 t hf hp
    unfold f_L_refused_L23 at hf
    refine J.istore_n (pc := 23) C (loc' := [(2, .int y0), (0, .ref (Xad X x0))]) dL_refused_23 rfl (by decide) rfl ?_
    refine J.aload_n (pc := 24) C dL_refused_24 rfl 1 rfl ?_
    refine J.iload_n (pc := 25) C dL_refused_25 rfl 0 rfl ?_
    obtain ⟨r_2, σ_3, h_1, hf⟩ := bnd2_some hf
    refine J.callV (pc := 26) C (m_X8_setUp h_1) hx0 wyX8_setUp tvX8_setUp_i tvX8_setUp_s tw_314 kcX8 rfl hx0 [.int y0] [] rfl rfl (Nat.le_of_ble_eq_true rfl) (Nat.le_of_ble_eq_true rfl) (Nat.le_of_ble_eq_true rfl) (stk' := [.int r_2]) rfl dL_refused_26 rfl ?_
    refine J.bipush (pc := 29) C (v := (-2)) dL_refused_29 (by decide) ?_
    refine J.icmp_ne (pc := 31) C (tgt := 391) dL_refused_31 (by decide) hf (fun hf => ?_) (fun hf => ?_)
    · refine J.iconst (pc := 391) C (v := 0) dL_refused_391 (by decide) ?_
      exact J.zretM (pc := 392) C rfl hR ((Option.some.inj hf).trans hp) dL_refused_392
    · refine J.aload_n (pc := 34) C dL_refused_34 rfl 1 rfl ?_
      refine J.iload_n (pc := 35) C dL_refused_35 rfl 0 rfl ?_
      refine J.iconst (pc := 36) C (v := 0) dL_refused_36 (by decide) ?_
      refine J.iconst (pc := 37) C (v := 1) dL_refused_37 (by decide) ?_
      obtain ⟨r_5, σ_6, h_4, hf⟩ := bnd2_some hf
      refine J.callV (pc := 38) C (m_X8_nozzle h_4) hx0 wyX8_nozzle tvX8_nozzle_i tvX8_nozzle_s tw_351 kcX8 rfl hx0 [.int y0, .int 0, .int 1] [] rfl rfl (Nat.le_of_ble_eq_true rfl) (Nat.le_of_ble_eq_true rfl) (Nat.le_of_ble_eq_true rfl) (stk' := [.int r_5]) rfl dL_refused_38 rfl ?_
      refine J.iconst (pc := 41) C (v := (-1)) dL_refused_41 (by decide) ?_
      refine J.icmp_ne (pc := 42) C (tgt := 391) dL_refused_42 (by decide) hf (fun hf => ?_) (fun hf => ?_)
      · refine J.iconst (pc := 391) C (v := 0) dL_refused_391 (by decide) ?_
        exact J.zretM (pc := 392) C rfl hR ((Option.some.inj hf).trans hp) dL_refused_392
      · refine J.aload_n (pc := 45) C dL_refused_45 rfl 1 rfl ?_
        refine J.iconst (pc := 46) C (v := 0) dL_refused_46 (by decide) ?_
        refine J.iload_n (pc := 47) C dL_refused_47 rfl 0 rfl ?_
        refine J.iconst (pc := 48) C (v := 1) dL_refused_48 (by decide) ?_
        obtain ⟨r_8, σ_9, h_7, hf⟩ := bnd2_some hf
        refine J.callV (pc := 49) C (m_X8_nozzle h_7) hx0 wyX8_nozzle tvX8_nozzle_i tvX8_nozzle_s tw_351 kcX8 rfl hx0 [.int 0, .int y0, .int 1] [] rfl rfl (Nat.le_of_ble_eq_true rfl) (Nat.le_of_ble_eq_true rfl) (Nat.le_of_ble_eq_true rfl) (stk' := [.int r_8]) rfl dL_refused_49 rfl ?_
        refine J.bipush (pc := 52) C (v := (-2)) dL_refused_52 (by decide) ?_
        refine J.icmp_ne (pc := 54) C (tgt := 391) dL_refused_54 (by decide) hf (fun hf => ?_) (fun hf => ?_)
        · refine J.iconst (pc := 391) C (v := 0) dL_refused_391 (by decide) ?_
          exact J.zretM (pc := 392) C rfl hR ((Option.some.inj hf).trans hp) dL_refused_392
        · refine J.aload_n (pc := 57) C dL_refused_57 rfl 1 rfl ?_
          refine J.iconst (pc := 58) C (v := 0) dL_refused_58 (by decide) ?_
          refine J.iconst (pc := 59) C (v := 0) dL_refused_59 (by decide) ?_
          refine J.iload_n (pc := 60) C dL_refused_60 rfl 0 rfl ?_
          obtain ⟨r_11, σ_12, h_10, hf⟩ := bnd2_some hf
          refine J.callV (pc := 61) C (m_X8_nozzle h_10) hx0 wyX8_nozzle tvX8_nozzle_i tvX8_nozzle_s tw_351 kcX8 rfl hx0 [.int 0, .int 0, .int y0] [] rfl rfl (Nat.le_of_ble_eq_true rfl) (Nat.le_of_ble_eq_true rfl) (Nat.le_of_ble_eq_true rfl) (stk' := [.int r_11]) rfl dL_refused_61 rfl ?_
          refine J.bipush (pc := 64) C (v := (-2)) dL_refused_64 (by decide) ?_
          refine J.icmp_ne (pc := 66) C (tgt := 391) dL_refused_66 (by decide) hf (fun hf => ?_) (fun hf => ?_)
          · refine J.iconst (pc := 391) C (v := 0) dL_refused_391 (by decide) ?_
            exact J.zretM (pc := 392) C rfl hR ((Option.some.inj hf).trans hp) dL_refused_392
          · refine J.aload_n (pc := 69) C dL_refused_69 rfl 1 rfl ?_
            refine J.iload_n (pc := 70) C dL_refused_70 rfl 0 rfl ?_
            refine J.iconst (pc := 71) C (v := 0) dL_refused_71 (by decide) ?_
            refine J.iconst (pc := 72) C (v := 1) dL_refused_72 (by decide) ?_
            obtain ⟨r_14, σ_15, h_13, hf⟩ := bnd2_some hf
            refine J.callV (pc := 73) C (m_X8_pump h_13) hx0 wyX8_pump tvX8_pump_i tvX8_pump_s tw_365 kcX8 rfl hx0 [.int y0, .int 0, .int 1] [] rfl rfl (Nat.le_of_ble_eq_true rfl) (Nat.le_of_ble_eq_true rfl) (Nat.le_of_ble_eq_true rfl) (stk' := [.int r_14]) rfl dL_refused_73 rfl ?_
            refine J.iconst (pc := 76) C (v := (-1)) dL_refused_76 (by decide) ?_
            refine J.icmp_ne (pc := 77) C (tgt := 391) dL_refused_77 (by decide) hf (fun hf => ?_) (fun hf => ?_)
            · refine J.iconst (pc := 391) C (v := 0) dL_refused_391 (by decide) ?_
              exact J.zretM (pc := 392) C rfl hR ((Option.some.inj hf).trans hp) dL_refused_392
            · refine J.aload_n (pc := 80) C dL_refused_80 rfl 1 rfl ?_
              refine J.iconst (pc := 81) C (v := 0) dL_refused_81 (by decide) ?_
              refine J.iload_n (pc := 82) C dL_refused_82 rfl 0 rfl ?_
              refine J.iconst (pc := 83) C (v := 1) dL_refused_83 (by decide) ?_
              obtain ⟨r_17, σ_18, h_16, hf⟩ := bnd2_some hf
              refine J.callV (pc := 84) C (m_X8_pump h_16) hx0 wyX8_pump tvX8_pump_i tvX8_pump_s tw_365 kcX8 rfl hx0 [.int 0, .int y0, .int 1] [] rfl rfl (Nat.le_of_ble_eq_true rfl) (Nat.le_of_ble_eq_true rfl) (Nat.le_of_ble_eq_true rfl) (stk' := [.int r_17]) rfl dL_refused_84 rfl ?_
              refine J.bipush (pc := 87) C (v := (-2)) dL_refused_87 (by decide) ?_
              refine J.icmp_ne (pc := 89) C (tgt := 391) dL_refused_89 (by decide) hf (fun hf => ?_) (fun hf => ?_)
              · refine J.iconst (pc := 391) C (v := 0) dL_refused_391 (by decide) ?_
                exact J.zretM (pc := 392) C rfl hR ((Option.some.inj hf).trans hp) dL_refused_392
              · refine J.aload_n (pc := 92) C dL_refused_92 rfl 1 rfl ?_
                refine J.iconst (pc := 93) C (v := 0) dL_refused_93 (by decide) ?_
                refine J.iconst (pc := 94) C (v := 0) dL_refused_94 (by decide) ?_
                refine J.iload_n (pc := 95) C dL_refused_95 rfl 0 rfl ?_
                obtain ⟨r_20, σ_21, h_19, hf⟩ := bnd2_some hf
                refine J.callV (pc := 96) C (m_X8_pump h_19) hx0 wyX8_pump tvX8_pump_i tvX8_pump_s tw_365 kcX8 rfl hx0 [.int 0, .int 0, .int y0] [] rfl rfl (Nat.le_of_ble_eq_true rfl) (Nat.le_of_ble_eq_true rfl) (Nat.le_of_ble_eq_true rfl) (stk' := [.int r_20]) rfl dL_refused_96 rfl ?_
                refine J.bipush (pc := 99) C (v := (-2)) dL_refused_99 (by decide) ?_
                refine J.icmp_ne (pc := 101) C (tgt := 391) dL_refused_101 (by decide) hf (fun hf => ?_) (fun hf => ?_)
                · refine J.iconst (pc := 391) C (v := 0) dL_refused_391 (by decide) ?_
                  exact J.zretM (pc := 392) C rfl hR ((Option.some.inj hf).trans hp) dL_refused_392
                · refine J.aload_n (pc := 104) C dL_refused_104 rfl 1 rfl ?_
                  refine J.iload_n (pc := 105) C dL_refused_105 rfl 0 rfl ?_
                  refine J.iconst (pc := 106) C (v := 1) dL_refused_106 (by decide) ?_
                  obtain ⟨r_23, σ_24, h_22, hf⟩ := bnd2_some hf
                  refine J.callV (pc := 107) C (m_X8_set h_22) hx0 wyX8_set tvX8_set_i tvX8_set_s tw_369 kcX8 rfl hx0 [.int y0, .int 1] [] rfl rfl (Nat.le_of_ble_eq_true rfl) (Nat.le_of_ble_eq_true rfl) (Nat.le_of_ble_eq_true rfl) (stk' := [.int r_23]) rfl dL_refused_107 rfl ?_
                  refine J.bipush (pc := 110) C (v := (-2)) dL_refused_110 (by decide) ?_
                  refine J.icmp_ne (pc := 112) C (tgt := 391) dL_refused_112 (by decide) hf (fun hf => ?_) (fun hf => ?_)
                  · refine J.iconst (pc := 391) C (v := 0) dL_refused_391 (by decide) ?_
                    exact J.zretM (pc := 392) C rfl hR ((Option.some.inj hf).trans hp) dL_refused_392
                  · refine J.aload_n (pc := 115) C dL_refused_115 rfl 1 rfl ?_
                    refine J.iconst (pc := 116) C (v := 0) dL_refused_116 (by decide) ?_
                    refine J.iload_n (pc := 117) C dL_refused_117 rfl 0 rfl ?_
                    obtain ⟨r_26, σ_27, h_25, hf⟩ := bnd2_some hf
                    refine J.callV (pc := 118) C (m_X8_set h_25) hx0 wyX8_set tvX8_set_i tvX8_set_s tw_369 kcX8 rfl hx0 [.int 0, .int y0] [] rfl rfl (Nat.le_of_ble_eq_true rfl) (Nat.le_of_ble_eq_true rfl) (Nat.le_of_ble_eq_true rfl) (stk' := [.int r_26]) rfl dL_refused_118 rfl ?_
                    refine J.bipush (pc := 121) C (v := (-2)) dL_refused_121 (by decide) ?_
                    refine J.icmp_ne (pc := 123) C (tgt := 391) dL_refused_123 (by decide) hf (fun hf => ?_) (fun hf => ?_)
                    · refine J.iconst (pc := 391) C (v := 0) dL_refused_391 (by decide) ?_
                      exact J.zretM (pc := 392) C rfl hR ((Option.some.inj hf).trans hp) dL_refused_392
                    · refine J.aload_n (pc := 126) C dL_refused_126 rfl 1 rfl ?_
                      refine J.iload_n (pc := 127) C dL_refused_127 rfl 0 rfl ?_
                      obtain ⟨r_29, σ_30, h_28, hf⟩ := bnd2_some hf
                      refine J.callV (pc := 128) C (m_X8_wind h_28) hx0 wyX8_wind tvX8_wind_i tvX8_wind_s tw_551 kcX8 rfl hx0 [.int y0] [] rfl rfl (Nat.le_of_ble_eq_true rfl) (Nat.le_of_ble_eq_true rfl) (Nat.le_of_ble_eq_true rfl) (stk' := [.int r_29]) rfl dL_refused_128 rfl ?_
                      refine J.bipush (pc := 131) C (v := (-2)) dL_refused_131 (by decide) ?_
                      refine J.icmp_ne (pc := 133) C (tgt := 391) dL_refused_133 (by decide) hf (fun hf => ?_) (fun hf => ?_)
                      · refine J.iconst (pc := 391) C (v := 0) dL_refused_391 (by decide) ?_
                        exact J.zretM (pc := 392) C rfl hR ((Option.some.inj hf).trans hp) dL_refused_392
                      · refine J.aload_n (pc := 136) C dL_refused_136 rfl 1 rfl ?_
                        refine J.iload_n (pc := 137) C dL_refused_137 rfl 0 rfl ?_
                        refine J.iconst (pc := 138) C (v := 1) dL_refused_138 (by decide) ?_
                        refine J.iconst (pc := 139) C (v := 1) dL_refused_139 (by decide) ?_
                        obtain ⟨r_32, σ_33, h_31, hf⟩ := bnd2_some hf
                        refine J.callV (pc := 140) C (m_X8_cue h_31) hx0 wyX8_cue tvX8_cue_i tvX8_cue_s tw_522 kcX8 rfl hx0 [.int y0, .int 1, .int 1] [] rfl rfl (Nat.le_of_ble_eq_true rfl) (Nat.le_of_ble_eq_true rfl) (Nat.le_of_ble_eq_true rfl) (stk' := [.int r_32]) rfl dL_refused_140 rfl ?_
                        refine J.bipush (pc := 143) C (v := (-2)) dL_refused_143 (by decide) ?_
                        refine J.icmp_ne (pc := 145) C (tgt := 391) dL_refused_145 (by decide) hf (fun hf => ?_) (fun hf => ?_)
                        · refine J.iconst (pc := 391) C (v := 0) dL_refused_391 (by decide) ?_
                          exact J.zretM (pc := 392) C rfl hR ((Option.some.inj hf).trans hp) dL_refused_392
                        · refine J.aload_n (pc := 148) C dL_refused_148 rfl 1 rfl ?_
                          refine J.iconst (pc := 149) C (v := 0) dL_refused_149 (by decide) ?_
                          refine J.iload_n (pc := 150) C dL_refused_150 rfl 0 rfl ?_
                          refine J.iconst (pc := 151) C (v := 1) dL_refused_151 (by decide) ?_
                          obtain ⟨r_35, σ_36, h_34, hf⟩ := bnd2_some hf
                          refine J.callV (pc := 152) C (m_X8_cue h_34) hx0 wyX8_cue tvX8_cue_i tvX8_cue_s tw_522 kcX8 rfl hx0 [.int 0, .int y0, .int 1] [] rfl rfl (Nat.le_of_ble_eq_true rfl) (Nat.le_of_ble_eq_true rfl) (Nat.le_of_ble_eq_true rfl) (stk' := [.int r_35]) rfl dL_refused_152 rfl ?_
                          refine J.bipush (pc := 155) C (v := (-2)) dL_refused_155 (by decide) ?_
                          refine J.icmp_ne (pc := 157) C (tgt := 391) dL_refused_157 (by decide) hf (fun hf => ?_) (fun hf => ?_)
                          · refine J.iconst (pc := 391) C (v := 0) dL_refused_391 (by decide) ?_
                            exact J.zretM (pc := 392) C rfl hR ((Option.some.inj hf).trans hp) dL_refused_392
                          · refine J.aload_n (pc := 160) C dL_refused_160 rfl 1 rfl ?_
                            refine J.iconst (pc := 161) C (v := 0) dL_refused_161 (by decide) ?_
                            refine J.iconst (pc := 162) C (v := 1) dL_refused_162 (by decide) ?_
                            refine J.iload_n (pc := 163) C dL_refused_163 rfl 0 rfl ?_
                            obtain ⟨r_38, σ_39, h_37, hf⟩ := bnd2_some hf
                            refine J.callV (pc := 164) C (m_X8_cue h_37) hx0 wyX8_cue tvX8_cue_i tvX8_cue_s tw_522 kcX8 rfl hx0 [.int 0, .int 1, .int y0] [] rfl rfl (Nat.le_of_ble_eq_true rfl) (Nat.le_of_ble_eq_true rfl) (Nat.le_of_ble_eq_true rfl) (stk' := [.int r_38]) rfl dL_refused_164 rfl ?_
                            refine J.bipush (pc := 167) C (v := (-2)) dL_refused_167 (by decide) ?_
                            refine J.icmp_ne (pc := 169) C (tgt := 391) dL_refused_169 (by decide) hf (fun hf => ?_) (fun hf => ?_)
                            · refine J.iconst (pc := 391) C (v := 0) dL_refused_391 (by decide) ?_
                              exact J.zretM (pc := 392) C rfl hR ((Option.some.inj hf).trans hp) dL_refused_392
                            · refine J.aload_n (pc := 172) C dL_refused_172 rfl 1 rfl ?_
                              refine J.iload_n (pc := 173) C dL_refused_173 rfl 0 rfl ?_
                              obtain ⟨r_41, σ_42, h_40, hf⟩ := bnd2_some hf
                              refine J.callV (pc := 174) C (m_X8_remove h_40) hx0 wyX8_remove tvX8_remove_i tvX8_remove_s tw_689 kcX8 rfl hx0 [.int y0] [] rfl rfl (Nat.le_of_ble_eq_true rfl) (Nat.le_of_ble_eq_true rfl) (Nat.le_of_ble_eq_true rfl) (stk' := [.int r_41]) rfl dL_refused_174 rfl ?_
                              refine J.iconst (pc := 177) C (v := (-1)) dL_refused_177 (by decide) ?_
                              refine J.icmp_ne (pc := 178) C (tgt := 391) dL_refused_178 (by decide) hf (fun hf => ?_) (fun hf => ?_)
                              · refine J.iconst (pc := 391) C (v := 0) dL_refused_391 (by decide) ?_
                                exact J.zretM (pc := 392) C rfl hR ((Option.some.inj hf).trans hp) dL_refused_392
                              · refine J.aload_n (pc := 181) C dL_refused_181 rfl 1 rfl ?_
                                refine J.iload_n (pc := 182) C dL_refused_182 rfl 0 rfl ?_
                                refine J.iconst (pc := 183) C (v := 0) dL_refused_183 (by decide) ?_
                                obtain ⟨r_44, σ_45, h_43, hf⟩ := bnd2_some hf
                                refine J.callV (pc := 184) C (m_X8_move h_43) hx0 wyX8_move tvX8_move_i tvX8_move_s tw_555 kcX8 rfl hx0 [.int y0, .int 0] [] rfl rfl (Nat.le_of_ble_eq_true rfl) (Nat.le_of_ble_eq_true rfl) (Nat.le_of_ble_eq_true rfl) (stk' := [.int r_44]) rfl dL_refused_184 rfl ?_
                                refine J.iconst (pc := 187) C (v := (-1)) dL_refused_187 (by decide) ?_
                                refine J.icmp_ne (pc := 188) C (tgt := 391) dL_refused_188 (by decide) hf (fun hf => ?_) (fun hf => ?_)
                                · refine J.iconst (pc := 391) C (v := 0) dL_refused_391 (by decide) ?_
                                  exact J.zretM (pc := 392) C rfl hR ((Option.some.inj hf).trans hp) dL_refused_392
                                · refine J.aload_n (pc := 191) C dL_refused_191 rfl 1 rfl ?_
                                  refine J.iload_n (pc := 192) C dL_refused_192 rfl 0 rfl ?_
                                  refine J.iconst (pc := 193) C (v := 0) dL_refused_193 (by decide) ?_
                                  obtain ⟨r_47, h_46, hf⟩ := bnd_some hf
                                  refine J.callV (pc := 194) C (m_X8_part h_46) hx0 wyX8_part tvX8_part_i tvX8_part_s tw_537 kcX8 rfl hx0 [.int y0, .int 0] [] rfl rfl (Nat.le_of_ble_eq_true rfl) (Nat.le_of_ble_eq_true rfl) (Nat.le_of_ble_eq_true rfl) (stk' := [.int r_47]) rfl dL_refused_194 rfl ?_
                                  refine J.iconst (pc := 197) C (v := (-1)) dL_refused_197 (by decide) ?_
                                  refine J.icmp_ne (pc := 198) C (tgt := 391) dL_refused_198 (by decide) hf (fun hf => ?_) (fun hf => ?_)
                                  · refine J.iconst (pc := 391) C (v := 0) dL_refused_391 (by decide) ?_
                                    exact J.zretM (pc := 392) C rfl hR ((Option.some.inj hf).trans hp) dL_refused_392
                                  · refine J.aload_n (pc := 201) C dL_refused_201 rfl 1 rfl ?_
                                    refine J.iload_n (pc := 202) C dL_refused_202 rfl 0 rfl ?_
                                    refine J.iconst (pc := 203) C (v := 0) dL_refused_203 (by decide) ?_
                                    obtain ⟨r_49, σ_50, h_48, hf⟩ := bnd2_some hf
                                    refine J.callV (pc := 204) C (m_X8_command h_48) hx0 wyX8_command tvX8_command_i tvX8_command_s tw_546 kcX8 rfl hx0 [.int y0, .int 0] [] rfl rfl (Nat.le_of_ble_eq_true rfl) (Nat.le_of_ble_eq_true rfl) (Nat.le_of_ble_eq_true rfl) (stk' := [.int r_49]) rfl dL_refused_204 rfl ?_
                                    refine J.bipush (pc := 207) C (v := (-2)) dL_refused_207 (by decide) ?_
                                    refine J.icmp_ne (pc := 209) C (tgt := 391) dL_refused_209 (by decide) hf (fun hf => ?_) (fun hf => ?_)
                                    · refine J.iconst (pc := 391) C (v := 0) dL_refused_391 (by decide) ?_
                                      exact J.zretM (pc := 392) C rfl hR ((Option.some.inj hf).trans hp) dL_refused_392
                                    · refine J.aload_n (pc := 212) C dL_refused_212 rfl 1 rfl ?_
                                      refine J.iload_n (pc := 213) C dL_refused_213 rfl 0 rfl ?_
                                      obtain ⟨r_52, σ_53, h_51, hf⟩ := bnd2_some hf
                                      refine J.callV (pc := 214) C (m_X8_tick h_51) hx0 wyX8_tick tvX8_tick_i tvX8_tick_s tw_411 kcX8 rfl hx0 [.int y0] [] rfl rfl (Nat.le_of_ble_eq_true rfl) (Nat.le_of_ble_eq_true rfl) (Nat.le_of_ble_eq_true rfl) (stk' := [.int r_52]) rfl dL_refused_214 rfl ?_
                                      refine J.bipush (pc := 217) C (v := (-2)) dL_refused_217 (by decide) ?_
                                      refine J.icmp_ne (pc := 219) C (tgt := 391) dL_refused_219 (by decide) hf (fun hf => ?_) (fun hf => ?_)
                                      · refine J.iconst (pc := 391) C (v := 0) dL_refused_391 (by decide) ?_
                                        exact J.zretM (pc := 392) C rfl hR ((Option.some.inj hf).trans hp) dL_refused_392
                                      · refine J.aload_n (pc := 222) C dL_refused_222 rfl 1 rfl ?_
                                        refine J.iload_n (pc := 223) C dL_refused_223 rfl 0 rfl ?_
                                        refine J.iconst (pc := 224) C (v := 0) dL_refused_224 (by decide) ?_
                                        obtain ⟨r_55, h_54, hf⟩ := bnd_some hf
                                        refine J.callV (pc := 225) C (m_X8_spray h_54) hx0 wyX8_spray tvX8_spray_i tvX8_spray_s tw_403 kcX8 rfl hx0 [.int y0, .int 0] [] rfl rfl (Nat.le_of_ble_eq_true rfl) (Nat.le_of_ble_eq_true rfl) (Nat.le_of_ble_eq_true rfl) (stk' := [.int r_55]) rfl dL_refused_225 rfl ?_
                                        refine J.iconst (pc := 228) C (v := (-1)) dL_refused_228 (by decide) ?_
                                        refine J.icmp_ne (pc := 229) C (tgt := 391) dL_refused_229 (by decide) hf (fun hf => ?_) (fun hf => ?_)
                                        · refine J.iconst (pc := 391) C (v := 0) dL_refused_391 (by decide) ?_
                                          exact J.zretM (pc := 392) C rfl hR ((Option.some.inj hf).trans hp) dL_refused_392
                                        · refine J.aload_n (pc := 232) C dL_refused_232 rfl 1 rfl ?_
                                          refine J.iconst (pc := 233) C (v := 0) dL_refused_233 (by decide) ?_
                                          refine J.iload_n (pc := 234) C dL_refused_234 rfl 0 rfl ?_
                                          obtain ⟨r_57, h_56, hf⟩ := bnd_some hf
                                          refine J.callV (pc := 235) C (m_X8_spray h_56) hx0 wyX8_spray tvX8_spray_i tvX8_spray_s tw_403 kcX8 rfl hx0 [.int 0, .int y0] [] rfl rfl (Nat.le_of_ble_eq_true rfl) (Nat.le_of_ble_eq_true rfl) (Nat.le_of_ble_eq_true rfl) (stk' := [.int r_57]) rfl dL_refused_235 rfl ?_
                                          refine J.bipush (pc := 238) C (v := (-2)) dL_refused_238 (by decide) ?_
                                          refine J.icmp_ne (pc := 240) C (tgt := 391) dL_refused_240 (by decide) hf (fun hf => ?_) (fun hf => ?_)
                                          · refine J.iconst (pc := 391) C (v := 0) dL_refused_391 (by decide) ?_
                                            exact J.zretM (pc := 392) C rfl hR ((Option.some.inj hf).trans hp) dL_refused_392
                                          · refine J.aload_n (pc := 243) C dL_refused_243 rfl 1 rfl ?_
                                            refine J.iload_n (pc := 244) C dL_refused_244 rfl 0 rfl ?_
                                            refine J.iconst (pc := 245) C (v := 0) dL_refused_245 (by decide) ?_
                                            obtain ⟨r_59, h_58, hf⟩ := bnd_some hf
                                            refine J.callV (pc := 246) C (m_X8_pressure h_58) hx0 wyX8_pressure tvX8_pressure_i tvX8_pressure_s tw_407 kcX8 rfl hx0 [.int y0, .int 0] [] rfl rfl (Nat.le_of_ble_eq_true rfl) (Nat.le_of_ble_eq_true rfl) (Nat.le_of_ble_eq_true rfl) (stk' := [.int r_59]) rfl dL_refused_246 rfl ?_
                                            refine J.iconst (pc := 249) C (v := (-1)) dL_refused_249 (by decide) ?_
                                            refine J.icmp_ne (pc := 250) C (tgt := 391) dL_refused_250 (by decide) hf (fun hf => ?_) (fun hf => ?_)
                                            · refine J.iconst (pc := 391) C (v := 0) dL_refused_391 (by decide) ?_
                                              exact J.zretM (pc := 392) C rfl hR ((Option.some.inj hf).trans hp) dL_refused_392
                                            · refine J.aload_n (pc := 253) C dL_refused_253 rfl 1 rfl ?_
                                              refine J.iconst (pc := 254) C (v := 0) dL_refused_254 (by decide) ?_
                                              refine J.iload_n (pc := 255) C dL_refused_255 rfl 0 rfl ?_
                                              obtain ⟨r_61, h_60, hf⟩ := bnd_some hf
                                              refine J.callV (pc := 256) C (m_X8_pressure h_60) hx0 wyX8_pressure tvX8_pressure_i tvX8_pressure_s tw_407 kcX8 rfl hx0 [.int 0, .int y0] [] rfl rfl (Nat.le_of_ble_eq_true rfl) (Nat.le_of_ble_eq_true rfl) (Nat.le_of_ble_eq_true rfl) (stk' := [.int r_61]) rfl dL_refused_256 rfl ?_
                                              refine J.bipush (pc := 259) C (v := (-2)) dL_refused_259 (by decide) ?_
                                              refine J.icmp_ne (pc := 261) C (tgt := 391) dL_refused_261 (by decide) hf (fun hf => ?_) (fun hf => ?_)
                                              · refine J.iconst (pc := 391) C (v := 0) dL_refused_391 (by decide) ?_
                                                exact J.zretM (pc := 392) C rfl hR ((Option.some.inj hf).trans hp) dL_refused_392
                                              · refine J.aload_n (pc := 264) C dL_refused_264 rfl 1 rfl ?_
                                                refine J.iload_n (pc := 265) C dL_refused_265 rfl 0 rfl ?_
                                                obtain ⟨hfar, hf⟩ := chk_some hf
                                                refine J.callV (pc := 266) C (m_X8_loadF hfar) hx0 wyX8_load tvX8_load_i tvX8_load_s tw_694 kcX8 rfl hx0 [.int y0] [] rfl rfl (Nat.le_of_ble_eq_true rfl) (Nat.le_of_ble_eq_true rfl) (Nat.le_of_ble_eq_true rfl) (stk' := .float 3212836864 :: []) rfl dL_refused_266 rfl ?_
                                                refine J.ldcF (pc := 269) C (v := 3212836864) dL_refused_269 tw_699 ?_
                                                refine J.fcmpM1 (pc := 271) C dL_refused_271 ?_
                                                refine J.if_ne (pc := 272) C (tgt := 391) dL_refused_272 (by decide) hf (fun hf => ?_) (fun hf => ?_)
                                                · refine J.iconst (pc := 391) C (v := 0) dL_refused_391 (by decide) ?_
                                                  exact J.zretM (pc := 392) C rfl hR ((Option.some.inj hf).trans hp) dL_refused_392
                                                · refine J.aload_n (pc := 275) C dL_refused_275 rfl 1 rfl ?_
                                                  refine J.iload_n (pc := 276) C dL_refused_276 rfl 0 rfl ?_
                                                  obtain ⟨r_63, h_62, hf⟩ := bnd_some hf
                                                  refine J.callV (pc := 277) C (m_X8_state h_62) hx0 wyX8_state tvX8_state_i tvX8_state_s tw_387 kcX8 rfl hx0 [.int y0] [] rfl rfl (Nat.le_of_ble_eq_true rfl) (Nat.le_of_ble_eq_true rfl) (Nat.le_of_ble_eq_true rfl) (stk' := [.int r_63]) rfl dL_refused_277 rfl ?_
                                                  refine J.bipush (pc := 280) C (v := (-2)) dL_refused_280 (by decide) ?_
                                                  refine J.icmp_ne (pc := 282) C (tgt := 391) dL_refused_282 (by decide) hf (fun hf => ?_) (fun hf => ?_)
                                                  · refine J.iconst (pc := 391) C (v := 0) dL_refused_391 (by decide) ?_
                                                    exact J.zretM (pc := 392) C rfl hR ((Option.some.inj hf).trans hp) dL_refused_392
                                                  · refine J.aload_n (pc := 285) C dL_refused_285 rfl 1 rfl ?_
                                                    refine J.iload_n (pc := 286) C dL_refused_286 rfl 0 rfl ?_
                                                    refine J.iconst (pc := 287) C (v := 0) dL_refused_287 (by decide) ?_
                                                    refine J.iconst (pc := 288) C (v := 0) dL_refused_288 (by decide) ?_
                                                    obtain ⟨r_65, σ_66, h_64, hf⟩ := bnd2_some hf
                                                    refine J.callV (pc := 289) C (m_X8_ahead h_64) hx0 wyX8_ahead tvX8_ahead_i tvX8_ahead_s tw_576 kcX8 rfl hx0 [.int y0, .int 0, .int 0] [] rfl rfl (Nat.le_of_ble_eq_true rfl) (Nat.le_of_ble_eq_true rfl) (Nat.le_of_ble_eq_true rfl) (stk' := [.int r_65]) rfl dL_refused_289 rfl ?_
                                                    refine J.bipush (pc := 292) C (v := (-2)) dL_refused_292 (by decide) ?_
                                                    refine J.icmp_ne (pc := 294) C (tgt := 391) dL_refused_294 (by decide) hf (fun hf => ?_) (fun hf => ?_)
                                                    · refine J.iconst (pc := 391) C (v := 0) dL_refused_391 (by decide) ?_
                                                      exact J.zretM (pc := 392) C rfl hR ((Option.some.inj hf).trans hp) dL_refused_392
                                                    · refine J.aload_n (pc := 297) C dL_refused_297 rfl 1 rfl ?_
                                                      refine J.iconst (pc := 298) C (v := 1) dL_refused_298 (by decide) ?_
                                                      refine J.iload_n (pc := 299) C dL_refused_299 rfl 0 rfl ?_
                                                      refine J.iconst (pc := 300) C (v := 0) dL_refused_300 (by decide) ?_
                                                      obtain ⟨r_68, σ_69, h_67, hf⟩ := bnd2_some hf
                                                      refine J.callV (pc := 301) C (m_X8_ahead h_67) hx0 wyX8_ahead tvX8_ahead_i tvX8_ahead_s tw_576 kcX8 rfl hx0 [.int 1, .int y0, .int 0] [] rfl rfl (Nat.le_of_ble_eq_true rfl) (Nat.le_of_ble_eq_true rfl) (Nat.le_of_ble_eq_true rfl) (stk' := [.int r_68]) rfl dL_refused_301 rfl ?_
                                                      refine J.iconst (pc := 304) C (v := (-1)) dL_refused_304 (by decide) ?_
                                                      refine J.icmp_ne (pc := 305) C (tgt := 391) dL_refused_305 (by decide) hf (fun hf => ?_) (fun hf => ?_)
                                                      · refine J.iconst (pc := 391) C (v := 0) dL_refused_391 (by decide) ?_
                                                        exact J.zretM (pc := 392) C rfl hR ((Option.some.inj hf).trans hp) dL_refused_392
                                                      · refine J.aload_n (pc := 308) C dL_refused_308 rfl 1 rfl ?_
                                                        refine J.iconst (pc := 309) C (v := 1) dL_refused_309 (by decide) ?_
                                                        refine J.iload_n (pc := 310) C dL_refused_310 rfl 0 rfl ?_
                                                        refine J.iconst (pc := 311) C (v := 3) dL_refused_311 (by decide) ?_
                                                        obtain ⟨r_71, σ_72, h_70, hf⟩ := bnd2_some hf
                                                        refine J.callV (pc := 312) C (m_X8_ahead h_70) hx0 wyX8_ahead tvX8_ahead_i tvX8_ahead_s tw_576 kcX8 rfl hx0 [.int 1, .int y0, .int 3] [] rfl rfl (Nat.le_of_ble_eq_true rfl) (Nat.le_of_ble_eq_true rfl) (Nat.le_of_ble_eq_true rfl) (stk' := [.int r_71]) rfl dL_refused_312 rfl ?_
                                                        refine J.if_ne (pc := 315) C (tgt := 391) dL_refused_315 (by decide) hf (fun hf => ?_) (fun hf => ?_)
                                                        · refine J.iconst (pc := 391) C (v := 0) dL_refused_391 (by decide) ?_
                                                          exact J.zretM (pc := 392) C rfl hR ((Option.some.inj hf).trans hp) dL_refused_392
                                                        · refine J.aload_n (pc := 318) C dL_refused_318 rfl 1 rfl ?_
                                                          refine J.iload_n (pc := 319) C dL_refused_319 rfl 0 rfl ?_
                                                          refine J.iconst (pc := 320) C (v := 0) dL_refused_320 (by decide) ?_
                                                          refine J.iconst (pc := 321) C (v := 1) dL_refused_321 (by decide) ?_
                                                          obtain ⟨r_74, σ_75, h_73, hf⟩ := bnd2_some hf
                                                          refine J.callV (pc := 322) C (m_X8_delay h_73) hx0 wyX8_delay tvX8_delay_i tvX8_delay_s tw_653 kcX8 rfl hx0 [.int y0, .int 0, .int 1] [] rfl rfl (Nat.le_of_ble_eq_true rfl) (Nat.le_of_ble_eq_true rfl) (Nat.le_of_ble_eq_true rfl) (stk' := [.int r_74]) rfl dL_refused_322 rfl ?_
                                                          refine J.iconst (pc := 325) C (v := (-1)) dL_refused_325 (by decide) ?_
                                                          refine J.icmp_ne (pc := 326) C (tgt := 391) dL_refused_326 (by decide) hf (fun hf => ?_) (fun hf => ?_)
                                                          · refine J.iconst (pc := 391) C (v := 0) dL_refused_391 (by decide) ?_
                                                            exact J.zretM (pc := 392) C rfl hR ((Option.some.inj hf).trans hp) dL_refused_392
                                                          · refine J.aload_n (pc := 329) C dL_refused_329 rfl 1 rfl ?_
                                                            refine J.iload_n (pc := 330) C dL_refused_330 rfl 0 rfl ?_
                                                            obtain ⟨r_77, σ_78, h_76, hf⟩ := bnd2_some hf
                                                            refine J.callV (pc := 331) C (m_X8_safeCut h_76) hx0 wyX8_safeCut tvX8_safeCut_i tvX8_safeCut_s tw_668 kcX8 rfl hx0 [.int y0] [] rfl rfl (Nat.le_of_ble_eq_true rfl) (Nat.le_of_ble_eq_true rfl) (Nat.le_of_ble_eq_true rfl) (stk' := [.int r_77]) rfl dL_refused_331 rfl ?_
                                                            refine J.bipush (pc := 334) C (v := (-2)) dL_refused_334 (by decide) ?_
                                                            refine J.icmp_ne (pc := 336) C (tgt := 391) dL_refused_336 (by decide) hf (fun hf => ?_) (fun hf => ?_)
                                                            · refine J.iconst (pc := 391) C (v := 0) dL_refused_391 (by decide) ?_
                                                              exact J.zretM (pc := 392) C rfl hR ((Option.some.inj hf).trans hp) dL_refused_392
                                                            · refine J.aload_n (pc := 339) C dL_refused_339 rfl 1 rfl ?_
                                                              refine J.iload_n (pc := 340) C dL_refused_340 rfl 0 rfl ?_
                                                              obtain ⟨r_80, σ_81, h_79, hf⟩ := bnd2_some hf
                                                              refine J.callV (pc := 341) C (m_X8_say h_79) hx0 wyX8_say tvX8_say_i tvX8_say_s tw_700 kcX8 rfl hx0 [.int y0] [] rfl rfl (Nat.le_of_ble_eq_true rfl) (Nat.le_of_ble_eq_true rfl) (Nat.le_of_ble_eq_true rfl) (stk' := [.int r_80]) rfl dL_refused_341 rfl ?_
                                                              refine J.bipush (pc := 344) C (v := (-2)) dL_refused_344 (by decide) ?_
                                                              refine J.icmp_ne (pc := 346) C (tgt := 391) dL_refused_346 (by decide) hf (fun hf => ?_) (fun hf => ?_)
                                                              · refine J.iconst (pc := 391) C (v := 0) dL_refused_391 (by decide) ?_
                                                                exact J.zretM (pc := 392) C rfl hR ((Option.some.inj hf).trans hp) dL_refused_392
                                                              · refine J.aload_n (pc := 349) C dL_refused_349 rfl 1 rfl ?_
                                                                refine J.iload_n (pc := 350) C dL_refused_350 rfl 0 rfl ?_
                                                                obtain ⟨r_83, σ_84, h_82, hf⟩ := bnd2_some hf
                                                                refine J.callV (pc := 351) C (m_X8_read h_82) hx0 wyX8_read tvX8_read_i tvX8_read_s tw_708 kcX8 rfl hx0 [.int y0] [] rfl rfl (Nat.le_of_ble_eq_true rfl) (Nat.le_of_ble_eq_true rfl) (Nat.le_of_ble_eq_true rfl) (stk' := [.int r_83]) rfl dL_refused_351 rfl ?_
                                                                refine J.bipush (pc := 354) C (v := (-3)) dL_refused_354 (by decide) ?_
                                                                refine J.icmp_ne (pc := 356) C (tgt := 391) dL_refused_356 (by decide) hf (fun hf => ?_) (fun hf => ?_)
                                                                · refine J.iconst (pc := 391) C (v := 0) dL_refused_391 (by decide) ?_
                                                                  exact J.zretM (pc := 392) C rfl hR ((Option.some.inj hf).trans hp) dL_refused_392
                                                                · refine J.aload_n (pc := 359) C dL_refused_359 rfl 1 rfl ?_
                                                                  refine J.iload_n (pc := 360) C dL_refused_360 rfl 0 rfl ?_
                                                                  obtain ⟨r_86, σ_87, h_85, hf⟩ := bnd2_some hf
                                                                  refine J.callV (pc := 361) C (m_X8_save h_85) hx0 wyX8_save tvX8_save_i tvX8_save_s tw_638 kcX8 rfl hx0 [.int y0] [] rfl rfl (Nat.le_of_ble_eq_true rfl) (Nat.le_of_ble_eq_true rfl) (Nat.le_of_ble_eq_true rfl) (stk' := [.int r_86]) rfl dL_refused_361 rfl ?_
                                                                  refine J.bipush (pc := 364) C (v := (-2)) dL_refused_364 (by decide) ?_
                                                                  refine J.icmp_ne (pc := 366) C (tgt := 391) dL_refused_366 (by decide) hf (fun hf => ?_) (fun hf => ?_)
                                                                  · refine J.iconst (pc := 391) C (v := 0) dL_refused_391 (by decide) ?_
                                                                    exact J.zretM (pc := 392) C rfl hR ((Option.some.inj hf).trans hp) dL_refused_392
                                                                  · refine J.aload_n (pc := 369) C dL_refused_369 rfl 1 rfl ?_
                                                                    refine J.iload_n (pc := 370) C dL_refused_370 rfl 0 rfl ?_
                                                                    obtain ⟨r_89, σ_90, h_88, hf⟩ := bnd2_some hf
                                                                    refine J.callV (pc := 371) C (m_X8_restore h_88) hx0 wyX8_restore tvX8_restore_i tvX8_restore_s tw_646 kcX8 rfl hx0 [.int y0] [] rfl rfl (Nat.le_of_ble_eq_true rfl) (Nat.le_of_ble_eq_true rfl) (Nat.le_of_ble_eq_true rfl) (stk' := [.int r_89]) rfl dL_refused_371 rfl ?_
                                                                    refine J.bipush (pc := 374) C (v := (-2)) dL_refused_374 (by decide) ?_
                                                                    refine J.icmp_ne (pc := 376) C (tgt := 391) dL_refused_376 (by decide) hf (fun hf => ?_) (fun hf => ?_)
                                                                    · refine J.iconst (pc := 391) C (v := 0) dL_refused_391 (by decide) ?_
                                                                      exact J.zretM (pc := 392) C rfl hR ((Option.some.inj hf).trans hp) dL_refused_392
                                                                    · refine J.aload_n (pc := 379) C dL_refused_379 rfl 1 rfl ?_
                                                                      refine J.iconst (pc := 380) C (v := 0) dL_refused_380 (by decide) ?_
                                                                      obtain ⟨r_92, h_91, hf⟩ := bnd_some hf
                                                                      refine J.callV (pc := 381) C (m_X8_state h_91) hx0 wyX8_state tvX8_state_i tvX8_state_s tw_387 kcX8 rfl hx0 [.int 0] [] rfl rfl (Nat.le_of_ble_eq_true rfl) (Nat.le_of_ble_eq_true rfl) (Nat.le_of_ble_eq_true rfl) (stk' := [.int r_92]) rfl dL_refused_381 rfl ?_
                                                                      refine J.if_ne (pc := 384) C (tgt := 391) dL_refused_384 (by decide) hf (fun hf => ?_) (fun hf => ?_)
                                                                      · refine J.iconst (pc := 391) C (v := 0) dL_refused_391 (by decide) ?_
                                                                        exact J.zretM (pc := 392) C rfl hR ((Option.some.inj hf).trans hp) dL_refused_392
                                                                      · refine J.iconst (pc := 387) C (v := 1) dL_refused_387 (by decide) ?_
                                                                        refine J.goto (pc := 388) C (tgt := 392) dL_refused_388 (by decide) ?_
                                                                        exact J.zretM (pc := 392) C rfl hR ((Option.some.inj hf).trans hp) dL_refused_392
  have hp : t0 = t0 := rfl
  show J X 0 [(0, .ref (Xad X x0)), (1, .int x1)] [] σ
  unfold f_L_refused at hf
  refine J.iload_n (pc := 0) C dL_refused_0 rfl 1 rfl ?_
  refine J.if_ge (pc := 1) C (tgt := 16) dL_refused_1 (by decide) hf (fun hf => ?_) (fun hf => ?_)
  · refine J.iload_n (pc := 16) C dL_refused_16 rfl 1 rfl ?_
    refine J.ldc (pc := 17) C (v := 1000000) dL_refused_17 tw_687 ?_
    refine J.iremM (pc := 19) C dL_refused_19 (by decide) ?_
    refine J.ldc (pc := 20) C (v := 100001) dL_refused_20 tw_688 ?_
    refine J.iadd (pc := 22) C dL_refused_22 ?_
    exact J.sub (loc' := [(0, .ref (Xad X x0))]) [0] rfl (L23 σ ((irm x1 1000000) + 100001) _ hf hp)
  · refine J.bipush (pc := 4) C (v := (-11)) dL_refused_4 (by decide) ?_
    refine J.iload_n (pc := 6) C dL_refused_6 rfl 1 rfl ?_
    refine J.ldc (pc := 7) C (v := 1000000) dL_refused_7 tw_687 ?_
    obtain ⟨r_94, h_93, hf⟩ := bnd_some hf
    refine J.callS (pc := 9) C (m_L_up h_93) trivial wyL_up tsL_up tw_377 [.int x1, .int 1000000] [.int (-11)] rfl rfl (Nat.le_of_ble_eq_true rfl) (Nat.le_of_ble_eq_true rfl) (Nat.le_of_ble_eq_true rfl) (stk' := [.int r_94, .int (-11)]) rfl dL_refused_9 rfl ?_
    refine J.isub (pc := 12) C dL_refused_12 ?_
    refine J.goto (pc := 13) C (tgt := 23) dL_refused_13 (by decide) ?_
    exact J.sub (loc' := [(0, .ref (Xad X x0))]) [0] rfl (L23 σ ((-11) - r_94) _ hf hp)
