set_option maxHeartbeats 8000000 in
set_option maxRecDepth 100000 in
theorem m_L_act {l : Launch} {n : Nat} {w : Nat} {σ : Mem} {x0 : Nat} {x1 : Int32} {x2 : Int32} {x3 : Int32} {t0 : (Int32 × Mem)} (hf : f_L_act n w σ x0 x1 x2 x3 = some t0) : CtA l yL_act cL_act 10 ((some FieldType.boolean)) 7 178 (2 * w + 3) (6 * w + 18) (fun ks => Ok ks x0 8) (fun ad => [.ref (ad x0), .int x1, .int x2, .int x3]) σ (fun _ => some (.int t0.1)) t0.2 := by
  have L447 : ∀ (σ : Mem) (x4 : Int32) (t : (Int32 × Mem)), f_L_act_L447 n w σ x0 x4 = some t → t = t0 → ∀ (X : Ctx), Cx X RL cL_act 10 ((some FieldType.boolean)) 7 178 → Cl (Xks X) → (∀ k, k ∈ Xks X → k < 105) → Ok (Xks X) x0 8 → RtE X (2 * w + 3) (6 * w + 18) (fun _ => some (.int t0.1)) t0.2 → J X 447 [(0, .ref (Xad X x0)), (4, .int x4)] [] σ := by
    intro σ x4 t hf hp
    unfold f_L_act_L447 at hf
    intro X C hcl hlow hx0 hR
    refine J.aload_n (pc := 447) C dL_act_447 rfl 0 rfl ?_
    refine J.iconst (pc := 448) C (v := 2) dL_act_448 (by decide) ?_
    obtain ⟨r_22, h_21, hf⟩ := bnd_some hf
    refine J.callV (pc := 449) C (m_X8_state h_21) hx0 wyX8_state tvX8_state_i tvX8_state_s tw_387 kcX8 rfl hx0 [.int 2] [] rfl rfl (Nat.le_of_ble_eq_true rfl) (Nat.le_of_ble_eq_true rfl) (Nat.le_of_ble_eq_true rfl) (stk' := [.int r_22]) rfl dL_act_449 rfl ?_
    refine J.iload (pc := 452) C dL_act_452 1 rfl ?_
    refine J.icmp_ne (pc := 454) C (tgt := 461) dL_act_454 (by decide) hf (fun hf => ?_) (fun hf => ?_)
    · refine J.iconst (pc := 461) C (v := 0) dL_act_461 (by decide) ?_
      exact J.zretE (pc := 462) C rfl hR ((Option.some.inj hf).trans hp) dL_act_462
    · refine J.iconst (pc := 457) C (v := 1) dL_act_457 (by decide) ?_
      refine J.goto (pc := 458) C (tgt := 462) dL_act_458 (by decide) ?_
      exact J.zretE (pc := 462) C rfl hR ((Option.some.inj hf).trans hp) dL_act_462
  have L390 : ∀ (σ : Mem) (t : (Int32 × Mem)), f_L_act_L390 n w σ x0 = some t → t = t0 → ∀ (X : Ctx), Cx X RL cL_act 10 ((some FieldType.boolean)) 7 178 → Cl (Xks X) → (∀ k, k ∈ Xks X → k < 105) → Ok (Xks X) x0 8 → RtE X (2 * w + 3) (6 * w + 18) (fun _ => some (.int t0.1)) t0.2 → J X 390 [] [] σ := by
    intro σ t hf hp
    unfold f_L_act_L390 at hf
    intro X C hcl hlow hx0 hR
    refine J.iconst (pc := 390) C (v := 0) dL_act_390 (by decide) ?_
    refine J.goto (pc := 391) C (tgt := 462) dL_act_391 (by decide) ?_
    exact J.zretE (pc := 462) C rfl hR ((Option.some.inj hf).trans hp) dL_act_462
  have L52 : ∀ (σ : Mem) (x2 : Int32) (t : (Int32 × Mem)), f_L_act_L52 n w σ x0 x2 = some t → t = t0 → ∀ (X : Ctx), Cx X RL cL_act 10 ((some FieldType.boolean)) 7 178 → Cl (Xks X) → (∀ k, k ∈ Xks X → k < 105) → Ok (Xks X) x0 8 → RtE X (2 * w + 3) (6 * w + 18) (fun _ => some (.int t0.1)) t0.2 → J X 52 [(0, .ref (Xad X x0)), (2, .int x2)] [] σ := by
    intro σ x2 t hf hp
    unfold f_L_act_L52 at hf
    intro X C hcl hlow hx0 hR
    refine J.aload_n (pc := 52) C dL_act_52 rfl 0 rfl ?_
    refine J.iconst (pc := 53) C (v := 1) dL_act_53 (by decide) ?_
    refine J.iload_n (pc := 54) C dL_act_54 rfl 1 rfl ?_
    refine J.bipush (pc := 55) C (v := 7) dL_act_55 (by decide) ?_
    obtain ⟨r_31, h_30, hf⟩ := bnd_some hf
    refine J.callS (pc := 57) C (m_L_up h_30) trivial wyL_up tsL_up tw_377 [.int x2, .int 7] [.int 1, .ref (Xad X x0)] rfl rfl (Nat.le_of_ble_eq_true rfl) (Nat.le_of_ble_eq_true rfl) (Nat.le_of_ble_eq_true rfl) (stk' := [.int r_31, .int 1, .ref (Xad X x0)]) rfl dL_act_57 rfl ?_
    refine J.iadd (pc := 60) C dL_act_60 ?_
    obtain ⟨r_33, σ_34, h_32, hf⟩ := bnd2_some hf
    refine J.callSX (pc := 61) C (m_L_ticks h_32) hlow hx0 (hR.rm (by omega) (by omega)) wyL_ticks tsL_ticks tw_384 [.ref (Xad X x0), .int (1 + r_31)] [] rfl rfl (Nat.le_of_ble_eq_true rfl) (Nat.le_of_ble_eq_true rfl) (Nat.le_of_ble_eq_true rfl) (stk' := [.int r_33]) rfl dL_act_61 rfl (P := fun X => RtE X (0) (0) (fun _ => some (.int t0.1)) t0.2) (RtE.add (hR.mono (by omega) (by omega))) (fun X C hk had hR => ?_)
    have hcl : Cl (Xks X) := by rw [hk]; exact hcl
    have hlow : ∀ k, k ∈ Xks X → k < 105 := by rw [hk]; exact hlow
    have hx0 : Ok (Xks X) x0 8 := by rw [hk]; exact hx0
    rw [← had]
    obtain ⟨hbit, hf⟩ := chk_some hf
    exact J.zretE (pc := 64) C (bit_nar hbit) hR ((Option.some.inj hf).trans hp) dL_act_64
  have L65 : ∀ (σ : Mem) (x2 : Int32) (x3 : Int32) (t : (Int32 × Mem)), f_L_act_L65 n w σ x0 x2 x3 = some t → t = t0 → ∀ (X : Ctx), Cx X RL cL_act 10 ((some FieldType.boolean)) 7 178 → Cl (Xks X) → (∀ k, k ∈ Xks X → k < 105) → Ok (Xks X) x0 8 → RtE X (2 * w + 3) (6 * w + 18) (fun _ => some (.int t0.1)) t0.2 → J X 65 [(0, .ref (Xad X x0)), (2, .int x2), (3, .int x3)] [] σ := by
    intro σ x2 x3 t hf hp
    unfold f_L_act_L65 at hf
    intro X C hcl hlow hx0 hR
    refine J.aload_n (pc := 65) C dL_act_65 rfl 0 rfl ?_
    refine J.iconst (pc := 66) C (v := 0) dL_act_66 (by decide) ?_
    obtain ⟨r_36, h_35, hf⟩ := bnd_some hf
    refine J.callV (pc := 67) C (m_X8_state h_35) hx0 wyX8_state tvX8_state_i tvX8_state_s tw_387 kcX8 rfl hx0 [.int 0] [] rfl rfl (Nat.le_of_ble_eq_true rfl) (Nat.le_of_ble_eq_true rfl) (Nat.le_of_ble_eq_true rfl) (stk' := [.int r_36]) rfl dL_act_67 rfl ?_
    refine J.iload_n (pc := 70) C dL_act_70 rfl 1 rfl ?_
    refine J.bipush (pc := 71) C (v := 25) dL_act_71 (by decide) ?_
    obtain ⟨r_38, h_37, hf⟩ := bnd_some hf
    refine J.callS (pc := 73) C (m_L_up h_37) trivial wyL_up tsL_up tw_377 [.int x2, .int 25] [.int r_36] rfl rfl (Nat.le_of_ble_eq_true rfl) (Nat.le_of_ble_eq_true rfl) (Nat.le_of_ble_eq_true rfl) (stk' := [.int r_38, .int r_36]) rfl dL_act_73 rfl ?_
    refine J.iadd (pc := 76) C dL_act_76 ?_
    refine J.nmI hf (fun x4_39 hf => ?_)
    refine J.istore (pc := 77) C (loc' := [(4, .int x4_39), (0, .ref (Xad X x0)), (2, .int x2), (3, .int x3)]) dL_act_77 (by decide) rfl ?_
    refine J.aload_n (pc := 79) C dL_act_79 rfl 1 rfl ?_
    refine J.iconst (pc := 80) C (v := 2) dL_act_80 (by decide) ?_
    obtain ⟨r_41, h_40, hf⟩ := bnd_some hf
    refine J.callV (pc := 81) C (m_X8_state h_40) hx0 wyX8_state tvX8_state_i tvX8_state_s tw_387 kcX8 rfl hx0 [.int 2] [] rfl rfl (Nat.le_of_ble_eq_true rfl) (Nat.le_of_ble_eq_true rfl) (Nat.le_of_ble_eq_true rfl) (stk' := [.int r_41]) rfl dL_act_81 rfl ?_
    refine J.istore (pc := 84) C (loc' := [(5, .int r_41), (4, .int x4_39), (0, .ref (Xad X x0)), (2, .int x2), (3, .int x3)]) dL_act_84 (by decide) rfl ?_
    refine J.aload_n (pc := 86) C dL_act_86 rfl 2 rfl ?_
    refine J.iload (pc := 87) C dL_act_87 1 rfl ?_
    refine J.iconst (pc := 89) C (v := 1) dL_act_89 (by decide) ?_
    refine J.iload_n (pc := 90) C dL_act_90 rfl 3 rfl ?_
    refine J.iconst (pc := 91) C (v := 5) dL_act_91 (by decide) ?_
    refine J.ishr (pc := 92) C dL_act_92 ?_
    refine J.sipush (pc := 93) C (v := 4095) dL_act_93 (by decide) ?_
    obtain ⟨r_43, h_42, hf⟩ := bnd_some hf
    refine J.callS (pc := 96) C (m_L_up h_42) trivial wyL_up tsL_up tw_377 [.int (x2 >>> (5 &&& 31)), .int 4095] [.int 1, .int x4_39, .ref (Xad X x0)] rfl rfl (Nat.le_of_ble_eq_true rfl) (Nat.le_of_ble_eq_true rfl) (Nat.le_of_ble_eq_true rfl) (stk' := [.int r_43, .int 1, .int x4_39, .ref (Xad X x0)]) rfl dL_act_96 rfl ?_
    refine J.iadd (pc := 99) C dL_act_99 ?_
    refine J.iload_n (pc := 100) C dL_act_100 rfl 4 rfl ?_
    refine J.sipush (pc := 101) C (v := 1001) dL_act_101 (by decide) ?_
    obtain ⟨r_45, h_44, hf⟩ := bnd_some hf
    refine J.callS (pc := 104) C (m_L_up h_44) trivial wyL_up tsL_up tw_377 [.int x3, .int 1001] [.int (1 + r_43), .int x4_39, .ref (Xad X x0)] rfl rfl (Nat.le_of_ble_eq_true rfl) (Nat.le_of_ble_eq_true rfl) (Nat.le_of_ble_eq_true rfl) (stk' := [.int r_45, .int (1 + r_43), .int x4_39, .ref (Xad X x0)]) rfl dL_act_104 rfl ?_
    obtain ⟨r_47, σ_48, h_46, hf⟩ := bnd2_some hf
    refine J.callV (pc := 107) C (m_X8_cue h_46) hx0 wyX8_cue tvX8_cue_i tvX8_cue_s tw_522 kcX8 rfl hx0 [.int x4_39, .int (1 + r_43), .int r_45] [] rfl rfl (Nat.le_of_ble_eq_true rfl) (Nat.le_of_ble_eq_true rfl) (Nat.le_of_ble_eq_true rfl) (stk' := [.int r_47]) rfl dL_act_107 rfl ?_
    refine J.istore (pc := 110) C (loc' := [(6, .int r_47), (5, .int r_41), (4, .int x4_39), (0, .ref (Xad X x0)), (2, .int x2), (3, .int x3)]) dL_act_110 (by decide) rfl ?_
    refine J.iload (pc := 112) C dL_act_112 0 rfl ?_
    refine J.if_lt (pc := 114) C (tgt := 162) dL_act_114 (by decide) hf (fun hf => ?_) (fun hf => ?_)
    · refine J.iconst (pc := 162) C (v := 0) dL_act_162 (by decide) ?_
      exact J.zretE (pc := 163) C rfl hR ((Option.some.inj hf).trans hp) dL_act_163
    · refine J.aload_n (pc := 117) C dL_act_117 rfl 3 rfl ?_
      refine J.iconst (pc := 118) C (v := 2) dL_act_118 (by decide) ?_
      obtain ⟨r_50, h_49, hf⟩ := bnd_some hf
      refine J.callV (pc := 119) C (m_X8_state h_49) hx0 wyX8_state tvX8_state_i tvX8_state_s tw_387 kcX8 rfl hx0 [.int 2] [] rfl rfl (Nat.le_of_ble_eq_true rfl) (Nat.le_of_ble_eq_true rfl) (Nat.le_of_ble_eq_true rfl) (stk' := [.int r_50]) rfl dL_act_119 rfl ?_
      refine J.iload (pc := 122) C dL_act_122 1 rfl ?_
      refine J.iconst (pc := 124) C (v := 1) dL_act_124 (by decide) ?_
      refine J.iadd (pc := 125) C dL_act_125 ?_
      refine J.icmp_ne (pc := 126) C (tgt := 162) dL_act_126 (by decide) hf (fun hf => ?_) (fun hf => ?_)
      · refine J.iconst (pc := 162) C (v := 0) dL_act_162 (by decide) ?_
        exact J.zretE (pc := 163) C rfl hR ((Option.some.inj hf).trans hp) dL_act_163
      · refine J.aload_n (pc := 129) C dL_act_129 rfl 3 rfl ?_
        refine J.iload (pc := 130) C dL_act_130 0 rfl ?_
        refine J.iconst (pc := 132) C (v := 0) dL_act_132 (by decide) ?_
        obtain ⟨r_52, h_51, hf⟩ := bnd_some hf
        refine J.callV (pc := 133) C (m_X8_part h_51) hx0 wyX8_part tvX8_part_i tvX8_part_s tw_537 kcX8 rfl hx0 [.int r_47, .int 0] [] rfl rfl (Nat.le_of_ble_eq_true rfl) (Nat.le_of_ble_eq_true rfl) (Nat.le_of_ble_eq_true rfl) (stk' := [.int r_52]) rfl dL_act_133 rfl ?_
        refine J.iload (pc := 136) C dL_act_136 2 rfl ?_
        refine J.icmp_ne (pc := 138) C (tgt := 162) dL_act_138 (by decide) hf (fun hf => ?_) (fun hf => ?_)
        · refine J.iconst (pc := 162) C (v := 0) dL_act_162 (by decide) ?_
          exact J.zretE (pc := 163) C rfl hR ((Option.some.inj hf).trans hp) dL_act_163
        · refine J.aload_n (pc := 141) C dL_act_141 rfl 3 rfl ?_
          refine J.iload (pc := 142) C dL_act_142 0 rfl ?_
          refine J.iconst (pc := 144) C (v := 2) dL_act_144 (by decide) ?_
          obtain ⟨r_54, h_53, hf⟩ := bnd_some hf
          refine J.callV (pc := 145) C (m_X8_part h_53) hx0 wyX8_part tvX8_part_i tvX8_part_s tw_537 kcX8 rfl hx0 [.int r_47, .int 2] [] rfl rfl (Nat.le_of_ble_eq_true rfl) (Nat.le_of_ble_eq_true rfl) (Nat.le_of_ble_eq_true rfl) (stk' := [.int r_54]) rfl dL_act_145 rfl ?_
          refine J.iload_n (pc := 148) C dL_act_148 rfl 5 rfl ?_
          refine J.sipush (pc := 149) C (v := 1001) dL_act_149 (by decide) ?_
          obtain ⟨r_56, h_55, hf⟩ := bnd_some hf
          refine J.callS (pc := 152) C (m_L_up h_55) trivial wyL_up tsL_up tw_377 [.int x3, .int 1001] [.int r_54] rfl rfl (Nat.le_of_ble_eq_true rfl) (Nat.le_of_ble_eq_true rfl) (Nat.le_of_ble_eq_true rfl) (stk' := [.int r_56, .int r_54]) rfl dL_act_152 rfl ?_
          refine J.icmp_ne (pc := 155) C (tgt := 162) dL_act_155 (by decide) hf (fun hf => ?_) (fun hf => ?_)
          · refine J.iconst (pc := 162) C (v := 0) dL_act_162 (by decide) ?_
            exact J.zretE (pc := 163) C rfl hR ((Option.some.inj hf).trans hp) dL_act_163
          · refine J.iconst (pc := 158) C (v := 1) dL_act_158 (by decide) ?_
            refine J.goto (pc := 159) C (tgt := 163) dL_act_159 (by decide) ?_
            exact J.zretE (pc := 163) C rfl hR ((Option.some.inj hf).trans hp) dL_act_163
  have L205 : ∀ (σ : Mem) (x4 : Int32) (x5 : Int32) (x6 : Int32) (t : (Int32 × Mem)), f_L_act_L205 n w σ x0 x4 x5 x6 = some t → t = t0 → ∀ (X : Ctx), Cx X RL cL_act 10 ((some FieldType.boolean)) 7 178 → Cl (Xks X) → (∀ k, k ∈ Xks X → k < 105) → Ok (Xks X) x0 8 → RtE X (2 * w + 3) (6 * w + 18) (fun _ => some (.int t0.1)) t0.2 → J X 205 [(0, .ref (Xad X x0)), (4, .int x4), (5, .int x5), (6, .int x6)] [] σ := by
    intro σ x4 x5 x6 t hf hp
    unfold f_L_act_L205 at hf
    refine J_iter (JJ := fun (s : Int32) => (∀ (X : Ctx), Cx X RL cL_act 10 ((some FieldType.boolean)) 7 178 → Cl (Xks X) → (∀ k, k ∈ Xks X → k < 105) → Ok (Xks X) x0 8 → RtE X (2 * w + 3) (6 * w + 18) (fun _ => some (.int t0.1)) t0.2 → J X 205 [(0, .ref (Xad X x0)), (4, .int x4), (5, .int x5), (6, .int s)] [] σ)) (Ps := fun t => t = t0) ?_ w x6 t hf hp
    clear hf hp
    intro s t hf hp hq
    obtain ⟨x6, rfl⟩ : ∃ z, z = s := ⟨_, rfl⟩
    have hp := And.intro hp hq
    clear hq
    have hf : f_L_act_B205 n w σ x0 x4 x5 x6 = some t := hf
    intro X C hcl hlow hx0 hR
    show J X 205 [(0, .ref (Xad X x0)), (4, .int x4), (5, .int x5), (6, .int x6)] [] σ
    unfold f_L_act_B205 at hf
    refine J.iload (pc := 205) C dL_act_205 3 rfl ?_
    refine J.aload_n (pc := 207) C dL_act_207 rfl 0 rfl ?_
    refine J.iconst (pc := 208) C (v := 1) dL_act_208 (by decide) ?_
    obtain ⟨r_68, h_67, hf⟩ := bnd_some hf
    refine J.callV (pc := 209) C (m_X8_state h_67) hx0 wyX8_state tvX8_state_i tvX8_state_s tw_387 kcX8 rfl hx0 [.int 1] [.int x6] rfl rfl (Nat.le_of_ble_eq_true rfl) (Nat.le_of_ble_eq_true rfl) (Nat.le_of_ble_eq_true rfl) (stk' := [.int r_68, .int x6]) rfl dL_act_209 rfl ?_
    refine J.icmp_ge (pc := 212) C (tgt := 247) dL_act_212 (by decide) hf (fun hf => ?_) (fun hf => ?_)
    · refine J.iconst (pc := 247) C (v := 1) dL_act_247 (by decide) ?_
      exact J.zretE (pc := 248) C rfl hR ((hp.1 _ (Option.some.inj hf).symm)) dL_act_248
    · refine J.iload (pc := 215) C dL_act_215 2 rfl ?_
      refine J.iload (pc := 217) C dL_act_217 3 rfl ?_
      refine J.ishr (pc := 219) C dL_act_219 ?_
      refine J.iconst (pc := 220) C (v := 1) dL_act_220 (by decide) ?_
      refine J.iand (pc := 221) C dL_act_221 ?_
      refine J.iconst (pc := 222) C (v := 1) dL_act_222 (by decide) ?_
      refine J.icmp_ne (pc := 223) C (tgt := 241) dL_act_223 (by decide) hf (fun hf => ?_) (fun hf => ?_)
      · obtain ⟨x6_69, hx_x6_69, hf⟩ := nm_some hf
        refine J.iinc (pc := 241) C (v := x6_69) (loc' := [(6, .int x6_69), (0, .ref (Xad X x0)), (4, .int x4), (5, .int x5)]) dL_act_241 (k := 3) rfl (by rw [hx_x6_69]; rfl) (by decide) rfl ?_
        refine J.goto (pc := 244) C (tgt := 205) dL_act_244 (by decide) ?_
        exact J.sub (loc' := [(0, .ref (Xad X x0)), (4, .int x4), (5, .int x5), (6, .int x6_69)]) [1, 2, 3, 0] rfl ((hp.2 _ (Option.some.inj hf).symm) X C hcl hlow hx0 (hR.mono (by omega) (by omega)))
      · refine J.aload_n (pc := 226) C dL_act_226 rfl 0 rfl ?_
        refine J.iload (pc := 227) C dL_act_227 3 rfl ?_
        refine J.bipush (pc := 229) C (v := 6) dL_act_229 (by decide) ?_
        obtain ⟨r_71, h_70, hf⟩ := bnd_some hf
        refine J.callV (pc := 231) C (m_X8_spray h_70) hx0 wyX8_spray tvX8_spray_i tvX8_spray_s tw_403 kcX8 rfl hx0 [.int x6, .int 6] [] rfl rfl (Nat.le_of_ble_eq_true rfl) (Nat.le_of_ble_eq_true rfl) (Nat.le_of_ble_eq_true rfl) (stk' := [.int r_71]) rfl dL_act_231 rfl ?_
        refine J.iload (pc := 234) C dL_act_234 1 rfl ?_
        refine J.icmp_eq (pc := 236) C (tgt := 241) dL_act_236 (by decide) hf (fun hf => ?_) (fun hf => ?_)
        · obtain ⟨x6_72, hx_x6_72, hf⟩ := nm_some hf
          refine J.iinc (pc := 241) C (v := x6_72) (loc' := [(6, .int x6_72), (0, .ref (Xad X x0)), (4, .int x4), (5, .int x5)]) dL_act_241 (k := 3) rfl (by rw [hx_x6_72]; rfl) (by decide) rfl ?_
          refine J.goto (pc := 244) C (tgt := 205) dL_act_244 (by decide) ?_
          exact J.sub (loc' := [(0, .ref (Xad X x0)), (4, .int x4), (5, .int x5), (6, .int x6_72)]) [1, 2, 3, 0] rfl ((hp.2 _ (Option.some.inj hf).symm) X C hcl hlow hx0 (hR.mono (by omega) (by omega)))
        · refine J.iconst (pc := 239) C (v := 0) dL_act_239 (by decide) ?_
          exact J.zretE (pc := 240) C rfl hR ((hp.1 _ (Option.some.inj hf).symm)) dL_act_240
  have hp : t0 = t0 := rfl
  refine CtA.of (plainFor_of_name (by decide)) (fun _ => Nat.le_of_ble_eq_true rfl) ?_
  intro X C hcl hlow hx0 hR
  have C : Cx X RL cL_act 10 ((some FieldType.boolean)) 7 178 := C
  show J X 0 [(0, .ref (Xad X x0)), (1, .int x1), (2, .int x2), (3, .int x3)] [] σ
  unfold f_L_act at hf
  refine J.iload_n (pc := 0) C dL_act_0 rfl 1 rfl ?_
  refine J.bipush (pc := 1) C (v := 9) dL_act_1 (by decide) ?_
  obtain ⟨r_2, h_1, hf⟩ := bnd_some hf
  refine J.callS (pc := 3) C (m_L_up h_1) trivial wyL_up tsL_up tw_377 [.int x1, .int 9] [] rfl rfl (Nat.le_of_ble_eq_true rfl) (Nat.le_of_ble_eq_true rfl) (Nat.le_of_ble_eq_true rfl) (stk' := [.int r_2]) rfl dL_act_3 rfl ?_
  refine J.tblIn (pc := 6) C dL_act_6 0 hf (by decide) (by decide) rfl (tgt := 52) (by decide) (fun hf => ?_) (fun hn0 hf => ?_)
  · exact J.sub (loc' := [(0, .ref (Xad X x0)), (2, .int x2)]) [0, 2] rfl (L52 σ x2 _ hf hp X C hcl hlow hx0 (hR.mono (by omega) (by omega)))
  refine J.tblIn (pc := 6) C dL_act_6 1 hf (by decide) (by decide) rfl (tgt := 52) (by decide) (fun hf => ?_) (fun hn1 hf => ?_)
  · exact J.sub (loc' := [(0, .ref (Xad X x0)), (2, .int x2)]) [0, 2] rfl (L52 σ x2 _ hf hp X C hcl hlow hx0 (hR.mono (by omega) (by omega)))
  refine J.tblIn (pc := 6) C dL_act_6 2 hf (by decide) (by decide) rfl (tgt := 52) (by decide) (fun hf => ?_) (fun hn2 hf => ?_)
  · exact J.sub (loc' := [(0, .ref (Xad X x0)), (2, .int x2)]) [0, 2] rfl (L52 σ x2 _ hf hp X C hcl hlow hx0 (hR.mono (by omega) (by omega)))
  refine J.tblIn (pc := 6) C dL_act_6 3 hf (by decide) (by decide) rfl (tgt := 52) (by decide) (fun hf => ?_) (fun hn3 hf => ?_)
  · exact J.sub (loc' := [(0, .ref (Xad X x0)), (2, .int x2)]) [0, 2] rfl (L52 σ x2 _ hf hp X C hcl hlow hx0 (hR.mono (by omega) (by omega)))
  refine J.tblIn (pc := 6) C dL_act_6 4 hf (by decide) (by decide) rfl (tgt := 65) (by decide) (fun hf => ?_) (fun hn4 hf => ?_)
  · exact J.sub (loc' := [(0, .ref (Xad X x0)), (2, .int x2), (3, .int x3)]) [0, 2, 3] rfl (L65 σ x2 x3 _ hf hp X C hcl hlow hx0 (hR.mono (by omega) (by omega)))
  refine J.tblIn (pc := 6) C dL_act_6 5 hf (by decide) (by decide) rfl (tgt := 65) (by decide) (fun hf => ?_) (fun hn5 hf => ?_)
  · exact J.sub (loc' := [(0, .ref (Xad X x0)), (2, .int x2), (3, .int x3)]) [0, 2, 3] rfl (L65 σ x2 x3 _ hf hp X C hcl hlow hx0 (hR.mono (by omega) (by omega)))
  refine J.tblIn (pc := 6) C dL_act_6 6 hf (by decide) (by decide) rfl (tgt := 164) (by decide) (fun hf => ?_) (fun hn6 hf => ?_)
  · refine J.iload_n (pc := 164) C dL_act_164 rfl 3 rfl ?_
    refine J.sipush (pc := 165) C (v := 1001) dL_act_165 (by decide) ?_
    obtain ⟨r_58, h_57, hf⟩ := bnd_some hf
    refine J.callS (pc := 168) C (m_L_up h_57) trivial wyL_up tsL_up tw_377 [.int x3, .int 1001] [] rfl rfl (Nat.le_of_ble_eq_true rfl) (Nat.le_of_ble_eq_true rfl) (Nat.le_of_ble_eq_true rfl) (stk' := [.int r_58]) rfl dL_act_168 rfl ?_
    refine J.istore (pc := 171) C (loc' := [(4, .int r_58), (0, .ref (Xad X x0)), (1, .int x1), (2, .int x2), (3, .int x3)]) dL_act_171 (by decide) rfl ?_
    refine J.iconst (pc := 173) C (v := 1) dL_act_173 (by decide) ?_
    refine J.iload_n (pc := 174) C dL_act_174 rfl 3 rfl ?_
    refine J.sipush (pc := 175) C (v := 4095) dL_act_175 (by decide) ?_
    obtain ⟨r_60, h_59, hf⟩ := bnd_some hf
    refine J.callS (pc := 178) C (m_L_up h_59) trivial wyL_up tsL_up tw_377 [.int x2, .int 4095] [.int 1] rfl rfl (Nat.le_of_ble_eq_true rfl) (Nat.le_of_ble_eq_true rfl) (Nat.le_of_ble_eq_true rfl) (stk' := [.int r_60, .int 1]) rfl dL_act_178 rfl ?_
    refine J.iadd (pc := 181) C dL_act_181 ?_
    refine J.nmI hf (fun x5_61 hf => ?_)
    refine J.istore (pc := 182) C (loc' := [(5, .int x5_61), (4, .int r_58), (0, .ref (Xad X x0)), (1, .int x1), (2, .int x2), (3, .int x3)]) dL_act_182 (by decide) rfl ?_
    refine J.aload_n (pc := 184) C dL_act_184 rfl 2 rfl ?_
    refine J.iload (pc := 185) C dL_act_185 0 rfl ?_
    refine J.iload (pc := 187) C dL_act_187 1 rfl ?_
    obtain ⟨r_63, σ_64, h_62, hf⟩ := bnd2_some hf
    refine J.callV (pc := 189) C (m_X8_command h_62) hx0 wyX8_command tvX8_command_i tvX8_command_s tw_546 kcX8 rfl hx0 [.int x5_61, .int r_58] [] rfl rfl (Nat.le_of_ble_eq_true rfl) (Nat.le_of_ble_eq_true rfl) (Nat.le_of_ble_eq_true rfl) (stk' := [.int r_63]) rfl dL_act_189 rfl ?_
    refine J.aload_n (pc := 192) C dL_act_192 rfl 2 rfl ?_
    refine J.iconst (pc := 193) C (v := 0) dL_act_193 (by decide) ?_
    obtain ⟨r_66, h_65, hf⟩ := bnd_some hf
    refine J.callV (pc := 194) C (m_X8_state h_65) hx0 wyX8_state tvX8_state_i tvX8_state_s tw_387 kcX8 rfl hx0 [.int 0] [.int r_63] rfl rfl (Nat.le_of_ble_eq_true rfl) (Nat.le_of_ble_eq_true rfl) (Nat.le_of_ble_eq_true rfl) (stk' := [.int r_66, .int r_63]) rfl dL_act_194 rfl ?_
    refine J.icmp_eq (pc := 197) C (tgt := 202) dL_act_197 (by decide) hf (fun hf => ?_) (fun hf => ?_)
    · refine J.iconst (pc := 202) C (v := 0) dL_act_202 (by decide) ?_
      refine J.istore (pc := 203) C (loc' := [(6, .int 0), (5, .int x5_61), (4, .int r_58), (0, .ref (Xad X x0)), (1, .int x1), (2, .int x2), (3, .int x3)]) dL_act_203 (by decide) rfl ?_
      exact J.sub (loc' := [(0, .ref (Xad X x0)), (4, .int r_58), (5, .int x5_61), (6, .int 0)]) [3, 2, 1, 0] rfl (L205 σ_64 r_58 x5_61 0 _ hf hp X C hcl hlow hx0 (hR.mono (by omega) (by omega)))
    · refine J.iconst (pc := 200) C (v := 0) dL_act_200 (by decide) ?_
      exact J.zretE (pc := 201) C rfl hR ((Option.some.inj hf).trans hp) dL_act_201
  refine J.tblIn (pc := 6) C dL_act_6 7 hf (by decide) (by decide) rfl (tgt := 249) (by decide) (fun hf => ?_) (fun hn7 hf => ?_)
  · refine J.aload_n (pc := 249) C dL_act_249 rfl 0 rfl ?_
    refine J.iload_n (pc := 250) C dL_act_250 rfl 3 rfl ?_
    refine J.sipush (pc := 251) C (v := 301) dL_act_251 (by decide) ?_
    obtain ⟨r_74, h_73, hf⟩ := bnd_some hf
    refine J.callS (pc := 254) C (m_L_up h_73) trivial wyL_up tsL_up tw_377 [.int x3, .int 301] [.ref (Xad X x0)] rfl rfl (Nat.le_of_ble_eq_true rfl) (Nat.le_of_ble_eq_true rfl) (Nat.le_of_ble_eq_true rfl) (stk' := [.int r_74, .ref (Xad X x0)]) rfl dL_act_254 rfl ?_
    obtain ⟨r_76, σ_77, h_75, hf⟩ := bnd2_some hf
    refine J.callV (pc := 257) C (m_X8_wind h_75) hx0 wyX8_wind tvX8_wind_i tvX8_wind_s tw_551 kcX8 rfl hx0 [.int r_74] [] rfl rfl (Nat.le_of_ble_eq_true rfl) (Nat.le_of_ble_eq_true rfl) (Nat.le_of_ble_eq_true rfl) (stk' := [.int r_76]) rfl dL_act_257 rfl ?_
    refine J.if_lt (pc := 260) C (tgt := 282) dL_act_260 (by decide) hf (fun hf => ?_) (fun hf => ?_)
    · refine J.iconst (pc := 282) C (v := 0) dL_act_282 (by decide) ?_
      exact J.zretE (pc := 283) C rfl hR ((Option.some.inj hf).trans hp) dL_act_283
    · refine J.aload_n (pc := 263) C dL_act_263 rfl 0 rfl ?_
      refine J.iconst (pc := 264) C (v := 3) dL_act_264 (by decide) ?_
      obtain ⟨r_79, h_78, hf⟩ := bnd_some hf
      refine J.callV (pc := 265) C (m_X8_state h_78) hx0 wyX8_state tvX8_state_i tvX8_state_s tw_387 kcX8 rfl hx0 [.int 3] [] rfl rfl (Nat.le_of_ble_eq_true rfl) (Nat.le_of_ble_eq_true rfl) (Nat.le_of_ble_eq_true rfl) (stk' := [.int r_79]) rfl dL_act_265 rfl ?_
      refine J.iload_n (pc := 268) C dL_act_268 rfl 3 rfl ?_
      refine J.sipush (pc := 269) C (v := 301) dL_act_269 (by decide) ?_
      obtain ⟨r_81, h_80, hf⟩ := bnd_some hf
      refine J.callS (pc := 272) C (m_L_up h_80) trivial wyL_up tsL_up tw_377 [.int x3, .int 301] [.int r_79] rfl rfl (Nat.le_of_ble_eq_true rfl) (Nat.le_of_ble_eq_true rfl) (Nat.le_of_ble_eq_true rfl) (stk' := [.int r_81, .int r_79]) rfl dL_act_272 rfl ?_
      refine J.icmp_ne (pc := 275) C (tgt := 282) dL_act_275 (by decide) hf (fun hf => ?_) (fun hf => ?_)
      · refine J.iconst (pc := 282) C (v := 0) dL_act_282 (by decide) ?_
        exact J.zretE (pc := 283) C rfl hR ((Option.some.inj hf).trans hp) dL_act_283
      · refine J.iconst (pc := 278) C (v := 1) dL_act_278 (by decide) ?_
        refine J.goto (pc := 279) C (tgt := 283) dL_act_279 (by decide) ?_
        exact J.zretE (pc := 283) C rfl hR ((Option.some.inj hf).trans hp) dL_act_283
  refine J.tblOut (pc := 6) C dL_act_6 (by have q0 := lv_neT hn0 (a := 0) (by decide); have q1 := lv_neT hn1 (a := 1) (by decide); have q2 := lv_neT hn2 (a := 2) (by decide); have q3 := lv_neT hn3 (a := 3) (by decide); have q4 := lv_neT hn4 (a := 4) (by decide); have q5 := lv_neT hn5 (a := 5) (by decide); have q6 := lv_neT hn6 (a := 6) (by decide); have q7 := lv_neT hn7 (a := 7) (by decide); omega) (tgt := 284) (by decide) ?_
  refine J.aload_n (pc := 284) C dL_act_284 rfl 0 rfl ?_
  refine J.iconst (pc := 285) C (v := 2) dL_act_285 (by decide) ?_
  obtain ⟨r_4, h_3, hf⟩ := bnd_some hf
  refine J.callV (pc := 286) C (m_X8_state h_3) hx0 wyX8_state tvX8_state_i tvX8_state_s tw_387 kcX8 rfl hx0 [.int 2] [] rfl rfl (Nat.le_of_ble_eq_true rfl) (Nat.le_of_ble_eq_true rfl) (Nat.le_of_ble_eq_true rfl) (stk' := [.int r_4]) rfl dL_act_286 rfl ?_
  refine J.istore (pc := 289) C (loc' := [(4, .int r_4), (0, .ref (Xad X x0)), (1, .int x1), (2, .int x2), (3, .int x3)]) dL_act_289 (by decide) rfl ?_
  refine J.iload (pc := 291) C dL_act_291 0 rfl ?_
  refine J.if_ne (pc := 293) C (tgt := 312) dL_act_293 (by decide) hf (fun hf => ?_) (fun hf => ?_)
  · refine J.iload_n (pc := 312) C dL_act_312 rfl 3 rfl ?_
    refine J.iload (pc := 313) C dL_act_313 0 rfl ?_
    obtain ⟨r_6, h_5, hf⟩ := bnd_some hf
    refine J.callS (pc := 315) C (m_L_up h_5) trivial wyL_up tsL_up tw_377 [.int x2, .int r_4] [] rfl rfl (Nat.le_of_ble_eq_true rfl) (Nat.le_of_ble_eq_true rfl) (Nat.le_of_ble_eq_true rfl) (stk' := [.int r_6]) rfl dL_act_315 rfl ?_
    refine J.istore (pc := 318) C (loc' := [(5, .int r_6), (4, .int r_4), (0, .ref (Xad X x0)), (1, .int x1), (2, .int x2), (3, .int x3)]) dL_act_318 (by decide) rfl ?_
    refine J.aload_n (pc := 320) C dL_act_320 rfl 2 rfl ?_
    refine J.iload (pc := 321) C dL_act_321 0 rfl ?_
    refine J.iconst (pc := 323) C (v := 0) dL_act_323 (by decide) ?_
    obtain ⟨r_8, h_7, hf⟩ := bnd_some hf
    refine J.callV (pc := 324) C (m_X8_part h_7) hx0 wyX8_part tvX8_part_i tvX8_part_s tw_537 kcX8 rfl hx0 [.int r_6, .int 0] [] rfl rfl (Nat.le_of_ble_eq_true rfl) (Nat.le_of_ble_eq_true rfl) (Nat.le_of_ble_eq_true rfl) (stk' := [.int r_8]) rfl dL_act_324 rfl ?_
    refine J.istore (pc := 327) C (loc' := [(6, .int r_8), (5, .int r_6), (4, .int r_4), (0, .ref (Xad X x0)), (1, .int x1), (2, .int x2), (3, .int x3)]) dL_act_327 (by decide) rfl ?_
    refine J.aload_n (pc := 329) C dL_act_329 rfl 3 rfl ?_
    refine J.iload (pc := 330) C dL_act_330 1 rfl ?_
    refine J.iconst (pc := 332) C (v := 1) dL_act_332 (by decide) ?_
    obtain ⟨r_10, h_9, hf⟩ := bnd_some hf
    refine J.callV (pc := 333) C (m_X8_part h_9) hx0 wyX8_part tvX8_part_i tvX8_part_s tw_537 kcX8 rfl hx0 [.int r_6, .int 1] [] rfl rfl (Nat.le_of_ble_eq_true rfl) (Nat.le_of_ble_eq_true rfl) (Nat.le_of_ble_eq_true rfl) (stk' := [.int r_10]) rfl dL_act_333 rfl ?_
    refine J.istore (pc := 336) C (loc' := [(7, .int r_10), (6, .int r_8), (5, .int r_6), (4, .int r_4), (0, .ref (Xad X x0)), (1, .int x1), (2, .int x2), (3, .int x3)]) dL_act_336 (by decide) rfl ?_
    refine J.iload_n (pc := 338) C dL_act_338 rfl 7 rfl ?_
    refine J.bipush (pc := 339) C (v := 41) dL_act_339 (by decide) ?_
    obtain ⟨r_12, h_11, hf⟩ := bnd_some hf
    refine J.callS (pc := 341) C (m_L_up h_11) trivial wyL_up tsL_up tw_377 [.int x3, .int 41] [] rfl rfl (Nat.le_of_ble_eq_true rfl) (Nat.le_of_ble_eq_true rfl) (Nat.le_of_ble_eq_true rfl) (stk' := [.int r_12]) rfl dL_act_341 rfl ?_
    refine J.bipush (pc := 344) C (v := 20) dL_act_344 (by decide) ?_
    refine J.isub (pc := 346) C dL_act_346 ?_
    refine J.nmI hf (fun x8_13 hf => ?_)
    refine J.istore (pc := 347) C (loc' := [(8, .int x8_13), (7, .int r_10), (6, .int r_8), (5, .int r_6), (4, .int r_4), (0, .ref (Xad X x0)), (1, .int x1), (2, .int x2), (3, .int x3)]) dL_act_347 (by decide) rfl ?_
    refine J.aload_n (pc := 349) C dL_act_349 rfl 5 rfl ?_
    refine J.iload (pc := 350) C dL_act_350 3 rfl ?_
    refine J.iload (pc := 352) C dL_act_352 0 rfl ?_
    obtain ⟨r_15, σ_16, h_14, hf⟩ := bnd2_some hf
    refine J.callV (pc := 354) C (m_X8_move h_14) hx0 wyX8_move tvX8_move_i tvX8_move_s tw_555 kcX8 rfl hx0 [.int r_6, .int x8_13] [] rfl rfl (Nat.le_of_ble_eq_true rfl) (Nat.le_of_ble_eq_true rfl) (Nat.le_of_ble_eq_true rfl) (stk' := [.int r_15]) rfl dL_act_354 rfl ?_
    refine J.istore (pc := 357) C (loc' := [(9, .int r_15), (8, .int x8_13), (7, .int r_10), (6, .int r_8), (5, .int r_6), (4, .int r_4), (0, .ref (Xad X x0)), (1, .int x1), (2, .int x2), (3, .int x3)]) dL_act_357 (by decide) rfl ?_
    refine J.iload (pc := 359) C dL_act_359 3 rfl ?_
    refine J.iload (pc := 361) C dL_act_361 1 rfl ?_
    refine J.iadd (pc := 363) C dL_act_363 ?_
    refine J.if_ge (pc := 364) C (tgt := 394) dL_act_364 (by decide) hf (fun hf => ?_) (fun hf => ?_)
    · refine J.aload_n (pc := 394) C dL_act_394 rfl 6 rfl ?_
      refine J.iload (pc := 395) C dL_act_395 0 rfl ?_
      refine J.iconst (pc := 397) C (v := 0) dL_act_397 (by decide) ?_
      obtain ⟨r_18, h_17, hf⟩ := bnd_some hf
      refine J.callV (pc := 398) C (m_X8_part h_17) hx0 wyX8_part tvX8_part_i tvX8_part_s tw_537 kcX8 rfl hx0 [.int r_15, .int 0] [] rfl rfl (Nat.le_of_ble_eq_true rfl) (Nat.le_of_ble_eq_true rfl) (Nat.le_of_ble_eq_true rfl) (stk' := [.int r_18]) rfl dL_act_398 rfl ?_
      refine J.iload (pc := 401) C dL_act_401 3 rfl ?_
      refine J.iload (pc := 403) C dL_act_403 1 rfl ?_
      refine J.iadd (pc := 405) C dL_act_405 ?_
      refine J.icmp_ne (pc := 406) C (tgt := 461) dL_act_406 (by decide) hf (fun hf => ?_) (fun hf => ?_)
      · refine J.iconst (pc := 461) C (v := 0) dL_act_461 (by decide) ?_
        exact J.zretE (pc := 462) C rfl hR ((Option.some.inj hf).trans hp) dL_act_462
      · refine J.aload_n (pc := 409) C dL_act_409 rfl 6 rfl ?_
        refine J.iload (pc := 410) C dL_act_410 0 rfl ?_
        refine J.iconst (pc := 412) C (v := 1) dL_act_412 (by decide) ?_
        obtain ⟨r_20, h_19, hf⟩ := bnd_some hf
        refine J.callV (pc := 413) C (m_X8_part h_19) hx0 wyX8_part tvX8_part_i tvX8_part_s tw_537 kcX8 rfl hx0 [.int r_15, .int 1] [] rfl rfl (Nat.le_of_ble_eq_true rfl) (Nat.le_of_ble_eq_true rfl) (Nat.le_of_ble_eq_true rfl) (stk' := [.int r_20]) rfl dL_act_413 rfl ?_
        refine J.iload (pc := 416) C dL_act_416 2 rfl ?_
        refine J.icmp_ne (pc := 418) C (tgt := 461) dL_act_418 (by decide) hf (fun hf => ?_) (fun hf => ?_)
        · refine J.iconst (pc := 461) C (v := 0) dL_act_461 (by decide) ?_
          exact J.zretE (pc := 462) C rfl hR ((Option.some.inj hf).trans hp) dL_act_462
        · refine J.iload (pc := 421) C dL_act_421 0 rfl ?_
          refine J.iload (pc := 423) C dL_act_423 5 rfl ?_
          refine J.iconst (pc := 425) C (v := 1) dL_act_425 (by decide) ?_
          refine J.isub (pc := 426) C dL_act_426 ?_
          refine J.icmp_eq (pc := 427) C (tgt := 447) dL_act_427 (by decide) hf (fun hf => ?_) (fun hf => ?_)
          · exact J.sub (loc' := [(0, .ref (Xad X x0)), (4, .int r_4)]) [6, 5] rfl (L447 σ_16 r_4 _ hf hp X C hcl hlow hx0 (hR.mono (by omega) (by omega)))
          · refine J.aload_n (pc := 430) C dL_act_430 rfl 6 rfl ?_
            refine J.iload (pc := 431) C dL_act_431 0 rfl ?_
            refine J.iconst (pc := 433) C (v := 1) dL_act_433 (by decide) ?_
            refine J.iadd (pc := 434) C dL_act_434 ?_
            refine J.iconst (pc := 435) C (v := 0) dL_act_435 (by decide) ?_
            obtain ⟨r_24, h_23, hf⟩ := bnd_some hf
            refine J.callV (pc := 436) C (m_X8_part h_23) hx0 wyX8_part tvX8_part_i tvX8_part_s tw_537 kcX8 rfl hx0 [.int (r_15 + 1), .int 0] [] rfl rfl (Nat.le_of_ble_eq_true rfl) (Nat.le_of_ble_eq_true rfl) (Nat.le_of_ble_eq_true rfl) (stk' := [.int r_24]) rfl dL_act_436 rfl ?_
            refine J.iload (pc := 439) C dL_act_439 3 rfl ?_
            refine J.iload (pc := 441) C dL_act_441 1 rfl ?_
            refine J.iadd (pc := 443) C dL_act_443 ?_
            refine J.icmp_le (pc := 444) C (tgt := 461) dL_act_444 (by decide) hf (fun hf => ?_) (fun hf => ?_)
            · refine J.iconst (pc := 461) C (v := 0) dL_act_461 (by decide) ?_
              exact J.zretE (pc := 462) C rfl hR ((Option.some.inj hf).trans hp) dL_act_462
            · exact J.sub (loc' := [(0, .ref (Xad X x0)), (4, .int r_4)]) [6, 5] rfl (L447 σ_16 r_4 _ hf hp X C hcl hlow hx0 (hR.mono (by omega) (by omega)))
    · refine J.iload (pc := 367) C dL_act_367 0 rfl ?_
      refine J.bipush (pc := 369) C (v := (-2)) dL_act_369 (by decide) ?_
      refine J.icmp_ne (pc := 371) C (tgt := 390) dL_act_371 (by decide) hf (fun hf => ?_) (fun hf => ?_)
      · exact J.sub (loc' := []) [] rfl (L390 σ_16 _ hf hp X C hcl hlow hx0 (hR.mono (by omega) (by omega)))
      · refine J.aload_n (pc := 374) C dL_act_374 rfl 6 rfl ?_
        refine J.iload (pc := 375) C dL_act_375 4 rfl ?_
        refine J.iconst (pc := 377) C (v := 0) dL_act_377 (by decide) ?_
        obtain ⟨r_26, h_25, hf⟩ := bnd_some hf
        refine J.callV (pc := 378) C (m_X8_part h_25) hx0 wyX8_part tvX8_part_i tvX8_part_s tw_537 kcX8 rfl hx0 [.int r_6, .int 0] [] rfl rfl (Nat.le_of_ble_eq_true rfl) (Nat.le_of_ble_eq_true rfl) (Nat.le_of_ble_eq_true rfl) (stk' := [.int r_26]) rfl dL_act_378 rfl ?_
        refine J.iload (pc := 381) C dL_act_381 3 rfl ?_
        refine J.icmp_ne (pc := 383) C (tgt := 390) dL_act_383 (by decide) hf (fun hf => ?_) (fun hf => ?_)
        · exact J.sub (loc' := []) [] rfl (L390 σ_16 _ hf hp X C hcl hlow hx0 (hR.mono (by omega) (by omega)))
        · refine J.iconst (pc := 386) C (v := 1) dL_act_386 (by decide) ?_
          refine J.goto (pc := 387) C (tgt := 462) dL_act_387 (by decide) ?_
          exact J.zretE (pc := 462) C rfl hR ((Option.some.inj hf).trans hp) dL_act_462
  · refine J.aload_n (pc := 296) C dL_act_296 rfl 1 rfl ?_
    refine J.iconst (pc := 297) C (v := 0) dL_act_297 (by decide) ?_
    refine J.iconst (pc := 298) C (v := 1) dL_act_298 (by decide) ?_
    obtain ⟨r_28, σ_29, h_27, hf⟩ := bnd2_some hf
    refine J.callV (pc := 299) C (m_X8_move h_27) hx0 wyX8_move tvX8_move_i tvX8_move_s tw_555 kcX8 rfl hx0 [.int 0, .int 1] [] rfl rfl (Nat.le_of_ble_eq_true rfl) (Nat.le_of_ble_eq_true rfl) (Nat.le_of_ble_eq_true rfl) (stk' := [.int r_28]) rfl dL_act_299 rfl ?_
    refine J.iconst (pc := 302) C (v := (-1)) dL_act_302 (by decide) ?_
    refine J.icmp_ne (pc := 303) C (tgt := 310) dL_act_303 (by decide) hf (fun hf => ?_) (fun hf => ?_)
    · refine J.iconst (pc := 310) C (v := 0) dL_act_310 (by decide) ?_
      exact J.zretE (pc := 311) C rfl hR ((Option.some.inj hf).trans hp) dL_act_311
    · refine J.iconst (pc := 306) C (v := 1) dL_act_306 (by decide) ?_
      refine J.goto (pc := 307) C (tgt := 311) dL_act_307 (by decide) ?_
      exact J.zretE (pc := 311) C rfl hR ((Option.some.inj hf).trans hp) dL_act_311
