set_option maxHeartbeats 4000000 in
set_option maxRecDepth 100000 in
theorem m_X8_restore {l : Launch} {σ : Mem} {k : Nat} {x1 : Int32} {t0 : (Int32 × Mem)} (hf : f_X8_restore σ k x1 = some t0) : Ct l yX8_restore cX8_restore 3 (some FieldType.int) 5 102 (fun ks => Ok ks k 8) (fun ad => [.ref (ad k), .int x1]) σ (fun _ => some (.int t0.1)) t0.2 := by
  refine Ct.of (plainFor_of_name (by decide)) (fun _ => Nat.le_of_ble_eq_true rfl) ?_
  intro X C _ hk hcl hR
  have C : Cx X RX8 cX8_restore 3 (some FieldType.int) 5 102 := C
  have hp : t0 = t0 := rfl
  show J X 0 [(0, .ref (Xad X k)), (1, .int x1)] [] σ
  unfold f_X8_restore at hf
  refine J.aload_n (pc := 0) C dX8_restore_0 rfl 0 rfl ?_
  refine J.iload_n (pc := 1) C dX8_restore_1 rfl 1 rfl ?_
  obtain ⟨r_2, h_1, hf⟩ := bnd_some hf
  cases r_2 with
  | none =>
    refine J.callV (pc := 2) C (m_X8_slotAt h_1) hk wyX8_slotAt tvX8_slotAt_i tvX8_slotAt_s tw_737 kcX8 rfl hk [.int x1] [] rfl rfl (Nat.le_of_ble_eq_true rfl) (Nat.le_of_ble_eq_true rfl) (Nat.le_of_ble_eq_true rfl) (stk' := [.null]) rfl dX8_restore_2 rfl ?_
    replace hf := mtc_none hf
    refine J.astoreN_n (pc := 5) C (loc' := [(2, .null), (0, .ref (Xad X k)), (1, .int x1)]) dX8_restore_5 rfl (by decide) rfl ?_
    refine J.aloadN_n (pc := 6) C dX8_restore_6 rfl 0 rfl ?_
    refine J.ifnonnullN (pc := 7) C dX8_restore_7 ?_
    refine J.bipush (pc := 10) C (v := (-2)) dX8_restore_10 (by decide) ?_
    exact J.iretM (pc := 12) C hR ((Option.some.inj hf).trans hp) dX8_restore_12
  | some q_3 =>
    refine J.callV (pc := 2) C (m_X8_slotAt h_1) hk wyX8_slotAt tvX8_slotAt_i tvX8_slotAt_s tw_737 kcX8 rfl hk [.int x1] [] rfl rfl (Nat.le_of_ble_eq_true rfl) (Nat.le_of_ble_eq_true rfl) (Nat.le_of_ble_eq_true rfl) (stk' := [.ref (Xad X q_3)]) rfl dX8_restore_2 rfl ?_
    obtain ⟨q_3_ok, hf⟩ := chk_some (mtc_some hf)
    refine J.astore_n (pc := 5) C (loc' := [(2, .ref (Xad X q_3)), (0, .ref (Xad X k)), (1, .int x1)]) dX8_restore_5 rfl (by decide) rfl ?_
    refine J.aload_n (pc := 6) C dX8_restore_6 rfl 0 rfl ?_
    refine J.ifnonnull (pc := 7) C (tgt := 13) dX8_restore_7 (by decide) ?_
    refine J.aload_n (pc := 13) C dX8_restore_13 rfl 0 rfl ?_
    refine J.getI (pc := 14) C kcX6 (ok_slot hcl hk q_3_ok) 1 rfl tw_287 rfl dX8_restore_14 ?_
    refine J.if_ne (pc := 17) C (tgt := 23) dX8_restore_17 (by decide) hf (fun hf => ?_) (fun hf => ?_)
    · refine J.aload_n (pc := 23) C dX8_restore_23 rfl 1 rfl ?_
      refine J.getR (pc := 24) C kcX8 hk 0 rfl tw_326 rfl dX8_restore_24 ?_
      refine J.aload_n (pc := 27) C dX8_restore_27 rfl 0 rfl ?_
      refine J.getR (pc := 28) C kcX6 (ok_slot hcl hk q_3_ok) 0 rfl tw_285 rfl dX8_restore_28 ?_
      obtain ⟨σ_6, h_4, hf⟩ := bnd_some hf
      refine J.callV (pc := 31) C (m_X5_copy h_4) ⟨(ok_8_0 hcl hk), (ok_6_0 hcl (ok_slot hcl hk q_3_ok))⟩ wyX5_copy tvX5_copy_i tvX5_copy_s tw_605 kcX5 rfl (ok_8_0 hcl hk) [.ref (Xad X (ptr q_3 0))] [] rfl rfl (Nat.le_of_ble_eq_true rfl) (Nat.le_of_ble_eq_true rfl) (Nat.le_of_ble_eq_true rfl) (stk' := []) rfl dX8_restore_31 rfl ?_
      refine J.aload_n (pc := 34) C dX8_restore_34 rfl 1 rfl ?_
      refine J.getR (pc := 35) C kcX8 hk 0 rfl tw_326 rfl dX8_restore_35 ?_
      refine J.getI (pc := 38) C kcX5 (ok_8_0 hcl hk) 5 rfl tw_258 rfl dX8_restore_38 ?_
      exact J.iretM (pc := 41) C hR ((Option.some.inj hf).trans hp) dX8_restore_41
    · refine J.bipush (pc := 20) C (v := (-5)) dX8_restore_20 (by decide) ?_
      exact J.iretM (pc := 22) C hR ((Option.some.inj hf).trans hp) dX8_restore_22
set_option maxHeartbeats 4000000 in
set_option maxRecDepth 100000 in
theorem m_X9_in {l : Launch} {x0 : Int32} {x1 : Int32} {x2 : Int32} {σ : Mem} {t0 : Int32} (hf : f_X9_in x0 x1 x2 = some t0) : Ct l yX9_in cX9_in 3 (some FieldType.boolean) 0 0 (fun _ => True) (fun _ => [.int x0, .int x1, .int x2]) σ (fun _ => some (.int t0)) σ := by
  refine Ct.of (plainFor_of_name (by decide)) (fun _ => Nat.le_of_ble_eq_true rfl) ?_
  intro X C _ _ hcl hR
  have C : Cx X RX9 cX9_in 3 (some FieldType.boolean) 0 0 := C
  have hp : t0 = t0 := rfl
  show J X 0 [(0, .int x0), (1, .int x1), (2, .int x2)] [] σ
  unfold f_X9_in at hf
  refine J.iload_n (pc := 0) C dX9_in_0 rfl 0 rfl ?_
  refine J.iload_n (pc := 1) C dX9_in_1 rfl 1 rfl ?_
  refine J.icmp_lt (pc := 2) C (tgt := 14) dX9_in_2 (by decide) hf (fun hf => ?_) (fun hf => ?_)
  · refine J.iconst (pc := 14) C (v := 0) dX9_in_14 (by decide) ?_
    exact J.zretP (pc := 15) C rfl hR ((Option.some.inj hf).trans hp) dX9_in_15
  · refine J.iload_n (pc := 5) C dX9_in_5 rfl 0 rfl ?_
    refine J.iload_n (pc := 6) C dX9_in_6 rfl 2 rfl ?_
    refine J.icmp_gt (pc := 7) C (tgt := 14) dX9_in_7 (by decide) hf (fun hf => ?_) (fun hf => ?_)
    · refine J.iconst (pc := 14) C (v := 0) dX9_in_14 (by decide) ?_
      exact J.zretP (pc := 15) C rfl hR ((Option.some.inj hf).trans hp) dX9_in_15
    · refine J.iconst (pc := 10) C (v := 1) dX9_in_10 (by decide) ?_
      refine J.goto (pc := 11) C (tgt := 15) dX9_in_11 (by decide) ?_
      exact J.zretP (pc := 15) C rfl hR ((Option.some.inj hf).trans hp) dX9_in_15
set_option maxHeartbeats 4000000 in
set_option maxRecDepth 100000 in
theorem m_X9_begin {l : Launch} {n : Nat} {σ : Mem} {k : Nat} {x1 : Int32} {t0 : Mem} (hf : f_X9_begin n σ k x1 = some t0) : Ct l yX9_begin cX9_begin 3 none 0 0 (fun ks => Ok ks k 9) (fun ad => [.ref (ad k), .int x1]) σ (fun _ => none) t0 := by
  refine Ct.of (plainFor_of_name (by decide)) (fun _ => Nat.le_of_ble_eq_true rfl) ?_
  intro X C _ hk hcl hR
  have C : Cx X RX9 cX9_begin 3 none 0 0 := C
  have L104 : ∀ (σ : Mem) (x1 : Int32) (x2 : Int32) (t : Mem), f_X9_begin_L104 n σ k x1 x2 = some t → t = t0 → J X 104 [(0, .ref (Xad X k)), (1, .int x1), (2, .int x2)] [] σ := by
    intro σ x1 x2 t hf hp
    unfold f_X9_begin_L104 at hf
    refine J_iter (JJ := fun (s : Mem × Int32) => J X 104 [(0, .ref (Xad X k)), (1, .int x1), (2, .int (s.2))] [] s.1) (Ps := fun t => t = t0) ?_ n (σ, x2) t hf hp
    clear hf hp
    intro s t hf hp hq
    obtain ⟨σ, x2⟩ := s
    have hp := And.intro hp hq
    clear hq
    have hf : f_X9_begin_B104 n σ k x1 x2 = some t := hf
    show J X 104 [(0, .ref (Xad X k)), (1, .int x1), (2, .int x2)] [] σ
    unfold f_X9_begin_B104 at hf
    refine J.iload_n (pc := 104) C dX9_begin_104 rfl 2 rfl ?_
    refine J.iconst (pc := 105) C (v := 3) dX9_begin_105 (by decide) ?_
    refine J.icmp_ge (pc := 106) C (tgt := 147) dX9_begin_106 (by decide) hf (fun hf => ?_) (fun hf => ?_)
    · refine J.aload_n (pc := 147) C dX9_begin_147 rfl 0 rfl ?_
      refine J.getR (pc := 148) C kcX9 hk 0 rfl tw_755 rfl dX9_begin_148 ?_
      refine J.sipush (pc := 151) C (v := 927) dX9_begin_151 (by decide) ?_
      refine J.iconst (pc := 154) C (v := 4) dX9_begin_154 (by decide) ?_
      refine J.iastM (pc := 155) C (ok_9_0 hcl hk) hf dX9_begin_155 (fun σ_1 hf => ?_)
      refine J.aload_n (pc := 156) C dX9_begin_156 rfl 0 rfl ?_
      refine J.getR (pc := 157) C kcX9 hk 0 rfl tw_755 rfl dX9_begin_157 ?_
      refine J.sipush (pc := 160) C (v := 928) dX9_begin_160 (by decide) ?_
      refine J.bipush (pc := 163) C (v := 80) dX9_begin_163 (by decide) ?_
      refine J.iastM (pc := 165) C (ok_9_0 hcl hk) hf dX9_begin_165 (fun σ_2 hf => ?_)
      refine J.aload_n (pc := 166) C dX9_begin_166 rfl 0 rfl ?_
      refine J.getR (pc := 167) C kcX9 hk 0 rfl tw_755 rfl dX9_begin_167 ?_
      refine J.sipush (pc := 170) C (v := 929) dX9_begin_170 (by decide) ?_
      refine J.sipush (pc := 173) C (v := 150) dX9_begin_173 (by decide) ?_
      refine J.iastM (pc := 176) C (ok_9_0 hcl hk) hf dX9_begin_176 (fun σ_3 hf => ?_)
      refine J.aload_n (pc := 177) C dX9_begin_177 rfl 0 rfl ?_
      refine J.getR (pc := 178) C kcX9 hk 0 rfl tw_755 rfl dX9_begin_178 ?_
      refine J.sipush (pc := 181) C (v := 930) dX9_begin_181 (by decide) ?_
      refine J.sipush (pc := 184) C (v := 500) dX9_begin_184 (by decide) ?_
      refine J.iastM (pc := 187) C (ok_9_0 hcl hk) hf dX9_begin_187 (fun σ_4 hf => ?_)
      refine J.aload_n (pc := 188) C dX9_begin_188 rfl 0 rfl ?_
      refine J.getR (pc := 189) C kcX9 hk 0 rfl tw_755 rfl dX9_begin_189 ?_
      refine J.sipush (pc := 192) C (v := 931) dX9_begin_192 (by decide) ?_
      refine J.bipush (pc := 195) C (v := 30) dX9_begin_195 (by decide) ?_
      refine J.iastM (pc := 197) C (ok_9_0 hcl hk) hf dX9_begin_197 (fun σ_5 hf => ?_)
      refine J.aload_n (pc := 198) C dX9_begin_198 rfl 0 rfl ?_
      refine J.getR (pc := 199) C kcX9 hk 0 rfl tw_755 rfl dX9_begin_199 ?_
      refine J.sipush (pc := 202) C (v := 932) dX9_begin_202 (by decide) ?_
      refine J.sipush (pc := 205) C (v := 200) dX9_begin_205 (by decide) ?_
      refine J.iastM (pc := 208) C (ok_9_0 hcl hk) hf dX9_begin_208 (fun σ_6 hf => ?_)
      refine J.aload_n (pc := 209) C dX9_begin_209 rfl 0 rfl ?_
      refine J.getR (pc := 210) C kcX9 hk 0 rfl tw_755 rfl dX9_begin_210 ?_
      refine J.sipush (pc := 213) C (v := 938) dX9_begin_213 (by decide) ?_
      refine J.iload_n (pc := 216) C dX9_begin_216 rfl 1 rfl ?_
      refine J.iastM (pc := 217) C (ok_9_0 hcl hk) hf dX9_begin_217 (fun σ_7 hf => ?_)
      exact J.vretM (pc := 218) C hR ((hp.1 _ (Option.some.inj hf).symm)) dX9_begin_218
    · refine J.aload_n (pc := 109) C dX9_begin_109 rfl 0 rfl ?_
      refine J.getR (pc := 110) C kcX9 hk 0 rfl tw_755 rfl dX9_begin_110 ?_
      refine J.sipush (pc := 113) C (v := 912) dX9_begin_113 (by decide) ?_
      refine J.iconst (pc := 116) C (v := 5) dX9_begin_116 (by decide) ?_
      refine J.iload_n (pc := 117) C dX9_begin_117 rfl 2 rfl ?_
      refine J.imul (pc := 118) C dX9_begin_118 ?_
      refine J.iadd (pc := 119) C dX9_begin_119 ?_
      refine J.iconst (pc := 120) C (v := 0) dX9_begin_120 (by decide) ?_
      refine J.iadd (pc := 121) C dX9_begin_121 ?_
      refine J.bipush (pc := 122) C (v := 100) dX9_begin_122 (by decide) ?_
      refine J.iastM (pc := 124) C (ok_9_0 hcl hk) hf dX9_begin_124 (fun σ_8 hf => ?_)
      refine J.aload_n (pc := 125) C dX9_begin_125 rfl 0 rfl ?_
      refine J.getR (pc := 126) C kcX9 hk 0 rfl tw_755 rfl dX9_begin_126 ?_
      refine J.sipush (pc := 129) C (v := 912) dX9_begin_129 (by decide) ?_
      refine J.iconst (pc := 132) C (v := 5) dX9_begin_132 (by decide) ?_
      refine J.iload_n (pc := 133) C dX9_begin_133 rfl 2 rfl ?_
      refine J.imul (pc := 134) C dX9_begin_134 ?_
      refine J.iadd (pc := 135) C dX9_begin_135 ?_
      refine J.iconst (pc := 136) C (v := 1) dX9_begin_136 (by decide) ?_
      refine J.iadd (pc := 137) C dX9_begin_137 ?_
      refine J.bipush (pc := 138) C (v := 20) dX9_begin_138 (by decide) ?_
      refine J.iastM (pc := 140) C (ok_9_0 hcl hk) hf dX9_begin_140 (fun σ_9 hf => ?_)
      obtain ⟨x2_10, hx_x2_10, hf⟩ := nm_some hf
      refine J.iinc (pc := 141) C (v := x2_10) (loc' := [(2, .int x2_10), (0, .ref (Xad X k)), (1, .int x1)]) dX9_begin_141 (k := 2) rfl (by rw [hx_x2_10]; rfl) (by decide) rfl ?_
      refine J.goto (pc := 144) C (tgt := 104) dX9_begin_144 (by decide) ?_
      exact J.sub (loc' := [(0, .ref (Xad X k)), (1, .int x1), (2, .int x2_10)]) [1, 2, 0] rfl (hp.2 _ (Option.some.inj hf).symm)
  have L24 : ∀ (σ : Mem) (x1 : Int32) (x2 : Int32) (t : Mem), f_X9_begin_L24 n σ k x1 x2 = some t → t = t0 → J X 24 [(0, .ref (Xad X k)), (1, .int x1), (2, .int x2)] [] σ := by
    intro σ x1 x2 t hf hp
    unfold f_X9_begin_L24 at hf
    refine J_iter (JJ := fun (s : Mem × Int32) => J X 24 [(0, .ref (Xad X k)), (1, .int x1), (2, .int (s.2))] [] s.1) (Ps := fun t => t = t0) ?_ n (σ, x2) t hf hp
    clear hf hp
    intro s t hf hp hq
    obtain ⟨σ, x2⟩ := s
    have hp := And.intro hp hq
    clear hq
    have hf : f_X9_begin_B24 n σ k x1 x2 = some t := hf
    show J X 24 [(0, .ref (Xad X k)), (1, .int x1), (2, .int x2)] [] σ
    unfold f_X9_begin_B24 at hf
    refine J.iload_n (pc := 24) C dX9_begin_24 rfl 2 rfl ?_
    refine J.bipush (pc := 25) C (v := 12) dX9_begin_25 (by decide) ?_
    refine J.icmp_ge (pc := 27) C (tgt := 102) dX9_begin_27 (by decide) hf (fun hf => ?_) (fun hf => ?_)
    · refine J.iconst (pc := 102) C (v := 0) dX9_begin_102 (by decide) ?_
      refine J.istore_n (pc := 103) C (loc' := [(2, .int 0), (0, .ref (Xad X k)), (1, .int x1)]) dX9_begin_103 rfl (by decide) rfl ?_
      obtain ⟨t0, hf, he⟩ := exi_some hf
      have hp := hp.1 _ he
      exact J.sub (loc' := [(0, .ref (Xad X k)), (1, .int x1), (2, .int 0)]) [1, 2, 0] rfl (L104 σ x1 0 _ hf hp)
    · refine J.aload_n (pc := 30) C dX9_begin_30 rfl 0 rfl ?_
      refine J.getR (pc := 31) C kcX9 hk 0 rfl tw_755 rfl dX9_begin_31 ?_
      refine J.bipush (pc := 34) C (v := 12) dX9_begin_34 (by decide) ?_
      refine J.iload_n (pc := 36) C dX9_begin_36 rfl 2 rfl ?_
      refine J.imul (pc := 37) C dX9_begin_37 ?_
      refine J.iconst (pc := 38) C (v := 0) dX9_begin_38 (by decide) ?_
      refine J.iadd (pc := 39) C dX9_begin_39 ?_
      refine J.bipush (pc := 40) C (v := 10) dX9_begin_40 (by decide) ?_
      refine J.iastM (pc := 42) C (ok_9_0 hcl hk) hf dX9_begin_42 (fun σ_11 hf => ?_)
      refine J.aload_n (pc := 43) C dX9_begin_43 rfl 0 rfl ?_
      refine J.getR (pc := 44) C kcX9 hk 0 rfl tw_755 rfl dX9_begin_44 ?_
      refine J.bipush (pc := 47) C (v := 12) dX9_begin_47 (by decide) ?_
      refine J.iload_n (pc := 49) C dX9_begin_49 rfl 2 rfl ?_
      refine J.imul (pc := 50) C dX9_begin_50 ?_
      refine J.iconst (pc := 51) C (v := 1) dX9_begin_51 (by decide) ?_
      refine J.iadd (pc := 52) C dX9_begin_52 ?_
      refine J.sipush (pc := 53) C (v := 1000) dX9_begin_53 (by decide) ?_
      refine J.iastM (pc := 56) C (ok_9_0 hcl hk) hf dX9_begin_56 (fun σ_12 hf => ?_)
      refine J.aload_n (pc := 57) C dX9_begin_57 rfl 0 rfl ?_
      refine J.getR (pc := 58) C kcX9 hk 0 rfl tw_755 rfl dX9_begin_58 ?_
      refine J.bipush (pc := 61) C (v := 12) dX9_begin_61 (by decide) ?_
      refine J.iload_n (pc := 63) C dX9_begin_63 rfl 2 rfl ?_
      refine J.imul (pc := 64) C dX9_begin_64 ?_
      refine J.iconst (pc := 65) C (v := 2) dX9_begin_65 (by decide) ?_
      refine J.iadd (pc := 66) C dX9_begin_66 ?_
      refine J.iconst (pc := 67) C (v := 3) dX9_begin_67 (by decide) ?_
      refine J.iastM (pc := 68) C (ok_9_0 hcl hk) hf dX9_begin_68 (fun σ_13 hf => ?_)
      refine J.aload_n (pc := 69) C dX9_begin_69 rfl 0 rfl ?_
      refine J.getR (pc := 70) C kcX9 hk 0 rfl tw_755 rfl dX9_begin_70 ?_
      refine J.bipush (pc := 73) C (v := 12) dX9_begin_73 (by decide) ?_
      refine J.iload_n (pc := 75) C dX9_begin_75 rfl 2 rfl ?_
      refine J.imul (pc := 76) C dX9_begin_76 ?_
      refine J.iconst (pc := 77) C (v := 3) dX9_begin_77 (by decide) ?_
      refine J.iadd (pc := 78) C dX9_begin_78 ?_
      refine J.sipush (pc := 79) C (v := 200) dX9_begin_79 (by decide) ?_
      refine J.iastM (pc := 82) C (ok_9_0 hcl hk) hf dX9_begin_82 (fun σ_14 hf => ?_)
      refine J.aload_n (pc := 83) C dX9_begin_83 rfl 0 rfl ?_
      refine J.getR (pc := 84) C kcX9 hk 0 rfl tw_755 rfl dX9_begin_84 ?_
      refine J.bipush (pc := 87) C (v := 12) dX9_begin_87 (by decide) ?_
      refine J.iload_n (pc := 89) C dX9_begin_89 rfl 2 rfl ?_
      refine J.imul (pc := 90) C dX9_begin_90 ?_
      refine J.iconst (pc := 91) C (v := 5) dX9_begin_91 (by decide) ?_
      refine J.iadd (pc := 92) C dX9_begin_92 ?_
      refine J.bipush (pc := 93) C (v := 10) dX9_begin_93 (by decide) ?_
      refine J.iastM (pc := 95) C (ok_9_0 hcl hk) hf dX9_begin_95 (fun σ_15 hf => ?_)
      obtain ⟨x2_16, hx_x2_16, hf⟩ := nm_some hf
      refine J.iinc (pc := 96) C (v := x2_16) (loc' := [(2, .int x2_16), (0, .ref (Xad X k)), (1, .int x1)]) dX9_begin_96 (k := 2) rfl (by rw [hx_x2_16]; rfl) (by decide) rfl ?_
      refine J.goto (pc := 99) C (tgt := 24) dX9_begin_99 (by decide) ?_
      exact J.sub (loc' := [(0, .ref (Xad X k)), (1, .int x1), (2, .int x2_16)]) [1, 2, 0] rfl (hp.2 _ (Option.some.inj hf).symm)
  have L2 : ∀ (σ : Mem) (x1 : Int32) (x2 : Int32) (t : Mem), f_X9_begin_L2 n σ k x1 x2 = some t → t = t0 → J X 2 [(0, .ref (Xad X k)), (1, .int x1), (2, .int x2)] [] σ := by
    intro σ x1 x2 t hf hp
    unfold f_X9_begin_L2 at hf
    refine J_iter (JJ := fun (s : Mem × Int32) => J X 2 [(0, .ref (Xad X k)), (1, .int x1), (2, .int (s.2))] [] s.1) (Ps := fun t => t = t0) ?_ n (σ, x2) t hf hp
    clear hf hp
    intro s t hf hp hq
    obtain ⟨σ, x2⟩ := s
    have hp := And.intro hp hq
    clear hq
    have hf : f_X9_begin_B2 n σ k x1 x2 = some t := hf
    show J X 2 [(0, .ref (Xad X k)), (1, .int x1), (2, .int x2)] [] σ
    unfold f_X9_begin_B2 at hf
    refine J.iload_n (pc := 2) C dX9_begin_2 rfl 2 rfl ?_
    refine J.sipush (pc := 3) C (v := 1121) dX9_begin_3 (by decide) ?_
    refine J.icmp_ge (pc := 6) C (tgt := 22) dX9_begin_6 (by decide) hf (fun hf => ?_) (fun hf => ?_)
    · refine J.iconst (pc := 22) C (v := 0) dX9_begin_22 (by decide) ?_
      refine J.istore_n (pc := 23) C (loc' := [(2, .int 0), (0, .ref (Xad X k)), (1, .int x1)]) dX9_begin_23 rfl (by decide) rfl ?_
      obtain ⟨t0, hf, he⟩ := exi_some hf
      have hp := hp.1 _ he
      exact J.sub (loc' := [(0, .ref (Xad X k)), (1, .int x1), (2, .int 0)]) [1, 2, 0] rfl (L24 σ x1 0 _ hf hp)
    · refine J.aload_n (pc := 9) C dX9_begin_9 rfl 0 rfl ?_
      refine J.getR (pc := 10) C kcX9 hk 0 rfl tw_755 rfl dX9_begin_10 ?_
      refine J.iload_n (pc := 13) C dX9_begin_13 rfl 2 rfl ?_
      refine J.iconst (pc := 14) C (v := 0) dX9_begin_14 (by decide) ?_
      refine J.iastM (pc := 15) C (ok_9_0 hcl hk) hf dX9_begin_15 (fun σ_17 hf => ?_)
      obtain ⟨x2_18, hx_x2_18, hf⟩ := nm_some hf
      refine J.iinc (pc := 16) C (v := x2_18) (loc' := [(2, .int x2_18), (0, .ref (Xad X k)), (1, .int x1)]) dX9_begin_16 (k := 2) rfl (by rw [hx_x2_18]; rfl) (by decide) rfl ?_
      refine J.goto (pc := 19) C (tgt := 2) dX9_begin_19 (by decide) ?_
      exact J.sub (loc' := [(0, .ref (Xad X k)), (1, .int x1), (2, .int x2_18)]) [1, 2, 0] rfl (hp.2 _ (Option.some.inj hf).symm)
  have hp : t0 = t0 := rfl
  show J X 0 [(0, .ref (Xad X k)), (1, .int x1)] [] σ
  unfold f_X9_begin at hf
  refine J.iconst (pc := 0) C (v := 0) dX9_begin_0 (by decide) ?_
  refine J.istore_n (pc := 1) C (loc' := [(2, .int 0), (0, .ref (Xad X k)), (1, .int x1)]) dX9_begin_1 rfl (by decide) rfl ?_
  exact J.sub (loc' := [(0, .ref (Xad X k)), (1, .int x1), (2, .int 0)]) [1, 2, 0] rfl (L2 σ x1 0 _ hf hp)
set_option maxHeartbeats 4000000 in
set_option maxRecDepth 100000 in
theorem m_X9_putAside {l : Launch} {n : Nat} {σ : Mem} {k : Nat} {t0 : Mem} (hf : f_X9_putAside n σ k = some t0) : Ct l yX9_putAside cX9_putAside 2 none 0 0 (fun ks => Ok ks k 9) (fun ad => [.ref (ad k)]) σ (fun _ => none) t0 := by
  refine Ct.of (plainFor_of_name (by decide)) (fun _ => Nat.le_of_ble_eq_true rfl) ?_
  intro X C _ hk hcl hR
  have C : Cx X RX9 cX9_putAside 2 none 0 0 := C
  have L2 : ∀ (σ : Mem) (x1 : Int32) (t : Mem), f_X9_putAside_L2 n σ k x1 = some t → t = t0 → J X 2 [(0, .ref (Xad X k)), (1, .int x1)] [] σ := by
    intro σ x1 t hf hp
    unfold f_X9_putAside_L2 at hf
    refine J_iter (JJ := fun (s : Mem × Int32) => J X 2 [(0, .ref (Xad X k)), (1, .int (s.2))] [] s.1) (Ps := fun t => t = t0) ?_ n (σ, x1) t hf hp
    clear hf hp
    intro s t hf hp hq
    obtain ⟨σ, x1⟩ := s
    have hp := And.intro hp hq
    clear hq
    have hf : f_X9_putAside_B2 n σ k x1 = some t := hf
    show J X 2 [(0, .ref (Xad X k)), (1, .int x1)] [] σ
    unfold f_X9_putAside_B2 at hf
    refine J.iload_n (pc := 2) C dX9_putAside_2 rfl 1 rfl ?_
    refine J.sipush (pc := 3) C (v := 1121) dX9_putAside_3 (by decide) ?_
    refine J.icmp_ge (pc := 6) C (tgt := 27) dX9_putAside_6 (by decide) hf (fun hf => ?_) (fun hf => ?_)
    · exact J.vretM (pc := 27) C hR ((hp.1 _ (Option.some.inj hf).symm)) dX9_putAside_27
    · refine J.aload_n (pc := 9) C dX9_putAside_9 rfl 0 rfl ?_
      refine J.getR (pc := 10) C kcX9 hk 1 rfl tw_756 rfl dX9_putAside_10 ?_
      refine J.iload_n (pc := 13) C dX9_putAside_13 rfl 1 rfl ?_
      refine J.aload_n (pc := 14) C dX9_putAside_14 rfl 0 rfl ?_
      refine J.getR (pc := 15) C kcX9 hk 0 rfl tw_755 rfl dX9_putAside_15 ?_
      refine J.iload_n (pc := 18) C dX9_putAside_18 rfl 1 rfl ?_
      refine J.iald (pc := 19) C (ok_9_0 hcl hk) hf dX9_putAside_19 (fun hf => ?_)
      refine J.iastM (pc := 20) C (ok_9_1 hcl hk) hf dX9_putAside_20 (fun σ_1 hf => ?_)
      obtain ⟨x1_2, hx_x1_2, hf⟩ := nm_some hf
      refine J.iinc (pc := 21) C (v := x1_2) (loc' := [(1, .int x1_2), (0, .ref (Xad X k))]) dX9_putAside_21 (k := 1) rfl (by rw [hx_x1_2]; rfl) (by decide) rfl ?_
      refine J.goto (pc := 24) C (tgt := 2) dX9_putAside_24 (by decide) ?_
      exact J.sub (loc' := [(0, .ref (Xad X k)), (1, .int x1_2)]) [1, 0] rfl (hp.2 _ (Option.some.inj hf).symm)
  have hp : t0 = t0 := rfl
  show J X 0 [(0, .ref (Xad X k))] [] σ
  unfold f_X9_putAside at hf
  refine J.iconst (pc := 0) C (v := 0) dX9_putAside_0 (by decide) ?_
  refine J.istore_n (pc := 1) C (loc' := [(1, .int 0), (0, .ref (Xad X k))]) dX9_putAside_1 rfl (by decide) rfl ?_
  exact J.sub (loc' := [(0, .ref (Xad X k)), (1, .int 0)]) [1, 0] rfl (L2 σ 0 _ hf hp)
set_option maxHeartbeats 4000000 in
set_option maxRecDepth 100000 in
theorem m_X9_putBack {l : Launch} {n : Nat} {σ : Mem} {k : Nat} {t0 : Mem} (hf : f_X9_putBack n σ k = some t0) : Ct l yX9_putBack cX9_putBack 2 none 0 0 (fun ks => Ok ks k 9) (fun ad => [.ref (ad k)]) σ (fun _ => none) t0 := by
  refine Ct.of (plainFor_of_name (by decide)) (fun _ => Nat.le_of_ble_eq_true rfl) ?_
  intro X C _ hk hcl hR
  have C : Cx X RX9 cX9_putBack 2 none 0 0 := C
  have L2 : ∀ (σ : Mem) (x1 : Int32) (t : Mem), f_X9_putBack_L2 n σ k x1 = some t → t = t0 → J X 2 [(0, .ref (Xad X k)), (1, .int x1)] [] σ := by
    intro σ x1 t hf hp
    unfold f_X9_putBack_L2 at hf
    refine J_iter (JJ := fun (s : Mem × Int32) => J X 2 [(0, .ref (Xad X k)), (1, .int (s.2))] [] s.1) (Ps := fun t => t = t0) ?_ n (σ, x1) t hf hp
    clear hf hp
    intro s t hf hp hq
    obtain ⟨σ, x1⟩ := s
    have hp := And.intro hp hq
    clear hq
    have hf : f_X9_putBack_B2 n σ k x1 = some t := hf
    show J X 2 [(0, .ref (Xad X k)), (1, .int x1)] [] σ
    unfold f_X9_putBack_B2 at hf
    refine J.iload_n (pc := 2) C dX9_putBack_2 rfl 1 rfl ?_
    refine J.sipush (pc := 3) C (v := 1121) dX9_putBack_3 (by decide) ?_
    refine J.icmp_ge (pc := 6) C (tgt := 27) dX9_putBack_6 (by decide) hf (fun hf => ?_) (fun hf => ?_)
    · exact J.vretM (pc := 27) C hR ((hp.1 _ (Option.some.inj hf).symm)) dX9_putBack_27
    · refine J.aload_n (pc := 9) C dX9_putBack_9 rfl 0 rfl ?_
      refine J.getR (pc := 10) C kcX9 hk 0 rfl tw_755 rfl dX9_putBack_10 ?_
      refine J.iload_n (pc := 13) C dX9_putBack_13 rfl 1 rfl ?_
      refine J.aload_n (pc := 14) C dX9_putBack_14 rfl 0 rfl ?_
      refine J.getR (pc := 15) C kcX9 hk 1 rfl tw_756 rfl dX9_putBack_15 ?_
      refine J.iload_n (pc := 18) C dX9_putBack_18 rfl 1 rfl ?_
      refine J.iald (pc := 19) C (ok_9_1 hcl hk) hf dX9_putBack_19 (fun hf => ?_)
      refine J.iastM (pc := 20) C (ok_9_0 hcl hk) hf dX9_putBack_20 (fun σ_1 hf => ?_)
      obtain ⟨x1_2, hx_x1_2, hf⟩ := nm_some hf
      refine J.iinc (pc := 21) C (v := x1_2) (loc' := [(1, .int x1_2), (0, .ref (Xad X k))]) dX9_putBack_21 (k := 1) rfl (by rw [hx_x1_2]; rfl) (by decide) rfl ?_
      refine J.goto (pc := 24) C (tgt := 2) dX9_putBack_24 (by decide) ?_
      exact J.sub (loc' := [(0, .ref (Xad X k)), (1, .int x1_2)]) [1, 0] rfl (hp.2 _ (Option.some.inj hf).symm)
  have hp : t0 = t0 := rfl
  show J X 0 [(0, .ref (Xad X k))] [] σ
  unfold f_X9_putBack at hf
  refine J.iconst (pc := 0) C (v := 0) dX9_putBack_0 (by decide) ?_
  refine J.istore_n (pc := 1) C (loc' := [(1, .int 0), (0, .ref (Xad X k))]) dX9_putBack_1 rfl (by decide) rfl ?_
  exact J.sub (loc' := [(0, .ref (Xad X k)), (1, .int 0)]) [1, 0] rfl (L2 σ 0 _ hf hp)
set_option maxHeartbeats 4000000 in
set_option maxRecDepth 100000 in
theorem m_X9_isNozzle {l : Launch} {σ : Mem} {k : Nat} {x1 : Int32} {t0 : Int32} (hf : f_X9_isNozzle σ k x1 = some t0) : Ct l yX9_isNozzle cX9_isNozzle 2 (some FieldType.boolean) 1 22 (fun ks => Ok ks k 9) (fun ad => [.ref (ad k), .int x1]) σ (fun _ => some (.int t0)) σ := by
  refine Ct.of (plainFor_of_name (by decide)) (fun _ => Nat.le_of_ble_eq_true rfl) ?_
  intro X C _ hk hcl hR
  have C : Cx X RX9 cX9_isNozzle 2 (some FieldType.boolean) 1 22 := C
  have hp : t0 = t0 := rfl
  show J X 0 [(0, .ref (Xad X k)), (1, .int x1)] [] σ
  unfold f_X9_isNozzle at hf
  refine J.iload_n (pc := 0) C dX9_isNozzle_0 rfl 1 rfl ?_
  refine J.iconst (pc := 1) C (v := 0) dX9_isNozzle_1 (by decide) ?_
  refine J.aload_n (pc := 2) C dX9_isNozzle_2 rfl 0 rfl ?_
  refine J.getR (pc := 3) C kcX9 hk 0 rfl tw_755 rfl dX9_isNozzle_3 ?_
  refine J.sipush (pc := 6) C (v := 938) dX9_isNozzle_6 (by decide) ?_
  refine J.iald (pc := 9) C (ok_9_0 hcl hk) hf dX9_isNozzle_9 (fun hf => ?_)
  refine J.iconst (pc := 10) C (v := 1) dX9_isNozzle_10 (by decide) ?_
  refine J.isub (pc := 11) C dX9_isNozzle_11 ?_
  obtain ⟨r_2, h_1, hf⟩ := bnd_some hf
  refine J.callS (pc := 12) C (m_X9_in h_1) trivial wyX9_in tsX9_in tw_791 [.int x1, .int 0, .int ((σ (ptr k 0) (ix 938)) - 1)] [] rfl rfl (Nat.le_of_ble_eq_true rfl) (Nat.le_of_ble_eq_true rfl) (Nat.le_of_ble_eq_true rfl) (stk' := [.int r_2]) rfl dX9_isNozzle_12 rfl ?_
  obtain ⟨hbit, hf⟩ := chk_some hf
  exact J.zretP (pc := 15) C (bit_nar hbit) hR ((Option.some.inj hf).trans hp) dX9_isNozzle_15
set_option maxHeartbeats 4000000 in
set_option maxRecDepth 100000 in
theorem m_X9_isPump {l : Launch} {x0 : Int32} {σ : Mem} {t0 : Int32} (hf : f_X9_isPump x0 = some t0) : Ct l yX9_isPump cX9_isPump 1 (some FieldType.boolean) 1 22 (fun _ => True) (fun _ => [.int x0]) σ (fun _ => some (.int t0)) σ := by
  refine Ct.of (plainFor_of_name (by decide)) (fun _ => Nat.le_of_ble_eq_true rfl) ?_
  intro X C _ _ hcl hR
  have C : Cx X RX9 cX9_isPump 1 (some FieldType.boolean) 1 22 := C
  have hp : t0 = t0 := rfl
  show J X 0 [(0, .int x0)] [] σ
  unfold f_X9_isPump at hf
  refine J.iload_n (pc := 0) C dX9_isPump_0 rfl 0 rfl ?_
  refine J.iconst (pc := 1) C (v := 0) dX9_isPump_1 (by decide) ?_
  refine J.iconst (pc := 2) C (v := 2) dX9_isPump_2 (by decide) ?_
  obtain ⟨r_2, h_1, hf⟩ := bnd_some hf
  refine J.callS (pc := 3) C (m_X9_in h_1) trivial wyX9_in tsX9_in tw_791 [.int x0, .int 0, .int 2] [] rfl rfl (Nat.le_of_ble_eq_true rfl) (Nat.le_of_ble_eq_true rfl) (Nat.le_of_ble_eq_true rfl) (stk' := [.int r_2]) rfl dX9_isPump_3 rfl ?_
  obtain ⟨hbit, hf⟩ := chk_some hf
  exact J.zretP (pc := 6) C (bit_nar hbit) hR ((Option.some.inj hf).trans hp) dX9_isPump_6
set_option maxHeartbeats 4000000 in
set_option maxRecDepth 100000 in
theorem m_X9_setUp {l : Launch} {n : Nat} {σ : Mem} {k : Nat} {x1 : Int32} {t0 : (Int32 × Mem)} (hf : f_X9_setUp n σ k x1 = some t0) : Ct l yX9_setUp cX9_setUp 3 (some FieldType.int) 1 22 (fun ks => Ok ks k 9) (fun ad => [.ref (ad k), .int x1]) σ (fun _ => some (.int t0.1)) t0.2 := by
  refine Ct.of (plainFor_of_name (by decide)) (fun _ => Nat.le_of_ble_eq_true rfl) ?_
  intro X C _ hk hcl hR
  have C : Cx X RX9 cX9_setUp 3 (some FieldType.int) 1 22 := C
  have hp : t0 = t0 := rfl
  show J X 0 [(0, .ref (Xad X k)), (1, .int x1)] [] σ
  unfold f_X9_setUp at hf
  refine J.iload_n (pc := 0) C dX9_setUp_0 rfl 1 rfl ?_
  refine J.iconst (pc := 1) C (v := 1) dX9_setUp_1 (by decide) ?_
  refine J.bipush (pc := 2) C (v := 12) dX9_setUp_2 (by decide) ?_
  obtain ⟨r_2, h_1, hf⟩ := bnd_some hf
  refine J.callS (pc := 4) C (m_X9_in h_1) trivial wyX9_in tsX9_in tw_791 [.int x1, .int 1, .int 12] [] rfl rfl (Nat.le_of_ble_eq_true rfl) (Nat.le_of_ble_eq_true rfl) (Nat.le_of_ble_eq_true rfl) (stk' := [.int r_2]) rfl dX9_setUp_4 rfl ?_
  refine J.if_ne (pc := 7) C (tgt := 13) dX9_setUp_7 (by decide) hf (fun hf => ?_) (fun hf => ?_)
  · refine J.aload_n (pc := 13) C dX9_setUp_13 rfl 0 rfl ?_
    refine J.getR (pc := 14) C kcX9 hk 0 rfl tw_755 rfl dX9_setUp_14 ?_
    refine J.sipush (pc := 17) C (v := 938) dX9_setUp_17 (by decide) ?_
    refine J.iald (pc := 20) C (ok_9_0 hcl hk) hf dX9_setUp_20 (fun hf => ?_)
    refine J.nmI hf (fun x2_3 hf => ?_)
    refine J.istore_n (pc := 21) C (loc' := [(2, .int x2_3), (0, .ref (Xad X k)), (1, .int x1)]) dX9_setUp_21 rfl (by decide) rfl ?_
    refine J.aload_n (pc := 22) C dX9_setUp_22 rfl 1 rfl ?_
    refine J.iload_n (pc := 23) C dX9_setUp_23 rfl 2 rfl ?_
    obtain ⟨σ_6, h_4, hf⟩ := bnd_some hf
    refine J.callV (pc := 24) C (m_X9_begin h_4) hk wyX9_begin tvX9_begin_i tvX9_begin_s tw_751 kcX9 rfl hk [.int x1] [] rfl rfl (Nat.le_of_ble_eq_true rfl) (Nat.le_of_ble_eq_true rfl) (Nat.le_of_ble_eq_true rfl) (stk' := []) rfl dX9_setUp_24 rfl ?_
    refine J.iload_n (pc := 27) C dX9_setUp_27 rfl 0 rfl ?_
    exact J.iretM (pc := 28) C hR ((Option.some.inj hf).trans hp) dX9_setUp_28
  · refine J.bipush (pc := 10) C (v := (-2)) dX9_setUp_10 (by decide) ?_
    exact J.iretM (pc := 12) C hR ((Option.some.inj hf).trans hp) dX9_setUp_12
set_option maxHeartbeats 4000000 in
set_option maxRecDepth 100000 in
theorem m_X9_change {l : Launch} {σ : Mem} {k : Nat} {x1 : Int32} {x2 : Int32} {t0 : (Int32 × Mem)} (hf : f_X9_change σ k x1 x2 = some t0) : Ct l yX9_change cX9_change 4 (some FieldType.int) 0 0 (fun ks => Ok ks k 9) (fun ad => [.ref (ad k), .int x1, .int x2]) σ (fun _ => some (.int t0.1)) t0.2 := by
  refine Ct.of (plainFor_of_name (by decide)) (fun _ => Nat.le_of_ble_eq_true rfl) ?_
  intro X C _ hk hcl hR
  have C : Cx X RX9 cX9_change 4 (some FieldType.int) 0 0 := C
  have hp : t0 = t0 := rfl
  show J X 0 [(0, .ref (Xad X k)), (1, .int x1), (2, .int x2)] [] σ
  unfold f_X9_change at hf
  refine J.aload_n (pc := 0) C dX9_change_0 rfl 0 rfl ?_
  refine J.getR (pc := 1) C kcX9 hk 0 rfl tw_755 rfl dX9_change_1 ?_
  refine J.iload_n (pc := 4) C dX9_change_4 rfl 1 rfl ?_
  refine J.iald (pc := 5) C (ok_9_0 hcl hk) hf dX9_change_5 (fun hf => ?_)
  refine J.nmI hf (fun x3_1 hf => ?_)
  refine J.istore_n (pc := 6) C (loc' := [(3, .int x3_1), (0, .ref (Xad X k)), (1, .int x1), (2, .int x2)]) dX9_change_6 rfl (by decide) rfl ?_
  refine J.aload_n (pc := 7) C dX9_change_7 rfl 1 rfl ?_
  refine J.getR (pc := 8) C kcX9 hk 0 rfl tw_755 rfl dX9_change_8 ?_
  refine J.iload_n (pc := 11) C dX9_change_11 rfl 2 rfl ?_
  refine J.iload_n (pc := 12) C dX9_change_12 rfl 3 rfl ?_
  refine J.iastM (pc := 13) C (ok_9_0 hcl hk) hf dX9_change_13 (fun σ_2 hf => ?_)
  refine J.iload_n (pc := 14) C dX9_change_14 rfl 0 rfl ?_
  exact J.iretM (pc := 15) C hR ((Option.some.inj hf).trans hp) dX9_change_15
set_option maxHeartbeats 4000000 in
set_option maxRecDepth 100000 in
theorem m_X9_isOfNozzle {l : Launch} {x0 : Int32} {x1 : Int32} {σ : Mem} {t0 : Int32} (hf : f_X9_isOfNozzle x0 x1 = some t0) : Ct l yX9_isOfNozzle cX9_isOfNozzle 2 (some FieldType.boolean) 1 22 (fun _ => True) (fun _ => [.int x0, .int x1]) σ (fun _ => some (.int t0)) σ := by
  refine Ct.of (plainFor_of_name (by decide)) (fun _ => Nat.le_of_ble_eq_true rfl) ?_
  intro X C _ _ hcl hR
  have C : Cx X RX9 cX9_isOfNozzle 2 (some FieldType.boolean) 1 22 := C
  have hp : t0 = t0 := rfl
  show J X 0 [(0, .int x0), (1, .int x1)] [] σ
  unfold f_X9_isOfNozzle at hf
  refine J.iload_n (pc := 0) C dX9_isOfNozzle_0 rfl 0 rfl ?_
  refine J.tblIn (pc := 1) C dX9_isOfNozzle_1 0 hf (by decide) (by decide) rfl (tgt := 36) (by decide) (fun hf => ?_) (fun hn0 hf => ?_)
  · refine J.iload_n (pc := 36) C dX9_isOfNozzle_36 rfl 1 rfl ?_
    refine J.iconst (pc := 37) C (v := 1) dX9_isOfNozzle_37 (by decide) ?_
    refine J.bipush (pc := 38) C (v := 100) dX9_isOfNozzle_38 (by decide) ?_
    obtain ⟨r_4, h_3, hf⟩ := bnd_some hf
    refine J.callS (pc := 40) C (m_X9_in h_3) trivial wyX9_in tsX9_in tw_791 [.int x1, .int 1, .int 100] [] rfl rfl (Nat.le_of_ble_eq_true rfl) (Nat.le_of_ble_eq_true rfl) (Nat.le_of_ble_eq_true rfl) (stk' := [.int r_4]) rfl dX9_isOfNozzle_40 rfl ?_
    obtain ⟨hbit, hf⟩ := chk_some hf
    exact J.zretP (pc := 43) C (bit_nar hbit) hR ((Option.some.inj hf).trans hp) dX9_isOfNozzle_43
  refine J.tblIn (pc := 1) C dX9_isOfNozzle_1 1 hf (by decide) (by decide) rfl (tgt := 44) (by decide) (fun hf => ?_) (fun hn1 hf => ?_)
  · refine J.iload_n (pc := 44) C dX9_isOfNozzle_44 rfl 1 rfl ?_
    refine J.iconst (pc := 45) C (v := 1) dX9_isOfNozzle_45 (by decide) ?_
    refine J.sipush (pc := 46) C (v := 5000) dX9_isOfNozzle_46 (by decide) ?_
    obtain ⟨r_6, h_5, hf⟩ := bnd_some hf
    refine J.callS (pc := 49) C (m_X9_in h_5) trivial wyX9_in tsX9_in tw_791 [.int x1, .int 1, .int 5000] [] rfl rfl (Nat.le_of_ble_eq_true rfl) (Nat.le_of_ble_eq_true rfl) (Nat.le_of_ble_eq_true rfl) (stk' := [.int r_6]) rfl dX9_isOfNozzle_49 rfl ?_
    obtain ⟨hbit, hf⟩ := chk_some hf
    exact J.zretP (pc := 52) C (bit_nar hbit) hR ((Option.some.inj hf).trans hp) dX9_isOfNozzle_52
  refine J.tblIn (pc := 1) C dX9_isOfNozzle_1 2 hf (by decide) (by decide) rfl (tgt := 53) (by decide) (fun hf => ?_) (fun hn2 hf => ?_)
  · refine J.iload_n (pc := 53) C dX9_isOfNozzle_53 rfl 1 rfl ?_
    refine J.iconst (pc := 54) C (v := 0) dX9_isOfNozzle_54 (by decide) ?_
    refine J.bipush (pc := 55) C (v := 50) dX9_isOfNozzle_55 (by decide) ?_
    obtain ⟨r_8, h_7, hf⟩ := bnd_some hf
    refine J.callS (pc := 57) C (m_X9_in h_7) trivial wyX9_in tsX9_in tw_791 [.int x1, .int 0, .int 50] [] rfl rfl (Nat.le_of_ble_eq_true rfl) (Nat.le_of_ble_eq_true rfl) (Nat.le_of_ble_eq_true rfl) (stk' := [.int r_8]) rfl dX9_isOfNozzle_57 rfl ?_
    obtain ⟨hbit, hf⟩ := chk_some hf
    exact J.zretP (pc := 60) C (bit_nar hbit) hR ((Option.some.inj hf).trans hp) dX9_isOfNozzle_60
  refine J.tblIn (pc := 1) C dX9_isOfNozzle_1 3 hf (by decide) (by decide) rfl (tgt := 61) (by decide) (fun hf => ?_) (fun hn3 hf => ?_)
  · refine J.iload_n (pc := 61) C dX9_isOfNozzle_61 rfl 1 rfl ?_
    refine J.iconst (pc := 62) C (v := 1) dX9_isOfNozzle_62 (by decide) ?_
    refine J.sipush (pc := 63) C (v := 1000) dX9_isOfNozzle_63 (by decide) ?_
    obtain ⟨r_10, h_9, hf⟩ := bnd_some hf
    refine J.callS (pc := 66) C (m_X9_in h_9) trivial wyX9_in tsX9_in tw_791 [.int x1, .int 1, .int 1000] [] rfl rfl (Nat.le_of_ble_eq_true rfl) (Nat.le_of_ble_eq_true rfl) (Nat.le_of_ble_eq_true rfl) (stk' := [.int r_10]) rfl dX9_isOfNozzle_66 rfl ?_
    obtain ⟨hbit, hf⟩ := chk_some hf
    exact J.zretP (pc := 69) C (bit_nar hbit) hR ((Option.some.inj hf).trans hp) dX9_isOfNozzle_69
  refine J.tblIn (pc := 1) C dX9_isOfNozzle_1 4 hf (by decide) (by decide) rfl (tgt := 70) (by decide) (fun hf => ?_) (fun hn4 hf => ?_)
  · refine J.iload_n (pc := 70) C dX9_isOfNozzle_70 rfl 1 rfl ?_
    refine J.iconst (pc := 71) C (v := 0) dX9_isOfNozzle_71 (by decide) ?_
    refine J.iconst (pc := 72) C (v := 2) dX9_isOfNozzle_72 (by decide) ?_
    obtain ⟨r_12, h_11, hf⟩ := bnd_some hf
    refine J.callS (pc := 73) C (m_X9_in h_11) trivial wyX9_in tsX9_in tw_791 [.int x1, .int 0, .int 2] [] rfl rfl (Nat.le_of_ble_eq_true rfl) (Nat.le_of_ble_eq_true rfl) (Nat.le_of_ble_eq_true rfl) (stk' := [.int r_12]) rfl dX9_isOfNozzle_73 rfl ?_
    obtain ⟨hbit, hf⟩ := chk_some hf
    exact J.zretP (pc := 76) C (bit_nar hbit) hR ((Option.some.inj hf).trans hp) dX9_isOfNozzle_76
  refine J.tblOut (pc := 1) C dX9_isOfNozzle_1 (by have q0 := lv_neT hn0 (a := 0) (by decide); have q1 := lv_neT hn1 (a := 1) (by decide); have q2 := lv_neT hn2 (a := 2) (by decide); have q3 := lv_neT hn3 (a := 3) (by decide); have q4 := lv_neT hn4 (a := 4) (by decide); omega) (tgt := 77) (by decide) ?_
  refine J.iload_n (pc := 77) C dX9_isOfNozzle_77 rfl 0 rfl ?_
  refine J.iconst (pc := 78) C (v := 5) dX9_isOfNozzle_78 (by decide) ?_
  refine J.icmp_ne (pc := 79) C (tgt := 96) dX9_isOfNozzle_79 (by decide) hf (fun hf => ?_) (fun hf => ?_)
  · refine J.iconst (pc := 96) C (v := 0) dX9_isOfNozzle_96 (by decide) ?_
    exact J.zretP (pc := 97) C rfl hR ((Option.some.inj hf).trans hp) dX9_isOfNozzle_97
  · refine J.iload_n (pc := 82) C dX9_isOfNozzle_82 rfl 1 rfl ?_
    refine J.iconst (pc := 83) C (v := 0) dX9_isOfNozzle_83 (by decide) ?_
    refine J.bipush (pc := 84) C (v := 100) dX9_isOfNozzle_84 (by decide) ?_
    obtain ⟨r_2, h_1, hf⟩ := bnd_some hf
    refine J.callS (pc := 86) C (m_X9_in h_1) trivial wyX9_in tsX9_in tw_791 [.int x1, .int 0, .int 100] [] rfl rfl (Nat.le_of_ble_eq_true rfl) (Nat.le_of_ble_eq_true rfl) (Nat.le_of_ble_eq_true rfl) (stk' := [.int r_2]) rfl dX9_isOfNozzle_86 rfl ?_
    refine J.if_eq (pc := 89) C (tgt := 96) dX9_isOfNozzle_89 (by decide) hf (fun hf => ?_) (fun hf => ?_)
    · refine J.iconst (pc := 96) C (v := 0) dX9_isOfNozzle_96 (by decide) ?_
      exact J.zretP (pc := 97) C rfl hR ((Option.some.inj hf).trans hp) dX9_isOfNozzle_97
    · refine J.iconst (pc := 92) C (v := 1) dX9_isOfNozzle_92 (by decide) ?_
      refine J.goto (pc := 93) C (tgt := 97) dX9_isOfNozzle_93 (by decide) ?_
      exact J.zretP (pc := 97) C rfl hR ((Option.some.inj hf).trans hp) dX9_isOfNozzle_97
set_option maxHeartbeats 4000000 in
set_option maxRecDepth 100000 in
theorem m_X9_nozzle {l : Launch} {σ : Mem} {k : Nat} {x1 : Int32} {x2 : Int32} {x3 : Int32} {t0 : (Int32 × Mem)} (hf : f_X9_nozzle σ k x1 x2 x3 = some t0) : Ct l yX9_nozzle cX9_nozzle 4 (some FieldType.int) 2 43 (fun ks => Ok ks k 9) (fun ad => [.ref (ad k), .int x1, .int x2, .int x3]) σ (fun _ => some (.int t0.1)) t0.2 := by
  refine Ct.of (plainFor_of_name (by decide)) (fun _ => Nat.le_of_ble_eq_true rfl) ?_
  intro X C _ hk hcl hR
  have C : Cx X RX9 cX9_nozzle 4 (some FieldType.int) 2 43 := C
  have hp : t0 = t0 := rfl
  show J X 0 [(0, .ref (Xad X k)), (1, .int x1), (2, .int x2), (3, .int x3)] [] σ
  unfold f_X9_nozzle at hf
  refine J.aload_n (pc := 0) C dX9_nozzle_0 rfl 0 rfl ?_
  refine J.iload_n (pc := 1) C dX9_nozzle_1 rfl 1 rfl ?_
  obtain ⟨r_2, h_1, hf⟩ := bnd_some hf
  refine J.callV (pc := 2) C (m_X9_isNozzle h_1) hk wyX9_isNozzle tvX9_isNozzle_i tvX9_isNozzle_s tw_798 kcX9 rfl hk [.int x1] [] rfl rfl (Nat.le_of_ble_eq_true rfl) (Nat.le_of_ble_eq_true rfl) (Nat.le_of_ble_eq_true rfl) (stk' := [.int r_2]) rfl dX9_nozzle_2 rfl ?_
  refine J.if_ne (pc := 5) C (tgt := 10) dX9_nozzle_5 (by decide) hf (fun hf => ?_) (fun hf => ?_)
  · refine J.iload_n (pc := 10) C dX9_nozzle_10 rfl 2 rfl ?_
    refine J.iload_n (pc := 11) C dX9_nozzle_11 rfl 3 rfl ?_
    obtain ⟨r_4, h_3, hf⟩ := bnd_some hf
    refine J.callS (pc := 12) C (m_X9_isOfNozzle h_3) trivial wyX9_isOfNozzle tsX9_isOfNozzle tw_802 [.int x2, .int x3] [] rfl rfl (Nat.le_of_ble_eq_true rfl) (Nat.le_of_ble_eq_true rfl) (Nat.le_of_ble_eq_true rfl) (stk' := [.int r_4]) rfl dX9_nozzle_12 rfl ?_
    refine J.if_eq (pc := 15) C (tgt := 32) dX9_nozzle_15 (by decide) hf (fun hf => ?_) (fun hf => ?_)
    · refine J.bipush (pc := 32) C (v := (-2)) dX9_nozzle_32 (by decide) ?_
      exact J.iretM (pc := 34) C hR ((Option.some.inj hf).trans hp) dX9_nozzle_34
    · refine J.aload_n (pc := 18) C dX9_nozzle_18 rfl 0 rfl ?_
      refine J.bipush (pc := 19) C (v := 12) dX9_nozzle_19 (by decide) ?_
      refine J.iload_n (pc := 21) C dX9_nozzle_21 rfl 1 rfl ?_
      refine J.imul (pc := 22) C dX9_nozzle_22 ?_
      refine J.iload_n (pc := 23) C dX9_nozzle_23 rfl 2 rfl ?_
      refine J.iadd (pc := 24) C dX9_nozzle_24 ?_
      refine J.iload_n (pc := 25) C dX9_nozzle_25 rfl 3 rfl ?_
      obtain ⟨r_6, σ_7, h_5, hf⟩ := bnd2_some hf
      refine J.callV (pc := 26) C (m_X9_change h_5) hk wyX9_change tvX9_change_i tvX9_change_s tw_805 kcX9 rfl hk [.int ((12 * x1) + x2), .int x3] [] rfl rfl (Nat.le_of_ble_eq_true rfl) (Nat.le_of_ble_eq_true rfl) (Nat.le_of_ble_eq_true rfl) (stk' := [.int r_6]) rfl dX9_nozzle_26 rfl ?_
      refine J.goto (pc := 29) C (tgt := 34) dX9_nozzle_29 (by decide) ?_
      exact J.iretM (pc := 34) C hR ((Option.some.inj hf).trans hp) dX9_nozzle_34
  · refine J.iconst (pc := 8) C (v := (-1)) dX9_nozzle_8 (by decide) ?_
    exact J.iretM (pc := 9) C hR ((Option.some.inj hf).trans hp) dX9_nozzle_9
set_option maxHeartbeats 4000000 in
set_option maxRecDepth 100000 in
theorem m_X9_pump {l : Launch} {σ : Mem} {k : Nat} {x1 : Int32} {x2 : Int32} {x3 : Int32} {t0 : (Int32 × Mem)} (hf : f_X9_pump σ k x1 x2 x3 = some t0) : Ct l yX9_pump cX9_pump 5 (some FieldType.int) 2 42 (fun ks => Ok ks k 9) (fun ad => [.ref (ad k), .int x1, .int x2, .int x3]) σ (fun _ => some (.int t0.1)) t0.2 := by
  refine Ct.of (plainFor_of_name (by decide)) (fun _ => Nat.le_of_ble_eq_true rfl) ?_
  intro X C _ hk hcl hR
  have C : Cx X RX9 cX9_pump 5 (some FieldType.int) 2 42 := C
  have L45 : ∀ (σ : Mem) (x1 : Int32) (x2 : Int32) (x3 : Int32) (y0 : Int32) (t : (Int32 × Mem)), f_X9_pump_L45 σ k x1 x2 x3 y0 = some t → t = t0 → J X 45 [(0, .ref (Xad X k)), (1, .int x1), (2, .int x2), (3, .int x3)] [.int y0] σ := by
    intro σ x1 x2 x3 y0 t hf hp
    unfold f_X9_pump_L45 at hf
    refine J.istore (pc := 45) C (loc' := [(4, .int y0), (0, .ref (Xad X k)), (1, .int x1), (2, .int x2), (3, .int x3)]) dX9_pump_45 (by decide) rfl ?_
    refine J.iload (pc := 47) C dX9_pump_47 0 rfl ?_
    refine J.if_eq (pc := 49) C (tgt := 69) dX9_pump_49 (by decide) hf (fun hf => ?_) (fun hf => ?_)
    · refine J.bipush (pc := 69) C (v := (-2)) dX9_pump_69 (by decide) ?_
      exact J.iretM (pc := 71) C hR ((Option.some.inj hf).trans hp) dX9_pump_71
    · refine J.aload_n (pc := 52) C dX9_pump_52 rfl 1 rfl ?_
      refine J.sipush (pc := 53) C (v := 912) dX9_pump_53 (by decide) ?_
      refine J.iconst (pc := 56) C (v := 5) dX9_pump_56 (by decide) ?_
      refine J.iload_n (pc := 57) C dX9_pump_57 rfl 2 rfl ?_
      refine J.imul (pc := 58) C dX9_pump_58 ?_
      refine J.iadd (pc := 59) C dX9_pump_59 ?_
      refine J.iload_n (pc := 60) C dX9_pump_60 rfl 3 rfl ?_
      refine J.iadd (pc := 61) C dX9_pump_61 ?_
      refine J.iload_n (pc := 62) C dX9_pump_62 rfl 4 rfl ?_
      obtain ⟨r_4, σ_5, h_3, hf⟩ := bnd2_some hf
      refine J.callV (pc := 63) C (m_X9_change h_3) hk wyX9_change tvX9_change_i tvX9_change_s tw_805 kcX9 rfl hk [.int ((912 + (5 * x1)) + x2), .int x3] [] rfl rfl (Nat.le_of_ble_eq_true rfl) (Nat.le_of_ble_eq_true rfl) (Nat.le_of_ble_eq_true rfl) (stk' := [.int r_4]) rfl dX9_pump_63 rfl ?_
      refine J.goto (pc := 66) C (tgt := 71) dX9_pump_66 (by decide) ?_
      exact J.iretM (pc := 71) C hR ((Option.some.inj hf).trans hp) dX9_pump_71
  have L44 : ∀ (σ : Mem) (x1 : Int32) (x2 : Int32) (x3 : Int32) (t : (Int32 × Mem)), f_X9_pump_L44 σ k x1 x2 x3 = some t → t = t0 → J X 44 [(0, .ref (Xad X k)), (1, .int x1), (2, .int x2), (3, .int x3)] [] σ := by
    intro σ x1 x2 x3 t hf hp
    unfold f_X9_pump_L44 at hf
    refine J.iconst (pc := 44) C (v := 0) dX9_pump_44 (by decide) ?_
    exact J.sub (loc' := [(0, .ref (Xad X k)), (1, .int x1), (2, .int x2), (3, .int x3)]) [0, 1, 2, 3] rfl (L45 σ x1 x2 x3 0 _ hf hp)
  have L40 : ∀ (σ : Mem) (x1 : Int32) (x2 : Int32) (x3 : Int32) (t : (Int32 × Mem)), f_X9_pump_L40 σ k x1 x2 x3 = some t → t = t0 → J X 40 [(0, .ref (Xad X k)), (1, .int x1), (2, .int x2), (3, .int x3)] [] σ := by
    intro σ x1 x2 x3 t hf hp
    unfold f_X9_pump_L40 at hf
    refine J.iconst (pc := 40) C (v := 1) dX9_pump_40 (by decide) ?_
    refine J.goto (pc := 41) C (tgt := 45) dX9_pump_41 (by decide) ?_
    exact J.sub (loc' := [(0, .ref (Xad X k)), (1, .int x1), (2, .int x2), (3, .int x3)]) [0, 1, 2, 3] rfl (L45 σ x1 x2 x3 1 _ hf hp)
  have L24 : ∀ (σ : Mem) (x1 : Int32) (x2 : Int32) (x3 : Int32) (t : (Int32 × Mem)), f_X9_pump_L24 σ k x1 x2 x3 = some t → t = t0 → J X 24 [(0, .ref (Xad X k)), (1, .int x1), (2, .int x2), (3, .int x3)] [] σ := by
    intro σ x1 x2 x3 t hf hp
    unfold f_X9_pump_L24 at hf
    refine J.iload_n (pc := 24) C dX9_pump_24 rfl 2 rfl ?_
    refine J.iconst (pc := 25) C (v := 1) dX9_pump_25 (by decide) ?_
    refine J.icmp_ne (pc := 26) C (tgt := 44) dX9_pump_26 (by decide) hf (fun hf => ?_) (fun hf => ?_)
    · exact J.sub (loc' := [(0, .ref (Xad X k)), (1, .int x1), (2, .int x2), (3, .int x3)]) [0, 1, 2, 3] rfl (L44 σ x1 x2 x3 _ hf hp)
    · refine J.iload_n (pc := 29) C dX9_pump_29 rfl 3 rfl ?_
      refine J.iconst (pc := 30) C (v := 1) dX9_pump_30 (by decide) ?_
      refine J.sipush (pc := 31) C (v := 500) dX9_pump_31 (by decide) ?_
      obtain ⟨r_7, h_6, hf⟩ := bnd_some hf
      refine J.callS (pc := 34) C (m_X9_in h_6) trivial wyX9_in tsX9_in tw_791 [.int x3, .int 1, .int 500] [] rfl rfl (Nat.le_of_ble_eq_true rfl) (Nat.le_of_ble_eq_true rfl) (Nat.le_of_ble_eq_true rfl) (stk' := [.int r_7]) rfl dX9_pump_34 rfl ?_
      refine J.if_eq (pc := 37) C (tgt := 44) dX9_pump_37 (by decide) hf (fun hf => ?_) (fun hf => ?_)
      · exact J.sub (loc' := [(0, .ref (Xad X k)), (1, .int x1), (2, .int x2), (3, .int x3)]) [0, 1, 2, 3] rfl (L44 σ x1 x2 x3 _ hf hp)
      · exact J.sub (loc' := [(0, .ref (Xad X k)), (1, .int x1), (2, .int x2), (3, .int x3)]) [0, 1, 2, 3] rfl (L40 σ x1 x2 x3 _ hf hp)
  have hp : t0 = t0 := rfl
  show J X 0 [(0, .ref (Xad X k)), (1, .int x1), (2, .int x2), (3, .int x3)] [] σ
  unfold f_X9_pump at hf
  refine J.iload_n (pc := 0) C dX9_pump_0 rfl 1 rfl ?_
  obtain ⟨r_2, h_1, hf⟩ := bnd_some hf
  refine J.callS (pc := 1) C (m_X9_isPump h_1) trivial wyX9_isPump tsX9_isPump tw_813 [.int x1] [] rfl rfl (Nat.le_of_ble_eq_true rfl) (Nat.le_of_ble_eq_true rfl) (Nat.le_of_ble_eq_true rfl) (stk' := [.int r_2]) rfl dX9_pump_1 rfl ?_
  refine J.if_ne (pc := 4) C (tgt := 9) dX9_pump_4 (by decide) hf (fun hf => ?_) (fun hf => ?_)
  · refine J.iload_n (pc := 9) C dX9_pump_9 rfl 2 rfl ?_
    refine J.if_ne (pc := 10) C (tgt := 24) dX9_pump_10 (by decide) hf (fun hf => ?_) (fun hf => ?_)
    · exact J.sub (loc' := [(0, .ref (Xad X k)), (1, .int x1), (2, .int x2), (3, .int x3)]) [0, 1, 2, 3] rfl (L24 σ x1 x2 x3 _ hf hp)
    · refine J.iload_n (pc := 13) C dX9_pump_13 rfl 3 rfl ?_
      refine J.iconst (pc := 14) C (v := 0) dX9_pump_14 (by decide) ?_
      refine J.sipush (pc := 15) C (v := 2000) dX9_pump_15 (by decide) ?_
      obtain ⟨r_9, h_8, hf⟩ := bnd_some hf
      refine J.callS (pc := 18) C (m_X9_in h_8) trivial wyX9_in tsX9_in tw_791 [.int x3, .int 0, .int 2000] [] rfl rfl (Nat.le_of_ble_eq_true rfl) (Nat.le_of_ble_eq_true rfl) (Nat.le_of_ble_eq_true rfl) (stk' := [.int r_9]) rfl dX9_pump_18 rfl ?_
      refine J.if_ne (pc := 21) C (tgt := 40) dX9_pump_21 (by decide) hf (fun hf => ?_) (fun hf => ?_)
      · exact J.sub (loc' := [(0, .ref (Xad X k)), (1, .int x1), (2, .int x2), (3, .int x3)]) [0, 1, 2, 3] rfl (L40 σ x1 x2 x3 _ hf hp)
      · exact J.sub (loc' := [(0, .ref (Xad X k)), (1, .int x1), (2, .int x2), (3, .int x3)]) [0, 1, 2, 3] rfl (L24 σ x1 x2 x3 _ hf hp)
  · refine J.iconst (pc := 7) C (v := (-1)) dX9_pump_7 (by decide) ?_
    exact J.iretM (pc := 8) C hR ((Option.some.inj hf).trans hp) dX9_pump_8
set_option maxHeartbeats 4000000 in
set_option maxRecDepth 100000 in
theorem m_X9_isOfShow {l : Launch} {x0 : Int32} {x1 : Int32} {σ : Mem} {t0 : Int32} (hf : f_X9_isOfShow x0 x1 = some t0) : Ct l yX9_isOfShow cX9_isOfShow 2 (some FieldType.boolean) 1 22 (fun _ => True) (fun _ => [.int x0, .int x1]) σ (fun _ => some (.int t0)) σ := by
  refine Ct.of (plainFor_of_name (by decide)) (fun _ => Nat.le_of_ble_eq_true rfl) ?_
  intro X C _ _ hcl hR
  have C : Cx X RX9 cX9_isOfShow 2 (some FieldType.boolean) 1 22 := C
  have L44 : ∀ (x1 : Int32) (t : Int32), f_X9_isOfShow_L44 x1 = some t → t = t0 → J X 44 [(1, .int x1)] [] σ := by
    intro x1 t hf hp
    unfold f_X9_isOfShow_L44 at hf
    refine J.iload_n (pc := 44) C dX9_isOfShow_44 rfl 0 rfl ?_
    refine J.iconst (pc := 45) C (v := 0) dX9_isOfShow_45 (by decide) ?_
    refine J.sipush (pc := 46) C (v := 300) dX9_isOfShow_46 (by decide) ?_
    obtain ⟨r_6, h_5, hf⟩ := bnd_some hf
    refine J.callS (pc := 49) C (m_X9_in h_5) trivial wyX9_in tsX9_in tw_791 [.int x1, .int 0, .int 300] [] rfl rfl (Nat.le_of_ble_eq_true rfl) (Nat.le_of_ble_eq_true rfl) (Nat.le_of_ble_eq_true rfl) (stk' := [.int r_6]) rfl dX9_isOfShow_49 rfl ?_
    obtain ⟨hbit, hf⟩ := chk_some hf
    exact J.zretP (pc := 52) C (bit_nar hbit) hR ((Option.some.inj hf).trans hp) dX9_isOfShow_52
  have hp : t0 = t0 := rfl
  show J X 0 [(0, .int x0), (1, .int x1)] [] σ
  unfold f_X9_isOfShow at hf
  refine J.iload_n (pc := 0) C dX9_isOfShow_0 rfl 0 rfl ?_
  refine J.tblIn (pc := 1) C dX9_isOfShow_1 0 hf (by decide) (by decide) rfl (tgt := 36) (by decide) (fun hf => ?_) (fun hn0 hf => ?_)
  · refine J.iload_n (pc := 36) C dX9_isOfShow_36 rfl 1 rfl ?_
    refine J.iconst (pc := 37) C (v := 1) dX9_isOfShow_37 (by decide) ?_
    refine J.bipush (pc := 38) C (v := 64) dX9_isOfShow_38 (by decide) ?_
    obtain ⟨r_4, h_3, hf⟩ := bnd_some hf
    refine J.callS (pc := 40) C (m_X9_in h_3) trivial wyX9_in tsX9_in tw_791 [.int x1, .int 1, .int 64] [] rfl rfl (Nat.le_of_ble_eq_true rfl) (Nat.le_of_ble_eq_true rfl) (Nat.le_of_ble_eq_true rfl) (stk' := [.int r_4]) rfl dX9_isOfShow_40 rfl ?_
    obtain ⟨hbit, hf⟩ := chk_some hf
    exact J.zretP (pc := 43) C (bit_nar hbit) hR ((Option.some.inj hf).trans hp) dX9_isOfShow_43
  refine J.tblIn (pc := 1) C dX9_isOfShow_1 1 hf (by decide) (by decide) rfl (tgt := 44) (by decide) (fun hf => ?_) (fun hn1 hf => ?_)
  · exact J.sub (loc' := [(1, .int x1)]) [1] rfl (L44 x1 _ hf hp)
  refine J.tblIn (pc := 1) C dX9_isOfShow_1 2 hf (by decide) (by decide) rfl (tgt := 44) (by decide) (fun hf => ?_) (fun hn2 hf => ?_)
  · exact J.sub (loc' := [(1, .int x1)]) [1] rfl (L44 x1 _ hf hp)
  refine J.tblIn (pc := 1) C dX9_isOfShow_1 3 hf (by decide) (by decide) rfl (tgt := 53) (by decide) (fun hf => ?_) (fun hn3 hf => ?_)
  · refine J.iload_n (pc := 53) C dX9_isOfShow_53 rfl 1 rfl ?_
    refine J.iconst (pc := 54) C (v := 0) dX9_isOfShow_54 (by decide) ?_
    refine J.sipush (pc := 55) C (v := 1000) dX9_isOfShow_55 (by decide) ?_
    obtain ⟨r_8, h_7, hf⟩ := bnd_some hf
    refine J.callS (pc := 58) C (m_X9_in h_7) trivial wyX9_in tsX9_in tw_791 [.int x1, .int 0, .int 1000] [] rfl rfl (Nat.le_of_ble_eq_true rfl) (Nat.le_of_ble_eq_true rfl) (Nat.le_of_ble_eq_true rfl) (stk' := [.int r_8]) rfl dX9_isOfShow_58 rfl ?_
    obtain ⟨hbit, hf⟩ := chk_some hf
    exact J.zretP (pc := 61) C (bit_nar hbit) hR ((Option.some.inj hf).trans hp) dX9_isOfShow_61
  refine J.tblIn (pc := 1) C dX9_isOfShow_1 4 hf (by decide) (by decide) rfl (tgt := 62) (by decide) (fun hf => ?_) (fun hn4 hf => ?_)
  · refine J.iload_n (pc := 62) C dX9_isOfShow_62 rfl 1 rfl ?_
    refine J.iconst (pc := 63) C (v := 0) dX9_isOfShow_63 (by decide) ?_
    refine J.sipush (pc := 64) C (v := 600) dX9_isOfShow_64 (by decide) ?_
    obtain ⟨r_10, h_9, hf⟩ := bnd_some hf
    refine J.callS (pc := 67) C (m_X9_in h_9) trivial wyX9_in tsX9_in tw_791 [.int x1, .int 0, .int 600] [] rfl rfl (Nat.le_of_ble_eq_true rfl) (Nat.le_of_ble_eq_true rfl) (Nat.le_of_ble_eq_true rfl) (stk' := [.int r_10]) rfl dX9_isOfShow_67 rfl ?_
    obtain ⟨hbit, hf⟩ := chk_some hf
    exact J.zretP (pc := 70) C (bit_nar hbit) hR ((Option.some.inj hf).trans hp) dX9_isOfShow_70
  refine J.tblOut (pc := 1) C dX9_isOfShow_1 (by have q0 := lv_neT hn0 (a := 0) (by decide); have q1 := lv_neT hn1 (a := 1) (by decide); have q2 := lv_neT hn2 (a := 2) (by decide); have q3 := lv_neT hn3 (a := 3) (by decide); have q4 := lv_neT hn4 (a := 4) (by decide); omega) (tgt := 71) (by decide) ?_
  refine J.iload_n (pc := 71) C dX9_isOfShow_71 rfl 0 rfl ?_
  refine J.iconst (pc := 72) C (v := 5) dX9_isOfShow_72 (by decide) ?_
  refine J.icmp_ne (pc := 73) C (tgt := 91) dX9_isOfShow_73 (by decide) hf (fun hf => ?_) (fun hf => ?_)
  · refine J.iconst (pc := 91) C (v := 0) dX9_isOfShow_91 (by decide) ?_
    exact J.zretP (pc := 92) C rfl hR ((Option.some.inj hf).trans hp) dX9_isOfShow_92
  · refine J.iload_n (pc := 76) C dX9_isOfShow_76 rfl 1 rfl ?_
    refine J.iconst (pc := 77) C (v := 0) dX9_isOfShow_77 (by decide) ?_
    refine J.sipush (pc := 78) C (v := 5000) dX9_isOfShow_78 (by decide) ?_
    obtain ⟨r_2, h_1, hf⟩ := bnd_some hf
    refine J.callS (pc := 81) C (m_X9_in h_1) trivial wyX9_in tsX9_in tw_791 [.int x1, .int 0, .int 5000] [] rfl rfl (Nat.le_of_ble_eq_true rfl) (Nat.le_of_ble_eq_true rfl) (Nat.le_of_ble_eq_true rfl) (stk' := [.int r_2]) rfl dX9_isOfShow_81 rfl ?_
    refine J.if_eq (pc := 84) C (tgt := 91) dX9_isOfShow_84 (by decide) hf (fun hf => ?_) (fun hf => ?_)
    · refine J.iconst (pc := 91) C (v := 0) dX9_isOfShow_91 (by decide) ?_
      exact J.zretP (pc := 92) C rfl hR ((Option.some.inj hf).trans hp) dX9_isOfShow_92
    · refine J.iconst (pc := 87) C (v := 1) dX9_isOfShow_87 (by decide) ?_
      refine J.goto (pc := 88) C (tgt := 92) dX9_isOfShow_88 (by decide) ?_
      exact J.zretP (pc := 92) C rfl hR ((Option.some.inj hf).trans hp) dX9_isOfShow_92
set_option maxHeartbeats 4000000 in
set_option maxRecDepth 100000 in
theorem m_X9_set {l : Launch} {σ : Mem} {k : Nat} {x1 : Int32} {x2 : Int32} {t0 : (Int32 × Mem)} (hf : f_X9_set σ k x1 x2 = some t0) : Ct l yX9_set cX9_set 3 (some FieldType.int) 2 43 (fun ks => Ok ks k 9) (fun ad => [.ref (ad k), .int x1, .int x2]) σ (fun _ => some (.int t0.1)) t0.2 := by
  refine Ct.of (plainFor_of_name (by decide)) (fun _ => Nat.le_of_ble_eq_true rfl) ?_
  intro X C _ hk hcl hR
  have C : Cx X RX9 cX9_set 3 (some FieldType.int) 2 43 := C
  have hp : t0 = t0 := rfl
  show J X 0 [(0, .ref (Xad X k)), (1, .int x1), (2, .int x2)] [] σ
  unfold f_X9_set at hf
  refine J.iload_n (pc := 0) C dX9_set_0 rfl 1 rfl ?_
  refine J.iload_n (pc := 1) C dX9_set_1 rfl 2 rfl ?_
  obtain ⟨r_2, h_1, hf⟩ := bnd_some hf
  refine J.callS (pc := 2) C (m_X9_isOfShow h_1) trivial wyX9_isOfShow tsX9_isOfShow tw_820 [.int x1, .int x2] [] rfl rfl (Nat.le_of_ble_eq_true rfl) (Nat.le_of_ble_eq_true rfl) (Nat.le_of_ble_eq_true rfl) (stk' := [.int r_2]) rfl dX9_set_2 rfl ?_
  refine J.if_eq (pc := 5) C (tgt := 21) dX9_set_5 (by decide) hf (fun hf => ?_) (fun hf => ?_)
  · refine J.bipush (pc := 21) C (v := (-2)) dX9_set_21 (by decide) ?_
    exact J.iretM (pc := 23) C hR ((Option.some.inj hf).trans hp) dX9_set_23
  · refine J.aload_n (pc := 8) C dX9_set_8 rfl 0 rfl ?_
    refine J.sipush (pc := 9) C (v := 927) dX9_set_9 (by decide) ?_
    refine J.iload_n (pc := 12) C dX9_set_12 rfl 1 rfl ?_
    refine J.iadd (pc := 13) C dX9_set_13 ?_
    refine J.iload_n (pc := 14) C dX9_set_14 rfl 2 rfl ?_
    obtain ⟨r_4, σ_5, h_3, hf⟩ := bnd2_some hf
    refine J.callV (pc := 15) C (m_X9_change h_3) hk wyX9_change tvX9_change_i tvX9_change_s tw_805 kcX9 rfl hk [.int (927 + x1), .int x2] [] rfl rfl (Nat.le_of_ble_eq_true rfl) (Nat.le_of_ble_eq_true rfl) (Nat.le_of_ble_eq_true rfl) (stk' := [.int r_4]) rfl dX9_set_15 rfl ?_
    refine J.goto (pc := 18) C (tgt := 23) dX9_set_18 (by decide) ?_
    exact J.iretM (pc := 23) C hR ((Option.some.inj hf).trans hp) dX9_set_23
set_option maxHeartbeats 4000000 in
set_option maxRecDepth 100000 in
theorem m_X9_wind {l : Launch} {σ : Mem} {k : Nat} {x1 : Int32} {t0 : (Int32 × Mem)} (hf : f_X9_wind σ k x1 = some t0) : Ct l yX9_wind cX9_wind 2 (some FieldType.int) 1 23 (fun ks => Ok ks k 9) (fun ad => [.ref (ad k), .int x1]) σ (fun _ => some (.int t0.1)) t0.2 := by
  refine Ct.of (plainFor_of_name (by decide)) (fun _ => Nat.le_of_ble_eq_true rfl) ?_
  intro X C _ hk hcl hR
  have C : Cx X RX9 cX9_wind 2 (some FieldType.int) 1 23 := C
  have hp : t0 = t0 := rfl
  show J X 0 [(0, .ref (Xad X k)), (1, .int x1)] [] σ
  unfold f_X9_wind at hf
  refine J.iload_n (pc := 0) C dX9_wind_0 rfl 1 rfl ?_
  refine J.iconst (pc := 1) C (v := 0) dX9_wind_1 (by decide) ?_
  refine J.sipush (pc := 2) C (v := 300) dX9_wind_2 (by decide) ?_
  obtain ⟨r_2, h_1, hf⟩ := bnd_some hf
  refine J.callS (pc := 5) C (m_X9_in h_1) trivial wyX9_in tsX9_in tw_791 [.int x1, .int 0, .int 300] [] rfl rfl (Nat.le_of_ble_eq_true rfl) (Nat.le_of_ble_eq_true rfl) (Nat.le_of_ble_eq_true rfl) (stk' := [.int r_2]) rfl dX9_wind_5 rfl ?_
  refine J.if_eq (pc := 8) C (tgt := 22) dX9_wind_8 (by decide) hf (fun hf => ?_) (fun hf => ?_)
  · refine J.bipush (pc := 22) C (v := (-2)) dX9_wind_22 (by decide) ?_
    exact J.iretM (pc := 24) C hR ((Option.some.inj hf).trans hp) dX9_wind_24
  · refine J.aload_n (pc := 11) C dX9_wind_11 rfl 0 rfl ?_
    refine J.sipush (pc := 12) C (v := 933) dX9_wind_12 (by decide) ?_
    refine J.iload_n (pc := 15) C dX9_wind_15 rfl 1 rfl ?_
    obtain ⟨r_4, σ_5, h_3, hf⟩ := bnd2_some hf
    refine J.callV (pc := 16) C (m_X9_change h_3) hk wyX9_change tvX9_change_i tvX9_change_s tw_805 kcX9 rfl hk [.int 933, .int x1] [] rfl rfl (Nat.le_of_ble_eq_true rfl) (Nat.le_of_ble_eq_true rfl) (Nat.le_of_ble_eq_true rfl) (stk' := [.int r_4]) rfl dX9_wind_16 rfl ?_
    refine J.goto (pc := 19) C (tgt := 24) dX9_wind_19 (by decide) ?_
    exact J.iretM (pc := 24) C hR ((Option.some.inj hf).trans hp) dX9_wind_24
set_option maxHeartbeats 4000000 in
set_option maxRecDepth 100000 in
theorem m_X9_ofCue {l : Launch} {σ : Mem} {k : Nat} {x1 : Int32} {x2 : Int32} {t0 : Int32} (hf : f_X9_ofCue σ k x1 x2 = some t0) : Ct l yX9_ofCue cX9_ofCue 3 (some FieldType.int) 0 0 (fun ks => Ok ks k 9) (fun ad => [.ref (ad k), .int x1, .int x2]) σ (fun _ => some (.int t0)) σ := by
  refine Ct.of (plainFor_of_name (by decide)) (fun _ => Nat.le_of_ble_eq_true rfl) ?_
  intro X C _ hk hcl hR
  have C : Cx X RX9 cX9_ofCue 3 (some FieldType.int) 0 0 := C
  have hp : t0 = t0 := rfl
  show J X 0 [(0, .ref (Xad X k)), (1, .int x1), (2, .int x2)] [] σ
  unfold f_X9_ofCue at hf
  refine J.aload_n (pc := 0) C dX9_ofCue_0 rfl 0 rfl ?_
  refine J.getR (pc := 1) C kcX9 hk 0 rfl tw_755 rfl dX9_ofCue_1 ?_
  refine J.sipush (pc := 4) C (v := 941) dX9_ofCue_4 (by decide) ?_
  refine J.iconst (pc := 7) C (v := 3) dX9_ofCue_7 (by decide) ?_
  refine J.iload_n (pc := 8) C dX9_ofCue_8 rfl 1 rfl ?_
  refine J.imul (pc := 9) C dX9_ofCue_9 ?_
  refine J.iadd (pc := 10) C dX9_ofCue_10 ?_
  refine J.iload_n (pc := 11) C dX9_ofCue_11 rfl 2 rfl ?_
  refine J.iadd (pc := 12) C dX9_ofCue_12 ?_
  refine J.iald (pc := 13) C (ok_9_0 hcl hk) hf dX9_ofCue_13 (fun hf => ?_)
  exact J.iretP (pc := 14) C hR ((Option.some.inj hf).trans hp) dX9_ofCue_14
set_option maxHeartbeats 4000000 in
set_option maxRecDepth 100000 in
theorem m_X9_layCue {l : Launch} {σ : Mem} {k : Nat} {x1 : Int32} {x2 : Int32} {x3 : Int32} {x4 : Int32} {t0 : Mem} (hf : f_X9_layCue σ k x1 x2 x3 x4 = some t0) : Ct l yX9_layCue cX9_layCue 5 none 0 0 (fun ks => Ok ks k 9) (fun ad => [.ref (ad k), .int x1, .int x2, .int x3, .int x4]) σ (fun _ => none) t0 := by
  refine Ct.of (plainFor_of_name (by decide)) (fun _ => Nat.le_of_ble_eq_true rfl) ?_
  intro X C _ hk hcl hR
  have C : Cx X RX9 cX9_layCue 5 none 0 0 := C
  have hp : t0 = t0 := rfl
  show J X 0 [(0, .ref (Xad X k)), (1, .int x1), (2, .int x2), (3, .int x3), (4, .int x4)] [] σ
  unfold f_X9_layCue at hf
  refine J.aload_n (pc := 0) C dX9_layCue_0 rfl 0 rfl ?_
  refine J.getR (pc := 1) C kcX9 hk 0 rfl tw_755 rfl dX9_layCue_1 ?_
  refine J.sipush (pc := 4) C (v := 941) dX9_layCue_4 (by decide) ?_
  refine J.iconst (pc := 7) C (v := 3) dX9_layCue_7 (by decide) ?_
  refine J.iload_n (pc := 8) C dX9_layCue_8 rfl 1 rfl ?_
  refine J.imul (pc := 9) C dX9_layCue_9 ?_
  refine J.iadd (pc := 10) C dX9_layCue_10 ?_
  refine J.iload_n (pc := 11) C dX9_layCue_11 rfl 2 rfl ?_
  refine J.iastM (pc := 12) C (ok_9_0 hcl hk) hf dX9_layCue_12 (fun σ_1 hf => ?_)
  refine J.aload_n (pc := 13) C dX9_layCue_13 rfl 0 rfl ?_
  refine J.getR (pc := 14) C kcX9 hk 0 rfl tw_755 rfl dX9_layCue_14 ?_
  refine J.sipush (pc := 17) C (v := 941) dX9_layCue_17 (by decide) ?_
  refine J.iconst (pc := 20) C (v := 3) dX9_layCue_20 (by decide) ?_
  refine J.iload_n (pc := 21) C dX9_layCue_21 rfl 1 rfl ?_
  refine J.imul (pc := 22) C dX9_layCue_22 ?_
  refine J.iadd (pc := 23) C dX9_layCue_23 ?_
  refine J.iconst (pc := 24) C (v := 1) dX9_layCue_24 (by decide) ?_
  refine J.iadd (pc := 25) C dX9_layCue_25 ?_
  refine J.iload_n (pc := 26) C dX9_layCue_26 rfl 3 rfl ?_
  refine J.iastM (pc := 27) C (ok_9_0 hcl hk) hf dX9_layCue_27 (fun σ_2 hf => ?_)
  refine J.aload_n (pc := 28) C dX9_layCue_28 rfl 0 rfl ?_
  refine J.getR (pc := 29) C kcX9 hk 0 rfl tw_755 rfl dX9_layCue_29 ?_
  refine J.sipush (pc := 32) C (v := 941) dX9_layCue_32 (by decide) ?_
  refine J.iconst (pc := 35) C (v := 3) dX9_layCue_35 (by decide) ?_
  refine J.iload_n (pc := 36) C dX9_layCue_36 rfl 1 rfl ?_
  refine J.imul (pc := 37) C dX9_layCue_37 ?_
  refine J.iadd (pc := 38) C dX9_layCue_38 ?_
  refine J.iconst (pc := 39) C (v := 2) dX9_layCue_39 (by decide) ?_
  refine J.iadd (pc := 40) C dX9_layCue_40 ?_
  refine J.iload (pc := 41) C dX9_layCue_41 4 rfl ?_
  refine J.iastM (pc := 43) C (ok_9_0 hcl hk) hf dX9_layCue_43 (fun σ_3 hf => ?_)
  exact J.vretM (pc := 44) C hR ((Option.some.inj hf).trans hp) dX9_layCue_44
set_option maxHeartbeats 4000000 in
set_option maxRecDepth 100000 in
theorem m_X9_insert {l : Launch} {n : Nat} {σ : Mem} {k : Nat} {x1 : Int32} {x2 : Int32} {x3 : Int32} {t0 : (Int32 × Mem)} (hf : f_X9_insert n σ k x1 x2 x3 = some t0) : Ct l yX9_insert cX9_insert 5 (some FieldType.int) 1 24 (fun ks => Ok ks k 9) (fun ad => [.ref (ad k), .int x1, .int x2, .int x3]) σ (fun _ => some (.int t0.1)) t0.2 := by
  refine Ct.of (plainFor_of_name (by decide)) (fun _ => Nat.le_of_ble_eq_true rfl) ?_
  intro X C _ hk hcl hR
  have C : Cx X RX9 cX9_insert 5 (some FieldType.int) 1 24 := C
  have L67 : ∀ (σ : Mem) (x1 : Int32) (x2 : Int32) (x3 : Int32) (x4 : Int32) (t : (Int32 × Mem)), f_X9_insert_L67 n σ k x1 x2 x3 x4 = some t → t = t0 → J X 67 [(0, .ref (Xad X k)), (1, .int x1), (2, .int x2), (3, .int x3), (4, .int x4)] [] σ := by
    intro σ x1 x2 x3 x4 t hf hp
    unfold f_X9_insert_L67 at hf
    refine J.aload_n (pc := 67) C dX9_insert_67 rfl 0 rfl ?_
    refine J.iload (pc := 68) C dX9_insert_68 4 rfl ?_
    refine J.iload_n (pc := 70) C dX9_insert_70 rfl 1 rfl ?_
    refine J.iload_n (pc := 71) C dX9_insert_71 rfl 2 rfl ?_
    refine J.iload_n (pc := 72) C dX9_insert_72 rfl 3 rfl ?_
    obtain ⟨σ_4, h_2, hf⟩ := bnd_some hf
    refine J.callV (pc := 73) C (m_X9_layCue h_2) hk wyX9_layCue tvX9_layCue_i tvX9_layCue_s tw_843 kcX9 rfl hk [.int x4, .int x1, .int x2, .int x3] [] rfl rfl (Nat.le_of_ble_eq_true rfl) (Nat.le_of_ble_eq_true rfl) (Nat.le_of_ble_eq_true rfl) (stk' := []) rfl dX9_insert_73 rfl ?_
    refine J.aload_n (pc := 76) C dX9_insert_76 rfl 0 rfl ?_
    refine J.getR (pc := 77) C kcX9 hk 0 rfl tw_755 rfl dX9_insert_77 ?_
    refine J.sipush (pc := 80) C (v := 940) dX9_insert_80 (by decide) ?_
    refine J.dup2 (pc := 83) C dX9_insert_83 rfl rfl ?_
    refine J.iald (pc := 84) C (ok_9_0 hcl hk) hf dX9_insert_84 (fun hf => ?_)
    refine J.iconst (pc := 85) C (v := 1) dX9_insert_85 (by decide) ?_
    refine J.iadd (pc := 86) C dX9_insert_86 ?_
    refine J.iastM (pc := 87) C (ok_9_0 hcl hk) hf dX9_insert_87 (fun σ_5 hf => ?_)
    refine J.iload (pc := 88) C dX9_insert_88 4 rfl ?_
    exact J.iretM (pc := 90) C hR ((Option.some.inj hf).trans hp) dX9_insert_90
  have L10 : ∀ (σ : Mem) (x1 : Int32) (x2 : Int32) (x3 : Int32) (x4 : Int32) (t : (Int32 × Mem)), f_X9_insert_L10 n σ k x1 x2 x3 x4 = some t → t = t0 → J X 10 [(0, .ref (Xad X k)), (1, .int x1), (2, .int x2), (3, .int x3), (4, .int x4)] [] σ := by
    intro σ x1 x2 x3 x4 t hf hp
    unfold f_X9_insert_L10 at hf
    refine J_iter (JJ := fun (s : Mem × Int32) => J X 10 [(0, .ref (Xad X k)), (1, .int x1), (2, .int x2), (3, .int x3), (4, .int (s.2))] [] s.1) (Ps := fun t => t = t0) ?_ n (σ, x4) t hf hp
    clear hf hp
    intro s t hf hp hq
    obtain ⟨σ, x4⟩ := s
    have hp := And.intro hp hq
    clear hq
    have hf : f_X9_insert_B10 n σ k x1 x2 x3 x4 = some t := hf
    show J X 10 [(0, .ref (Xad X k)), (1, .int x1), (2, .int x2), (3, .int x3), (4, .int x4)] [] σ
    unfold f_X9_insert_B10 at hf
    refine J.iload (pc := 10) C dX9_insert_10 4 rfl ?_
    refine J.if_le (pc := 12) C (tgt := 67) dX9_insert_12 (by decide) hf (fun hf => ?_) (fun hf => ?_)
    · obtain ⟨t0, hf, he⟩ := exi_some hf
      have hp := hp.1 _ he
      exact J.sub (loc' := [(0, .ref (Xad X k)), (1, .int x1), (2, .int x2), (3, .int x3), (4, .int x4)]) [0, 1, 2, 3, 4] rfl (L67 σ x1 x2 x3 x4 _ hf hp)
    · refine J.aload_n (pc := 15) C dX9_insert_15 rfl 0 rfl ?_
      refine J.iload (pc := 16) C dX9_insert_16 4 rfl ?_
      refine J.iconst (pc := 18) C (v := 1) dX9_insert_18 (by decide) ?_
      refine J.isub (pc := 19) C dX9_insert_19 ?_
      refine J.iconst (pc := 20) C (v := 0) dX9_insert_20 (by decide) ?_
      obtain ⟨r_7, h_6, hf⟩ := bnd_some hf
      refine J.callV (pc := 21) C (m_X9_ofCue h_6) hk wyX9_ofCue tvX9_ofCue_i tvX9_ofCue_s tw_839 kcX9 rfl hk [.int (x4 - 1), .int 0] [] rfl rfl (Nat.le_of_ble_eq_true rfl) (Nat.le_of_ble_eq_true rfl) (Nat.le_of_ble_eq_true rfl) (stk' := [.int r_7]) rfl dX9_insert_21 rfl ?_
      refine J.iload_n (pc := 24) C dX9_insert_24 rfl 1 rfl ?_
      refine J.icmp_le (pc := 25) C (tgt := 67) dX9_insert_25 (by decide) hf (fun hf => ?_) (fun hf => ?_)
      · obtain ⟨t0, hf, he⟩ := exi_some hf
        have hp := hp.1 _ he
        exact J.sub (loc' := [(0, .ref (Xad X k)), (1, .int x1), (2, .int x2), (3, .int x3), (4, .int x4)]) [0, 1, 2, 3, 4] rfl (L67 σ x1 x2 x3 x4 _ hf hp)
      · refine J.aload_n (pc := 28) C dX9_insert_28 rfl 0 rfl ?_
        refine J.iload (pc := 29) C dX9_insert_29 4 rfl ?_
        refine J.aload_n (pc := 31) C dX9_insert_31 rfl 0 rfl ?_
        refine J.iload (pc := 32) C dX9_insert_32 4 rfl ?_
        refine J.iconst (pc := 34) C (v := 1) dX9_insert_34 (by decide) ?_
        refine J.isub (pc := 35) C dX9_insert_35 ?_
        refine J.iconst (pc := 36) C (v := 0) dX9_insert_36 (by decide) ?_
        obtain ⟨r_9, h_8, hf⟩ := bnd_some hf
        refine J.callV (pc := 37) C (m_X9_ofCue h_8) hk wyX9_ofCue tvX9_ofCue_i tvX9_ofCue_s tw_839 kcX9 rfl hk [.int (x4 - 1), .int 0] [.int x4, .ref (Xad X k)] rfl rfl (Nat.le_of_ble_eq_true rfl) (Nat.le_of_ble_eq_true rfl) (Nat.le_of_ble_eq_true rfl) (stk' := [.int r_9, .int x4, .ref (Xad X k)]) rfl dX9_insert_37 rfl ?_
        refine J.aload_n (pc := 40) C dX9_insert_40 rfl 0 rfl ?_
        refine J.iload (pc := 41) C dX9_insert_41 4 rfl ?_
        refine J.iconst (pc := 43) C (v := 1) dX9_insert_43 (by decide) ?_
        refine J.isub (pc := 44) C dX9_insert_44 ?_
        refine J.iconst (pc := 45) C (v := 1) dX9_insert_45 (by decide) ?_
        obtain ⟨r_11, h_10, hf⟩ := bnd_some hf
        refine J.callV (pc := 46) C (m_X9_ofCue h_10) hk wyX9_ofCue tvX9_ofCue_i tvX9_ofCue_s tw_839 kcX9 rfl hk [.int (x4 - 1), .int 1] [.int r_9, .int x4, .ref (Xad X k)] rfl rfl (Nat.le_of_ble_eq_true rfl) (Nat.le_of_ble_eq_true rfl) (Nat.le_of_ble_eq_true rfl) (stk' := [.int r_11, .int r_9, .int x4, .ref (Xad X k)]) rfl dX9_insert_46 rfl ?_
        refine J.aload_n (pc := 49) C dX9_insert_49 rfl 0 rfl ?_
        refine J.iload (pc := 50) C dX9_insert_50 4 rfl ?_
        refine J.iconst (pc := 52) C (v := 1) dX9_insert_52 (by decide) ?_
        refine J.isub (pc := 53) C dX9_insert_53 ?_
        refine J.iconst (pc := 54) C (v := 2) dX9_insert_54 (by decide) ?_
        obtain ⟨r_13, h_12, hf⟩ := bnd_some hf
        refine J.callV (pc := 55) C (m_X9_ofCue h_12) hk wyX9_ofCue tvX9_ofCue_i tvX9_ofCue_s tw_839 kcX9 rfl hk [.int (x4 - 1), .int 2] [.int r_11, .int r_9, .int x4, .ref (Xad X k)] rfl rfl (Nat.le_of_ble_eq_true rfl) (Nat.le_of_ble_eq_true rfl) (Nat.le_of_ble_eq_true rfl) (stk' := [.int r_13, .int r_11, .int r_9, .int x4, .ref (Xad X k)]) rfl dX9_insert_55 rfl ?_
        obtain ⟨σ_16, h_14, hf⟩ := bnd_some hf
        refine J.callV (pc := 58) C (m_X9_layCue h_14) hk wyX9_layCue tvX9_layCue_i tvX9_layCue_s tw_843 kcX9 rfl hk [.int x4, .int r_9, .int r_11, .int r_13] [] rfl rfl (Nat.le_of_ble_eq_true rfl) (Nat.le_of_ble_eq_true rfl) (Nat.le_of_ble_eq_true rfl) (stk' := []) rfl dX9_insert_58 rfl ?_
        obtain ⟨x4_17, hx_x4_17, hf⟩ := nm_some hf
        refine J.iinc (pc := 61) C (v := x4_17) (loc' := [(4, .int x4_17), (0, .ref (Xad X k)), (1, .int x1), (2, .int x2), (3, .int x3)]) dX9_insert_61 (k := 4) rfl (by rw [hx_x4_17]; rfl) (by decide) rfl ?_
        refine J.goto (pc := 64) C (tgt := 10) dX9_insert_64 (by decide) ?_
        exact J.sub (loc' := [(0, .ref (Xad X k)), (1, .int x1), (2, .int x2), (3, .int x3), (4, .int x4_17)]) [1, 2, 3, 4, 0] rfl (hp.2 _ (Option.some.inj hf).symm)
  have hp : t0 = t0 := rfl
  show J X 0 [(0, .ref (Xad X k)), (1, .int x1), (2, .int x2), (3, .int x3)] [] σ
  unfold f_X9_insert at hf
  refine J.aload_n (pc := 0) C dX9_insert_0 rfl 0 rfl ?_
  refine J.getR (pc := 1) C kcX9 hk 0 rfl tw_755 rfl dX9_insert_1 ?_
  refine J.sipush (pc := 4) C (v := 940) dX9_insert_4 (by decide) ?_
  refine J.iald (pc := 7) C (ok_9_0 hcl hk) hf dX9_insert_7 (fun hf => ?_)
  refine J.nmI hf (fun x4_1 hf => ?_)
  refine J.istore (pc := 8) C (loc' := [(4, .int x4_1), (0, .ref (Xad X k)), (1, .int x1), (2, .int x2), (3, .int x3)]) dX9_insert_8 (by decide) rfl ?_
  exact J.sub (loc' := [(0, .ref (Xad X k)), (1, .int x1), (2, .int x2), (3, .int x3), (4, .int x4_1)]) [1, 2, 3, 4, 0] rfl (L10 σ x1 x2 x3 x4_1 _ hf hp)
set_option maxHeartbeats 4000000 in
set_option maxRecDepth 100000 in
theorem m_X9_takeOut {l : Launch} {n : Nat} {σ : Mem} {k : Nat} {x1 : Int32} {t0 : Mem} (hf : f_X9_takeOut n σ k x1 = some t0) : Ct l yX9_takeOut cX9_takeOut 3 none 1 24 (fun ks => Ok ks k 9) (fun ad => [.ref (ad k), .int x1]) σ (fun _ => none) t0 := by
  refine Ct.of (plainFor_of_name (by decide)) (fun _ => Nat.le_of_ble_eq_true rfl) ?_
  intro X C _ hk hcl hR
  have C : Cx X RX9 cX9_takeOut 3 none 1 24 := C
  have L14 : ∀ (σ : Mem) (x2 : Int32) (t : Mem), f_X9_takeOut_L14 n σ k x2 = some t → t = t0 → J X 14 [(0, .ref (Xad X k)), (2, .int x2)] [] σ := by
    intro σ x2 t hf hp
    unfold f_X9_takeOut_L14 at hf
    refine J_iter (JJ := fun (s : Mem × Int32) => J X 14 [(0, .ref (Xad X k)), (2, .int (s.2))] [] s.1) (Ps := fun t => t = t0) ?_ n (σ, x2) t hf hp
    clear hf hp
    intro s t hf hp hq
    obtain ⟨σ, x2⟩ := s
    have hp := And.intro hp hq
    clear hq
    have hf : f_X9_takeOut_B14 n σ k x2 = some t := hf
    show J X 14 [(0, .ref (Xad X k)), (2, .int x2)] [] σ
    unfold f_X9_takeOut_B14 at hf
    refine J.iload_n (pc := 14) C dX9_takeOut_14 rfl 1 rfl ?_
    refine J.aload_n (pc := 15) C dX9_takeOut_15 rfl 0 rfl ?_
    refine J.getR (pc := 16) C kcX9 hk 0 rfl tw_755 rfl dX9_takeOut_16 ?_
    refine J.sipush (pc := 19) C (v := 940) dX9_takeOut_19 (by decide) ?_
    refine J.iald (pc := 22) C (ok_9_0 hcl hk) hf dX9_takeOut_22 (fun hf => ?_)
    refine J.icmp_ge (pc := 23) C (tgt := 61) dX9_takeOut_23 (by decide) hf (fun hf => ?_) (fun hf => ?_)
    · exact J.vretM (pc := 61) C hR ((hp.1 _ (Option.some.inj hf).symm)) dX9_takeOut_61
    · refine J.aload_n (pc := 26) C dX9_takeOut_26 rfl 0 rfl ?_
      refine J.iload_n (pc := 27) C dX9_takeOut_27 rfl 1 rfl ?_
      refine J.aload_n (pc := 28) C dX9_takeOut_28 rfl 0 rfl ?_
      refine J.iload_n (pc := 29) C dX9_takeOut_29 rfl 1 rfl ?_
      refine J.iconst (pc := 30) C (v := 1) dX9_takeOut_30 (by decide) ?_
      refine J.iadd (pc := 31) C dX9_takeOut_31 ?_
      refine J.iconst (pc := 32) C (v := 0) dX9_takeOut_32 (by decide) ?_
      obtain ⟨r_3, h_2, hf⟩ := bnd_some hf
      refine J.callV (pc := 33) C (m_X9_ofCue h_2) hk wyX9_ofCue tvX9_ofCue_i tvX9_ofCue_s tw_839 kcX9 rfl hk [.int (x2 + 1), .int 0] [.int x2, .ref (Xad X k)] rfl rfl (Nat.le_of_ble_eq_true rfl) (Nat.le_of_ble_eq_true rfl) (Nat.le_of_ble_eq_true rfl) (stk' := [.int r_3, .int x2, .ref (Xad X k)]) rfl dX9_takeOut_33 rfl ?_
      refine J.aload_n (pc := 36) C dX9_takeOut_36 rfl 0 rfl ?_
      refine J.iload_n (pc := 37) C dX9_takeOut_37 rfl 1 rfl ?_
      refine J.iconst (pc := 38) C (v := 1) dX9_takeOut_38 (by decide) ?_
      refine J.iadd (pc := 39) C dX9_takeOut_39 ?_
      refine J.iconst (pc := 40) C (v := 1) dX9_takeOut_40 (by decide) ?_
      obtain ⟨r_5, h_4, hf⟩ := bnd_some hf
      refine J.callV (pc := 41) C (m_X9_ofCue h_4) hk wyX9_ofCue tvX9_ofCue_i tvX9_ofCue_s tw_839 kcX9 rfl hk [.int (x2 + 1), .int 1] [.int r_3, .int x2, .ref (Xad X k)] rfl rfl (Nat.le_of_ble_eq_true rfl) (Nat.le_of_ble_eq_true rfl) (Nat.le_of_ble_eq_true rfl) (stk' := [.int r_5, .int r_3, .int x2, .ref (Xad X k)]) rfl dX9_takeOut_41 rfl ?_
      refine J.aload_n (pc := 44) C dX9_takeOut_44 rfl 0 rfl ?_
      refine J.iload_n (pc := 45) C dX9_takeOut_45 rfl 1 rfl ?_
      refine J.iconst (pc := 46) C (v := 1) dX9_takeOut_46 (by decide) ?_
      refine J.iadd (pc := 47) C dX9_takeOut_47 ?_
      refine J.iconst (pc := 48) C (v := 2) dX9_takeOut_48 (by decide) ?_
      obtain ⟨r_7, h_6, hf⟩ := bnd_some hf
      refine J.callV (pc := 49) C (m_X9_ofCue h_6) hk wyX9_ofCue tvX9_ofCue_i tvX9_ofCue_s tw_839 kcX9 rfl hk [.int (x2 + 1), .int 2] [.int r_5, .int r_3, .int x2, .ref (Xad X k)] rfl rfl (Nat.le_of_ble_eq_true rfl) (Nat.le_of_ble_eq_true rfl) (Nat.le_of_ble_eq_true rfl) (stk' := [.int r_7, .int r_5, .int r_3, .int x2, .ref (Xad X k)]) rfl dX9_takeOut_49 rfl ?_
      obtain ⟨σ_10, h_8, hf⟩ := bnd_some hf
      refine J.callV (pc := 52) C (m_X9_layCue h_8) hk wyX9_layCue tvX9_layCue_i tvX9_layCue_s tw_843 kcX9 rfl hk [.int x2, .int r_3, .int r_5, .int r_7] [] rfl rfl (Nat.le_of_ble_eq_true rfl) (Nat.le_of_ble_eq_true rfl) (Nat.le_of_ble_eq_true rfl) (stk' := []) rfl dX9_takeOut_52 rfl ?_
      obtain ⟨x2_11, hx_x2_11, hf⟩ := nm_some hf
      refine J.iinc (pc := 55) C (v := x2_11) (loc' := [(2, .int x2_11), (0, .ref (Xad X k))]) dX9_takeOut_55 (k := 1) rfl (by rw [hx_x2_11]; rfl) (by decide) rfl ?_
      refine J.goto (pc := 58) C (tgt := 14) dX9_takeOut_58 (by decide) ?_
      exact J.sub (loc' := [(0, .ref (Xad X k)), (2, .int x2_11)]) [1, 0] rfl (hp.2 _ (Option.some.inj hf).symm)
  have hp : t0 = t0 := rfl
  show J X 0 [(0, .ref (Xad X k)), (1, .int x1)] [] σ
  unfold f_X9_takeOut at hf
  refine J.aload_n (pc := 0) C dX9_takeOut_0 rfl 0 rfl ?_
  refine J.getR (pc := 1) C kcX9 hk 0 rfl tw_755 rfl dX9_takeOut_1 ?_
  refine J.sipush (pc := 4) C (v := 940) dX9_takeOut_4 (by decide) ?_
  refine J.dup2 (pc := 7) C dX9_takeOut_7 rfl rfl ?_
  refine J.iald (pc := 8) C (ok_9_0 hcl hk) hf dX9_takeOut_8 (fun hf => ?_)
  refine J.iconst (pc := 9) C (v := 1) dX9_takeOut_9 (by decide) ?_
  refine J.isub (pc := 10) C dX9_takeOut_10 ?_
  refine J.iastM (pc := 11) C (ok_9_0 hcl hk) hf dX9_takeOut_11 (fun σ_1 hf => ?_)
  refine J.iload_n (pc := 12) C dX9_takeOut_12 rfl 1 rfl ?_
  refine J.istore_n (pc := 13) C (loc' := [(2, .int x1), (0, .ref (Xad X k)), (1, .int x1)]) dX9_takeOut_13 rfl (by decide) rfl ?_
  exact J.sub (loc' := [(0, .ref (Xad X k)), (2, .int x1)]) [1, 0] rfl (L14 σ_1 x1 _ hf hp)
set_option maxHeartbeats 4000000 in
set_option maxRecDepth 100000 in
theorem m_X9_isCommand {l : Launch} {x0 : Int32} {x1 : Int32} {σ : Mem} {t0 : Int32} (hf : f_X9_isCommand x0 x1 = some t0) : Ct l yX9_isCommand cX9_isCommand 2 (some FieldType.boolean) 1 22 (fun _ => True) (fun _ => [.int x0, .int x1]) σ (fun _ => some (.int t0)) σ := by
  refine Ct.of (plainFor_of_name (by decide)) (fun _ => Nat.le_of_ble_eq_true rfl) ?_
  intro X C _ _ hcl hR
  have C : Cx X RX9 cX9_isCommand 2 (some FieldType.boolean) 1 22 := C
  have hp : t0 = t0 := rfl
  show J X 0 [(0, .int x0), (1, .int x1)] [] σ
  unfold f_X9_isCommand at hf
  refine J.iload_n (pc := 0) C dX9_isCommand_0 rfl 0 rfl ?_
  refine J.iconst (pc := 1) C (v := 1) dX9_isCommand_1 (by decide) ?_
  refine J.sipush (pc := 2) C (v := 4095) dX9_isCommand_2 (by decide) ?_
  obtain ⟨r_2, h_1, hf⟩ := bnd_some hf
  refine J.callS (pc := 5) C (m_X9_in h_1) trivial wyX9_in tsX9_in tw_791 [.int x0, .int 1, .int 4095] [] rfl rfl (Nat.le_of_ble_eq_true rfl) (Nat.le_of_ble_eq_true rfl) (Nat.le_of_ble_eq_true rfl) (stk' := [.int r_2]) rfl dX9_isCommand_5 rfl ?_
  refine J.if_eq (pc := 8) C (tgt := 26) dX9_isCommand_8 (by decide) hf (fun hf => ?_) (fun hf => ?_)
  · refine J.iconst (pc := 26) C (v := 0) dX9_isCommand_26 (by decide) ?_
    exact J.zretP (pc := 27) C rfl hR ((Option.some.inj hf).trans hp) dX9_isCommand_27
  · refine J.iload_n (pc := 11) C dX9_isCommand_11 rfl 1 rfl ?_
    refine J.iconst (pc := 12) C (v := 0) dX9_isCommand_12 (by decide) ?_
    refine J.sipush (pc := 13) C (v := 1000) dX9_isCommand_13 (by decide) ?_
    obtain ⟨r_4, h_3, hf⟩ := bnd_some hf
    refine J.callS (pc := 16) C (m_X9_in h_3) trivial wyX9_in tsX9_in tw_791 [.int x1, .int 0, .int 1000] [] rfl rfl (Nat.le_of_ble_eq_true rfl) (Nat.le_of_ble_eq_true rfl) (Nat.le_of_ble_eq_true rfl) (stk' := [.int r_4]) rfl dX9_isCommand_16 rfl ?_
    refine J.if_eq (pc := 19) C (tgt := 26) dX9_isCommand_19 (by decide) hf (fun hf => ?_) (fun hf => ?_)
    · refine J.iconst (pc := 26) C (v := 0) dX9_isCommand_26 (by decide) ?_
      exact J.zretP (pc := 27) C rfl hR ((Option.some.inj hf).trans hp) dX9_isCommand_27
    · refine J.iconst (pc := 22) C (v := 1) dX9_isCommand_22 (by decide) ?_
      refine J.goto (pc := 23) C (tgt := 27) dX9_isCommand_23 (by decide) ?_
      exact J.zretP (pc := 27) C rfl hR ((Option.some.inj hf).trans hp) dX9_isCommand_27
set_option maxHeartbeats 4000000 in
set_option maxRecDepth 100000 in
theorem m_X9_cue {l : Launch} {n : Nat} {σ : Mem} {k : Nat} {x1 : Int32} {x2 : Int32} {x3 : Int32} {t0 : (Int32 × Mem)} (hf : f_X9_cue n σ k x1 x2 x3 = some t0) : Ct l yX9_cue cX9_cue 4 (some FieldType.int) 2 48 (fun ks => Ok ks k 9) (fun ad => [.ref (ad k), .int x1, .int x2, .int x3]) σ (fun _ => some (.int t0.1)) t0.2 := by
  refine Ct.of (plainFor_of_name (by decide)) (fun _ => Nat.le_of_ble_eq_true rfl) ?_
  intro X C _ hk hcl hR
  have C : Cx X RX9 cX9_cue 4 (some FieldType.int) 2 48 := C
  have hp : t0 = t0 := rfl
  show J X 0 [(0, .ref (Xad X k)), (1, .int x1), (2, .int x2), (3, .int x3)] [] σ
  unfold f_X9_cue at hf
  refine J.iload_n (pc := 0) C dX9_cue_0 rfl 1 rfl ?_
  refine J.iconst (pc := 1) C (v := 0) dX9_cue_1 (by decide) ?_
  refine J.ldc (pc := 2) C (v := 100000) dX9_cue_2 tw_831 ?_
  obtain ⟨r_2, h_1, hf⟩ := bnd_some hf
  refine J.callS (pc := 4) C (m_X9_in h_1) trivial wyX9_in tsX9_in tw_791 [.int x1, .int 0, .int 100000] [] rfl rfl (Nat.le_of_ble_eq_true rfl) (Nat.le_of_ble_eq_true rfl) (Nat.le_of_ble_eq_true rfl) (stk' := [.int r_2]) rfl dX9_cue_4 rfl ?_
  refine J.if_eq (pc := 7) C (tgt := 18) dX9_cue_7 (by decide) hf (fun hf => ?_) (fun hf => ?_)
  · refine J.bipush (pc := 18) C (v := (-2)) dX9_cue_18 (by decide) ?_
    exact J.iretM (pc := 20) C hR ((Option.some.inj hf).trans hp) dX9_cue_20
  · refine J.iload_n (pc := 10) C dX9_cue_10 rfl 2 rfl ?_
    refine J.iload_n (pc := 11) C dX9_cue_11 rfl 3 rfl ?_
    obtain ⟨r_4, h_3, hf⟩ := bnd_some hf
    refine J.callS (pc := 12) C (m_X9_isCommand h_3) trivial wyX9_isCommand tsX9_isCommand tw_832 [.int x2, .int x3] [] rfl rfl (Nat.le_of_ble_eq_true rfl) (Nat.le_of_ble_eq_true rfl) (Nat.le_of_ble_eq_true rfl) (stk' := [.int r_4]) rfl dX9_cue_12 rfl ?_
    refine J.if_ne (pc := 15) C (tgt := 21) dX9_cue_15 (by decide) hf (fun hf => ?_) (fun hf => ?_)
    · refine J.aload_n (pc := 21) C dX9_cue_21 rfl 0 rfl ?_
      refine J.getR (pc := 22) C kcX9 hk 0 rfl tw_755 rfl dX9_cue_22 ?_
      refine J.sipush (pc := 25) C (v := 940) dX9_cue_25 (by decide) ?_
      refine J.iald (pc := 28) C (ok_9_0 hcl hk) hf dX9_cue_28 (fun hf => ?_)
      refine J.bipush (pc := 29) C (v := 60) dX9_cue_29 (by decide) ?_
      refine J.icmp_ne (pc := 31) C (tgt := 39) dX9_cue_31 (by decide) hf (fun hf => ?_) (fun hf => ?_)
      · refine J.aload_n (pc := 39) C dX9_cue_39 rfl 0 rfl ?_
        refine J.iload_n (pc := 40) C dX9_cue_40 rfl 1 rfl ?_
        refine J.iload_n (pc := 41) C dX9_cue_41 rfl 2 rfl ?_
        refine J.iload_n (pc := 42) C dX9_cue_42 rfl 3 rfl ?_
        obtain ⟨r_6, σ_7, h_5, hf⟩ := bnd2_some hf
        refine J.callV (pc := 43) C (m_X9_insert h_5) hk wyX9_insert tvX9_insert_i tvX9_insert_s tw_835 kcX9 rfl hk [.int x1, .int x2, .int x3] [] rfl rfl (Nat.le_of_ble_eq_true rfl) (Nat.le_of_ble_eq_true rfl) (Nat.le_of_ble_eq_true rfl) (stk' := [.int r_6]) rfl dX9_cue_43 rfl ?_
        exact J.iretM (pc := 46) C hR ((Option.some.inj hf).trans hp) dX9_cue_46
      · refine J.bipush (pc := 34) C (v := (-4)) dX9_cue_34 (by decide) ?_
        refine J.goto (pc := 36) C (tgt := 46) dX9_cue_36 (by decide) ?_
        exact J.iretM (pc := 46) C hR ((Option.some.inj hf).trans hp) dX9_cue_46
    · refine J.bipush (pc := 18) C (v := (-2)) dX9_cue_18 (by decide) ?_
      exact J.iretM (pc := 20) C hR ((Option.some.inj hf).trans hp) dX9_cue_20
set_option maxHeartbeats 4000000 in
set_option maxRecDepth 100000 in
theorem m_X9_isCue {l : Launch} {σ : Mem} {k : Nat} {x1 : Int32} {t0 : Int32} (hf : f_X9_isCue σ k x1 = some t0) : Ct l yX9_isCue cX9_isCue 2 (some FieldType.boolean) 1 22 (fun ks => Ok ks k 9) (fun ad => [.ref (ad k), .int x1]) σ (fun _ => some (.int t0)) σ := by
  refine Ct.of (plainFor_of_name (by decide)) (fun _ => Nat.le_of_ble_eq_true rfl) ?_
  intro X C _ hk hcl hR
  have C : Cx X RX9 cX9_isCue 2 (some FieldType.boolean) 1 22 := C
  have hp : t0 = t0 := rfl
  show J X 0 [(0, .ref (Xad X k)), (1, .int x1)] [] σ
  unfold f_X9_isCue at hf
  refine J.iload_n (pc := 0) C dX9_isCue_0 rfl 1 rfl ?_
  refine J.iconst (pc := 1) C (v := 0) dX9_isCue_1 (by decide) ?_
  refine J.aload_n (pc := 2) C dX9_isCue_2 rfl 0 rfl ?_
  refine J.getR (pc := 3) C kcX9 hk 0 rfl tw_755 rfl dX9_isCue_3 ?_
  refine J.sipush (pc := 6) C (v := 940) dX9_isCue_6 (by decide) ?_
  refine J.iald (pc := 9) C (ok_9_0 hcl hk) hf dX9_isCue_9 (fun hf => ?_)
  refine J.iconst (pc := 10) C (v := 1) dX9_isCue_10 (by decide) ?_
  refine J.isub (pc := 11) C dX9_isCue_11 ?_
  obtain ⟨r_2, h_1, hf⟩ := bnd_some hf
  refine J.callS (pc := 12) C (m_X9_in h_1) trivial wyX9_in tsX9_in tw_791 [.int x1, .int 0, .int ((σ (ptr k 0) (ix 940)) - 1)] [] rfl rfl (Nat.le_of_ble_eq_true rfl) (Nat.le_of_ble_eq_true rfl) (Nat.le_of_ble_eq_true rfl) (stk' := [.int r_2]) rfl dX9_isCue_12 rfl ?_
  obtain ⟨hbit, hf⟩ := chk_some hf
  exact J.zretP (pc := 15) C (bit_nar hbit) hR ((Option.some.inj hf).trans hp) dX9_isCue_15
set_option maxHeartbeats 4000000 in
set_option maxRecDepth 100000 in
theorem m_X9_remove {l : Launch} {n : Nat} {σ : Mem} {k : Nat} {x1 : Int32} {t0 : (Int32 × Mem)} (hf : f_X9_remove n σ k x1 = some t0) : Ct l yX9_remove cX9_remove 2 (some FieldType.int) 2 46 (fun ks => Ok ks k 9) (fun ad => [.ref (ad k), .int x1]) σ (fun _ => some (.int t0.1)) t0.2 := by
  refine Ct.of (plainFor_of_name (by decide)) (fun _ => Nat.le_of_ble_eq_true rfl) ?_
  intro X C _ hk hcl hR
  have C : Cx X RX9 cX9_remove 2 (some FieldType.int) 2 46 := C
  have hp : t0 = t0 := rfl
  show J X 0 [(0, .ref (Xad X k)), (1, .int x1)] [] σ
  unfold f_X9_remove at hf
  refine J.aload_n (pc := 0) C dX9_remove_0 rfl 0 rfl ?_
  refine J.iload_n (pc := 1) C dX9_remove_1 rfl 1 rfl ?_
  obtain ⟨r_2, h_1, hf⟩ := bnd_some hf
  refine J.callV (pc := 2) C (m_X9_isCue h_1) hk wyX9_isCue tvX9_isCue_i tvX9_isCue_s tw_851 kcX9 rfl hk [.int x1] [] rfl rfl (Nat.le_of_ble_eq_true rfl) (Nat.le_of_ble_eq_true rfl) (Nat.le_of_ble_eq_true rfl) (stk' := [.int r_2]) rfl dX9_remove_2 rfl ?_
  refine J.if_ne (pc := 5) C (tgt := 10) dX9_remove_5 (by decide) hf (fun hf => ?_) (fun hf => ?_)
  · refine J.aload_n (pc := 10) C dX9_remove_10 rfl 0 rfl ?_
    refine J.iload_n (pc := 11) C dX9_remove_11 rfl 1 rfl ?_
    obtain ⟨σ_5, h_3, hf⟩ := bnd_some hf
    refine J.callV (pc := 12) C (m_X9_takeOut h_3) hk wyX9_takeOut tvX9_takeOut_i tvX9_takeOut_s tw_855 kcX9 rfl hk [.int x1] [] rfl rfl (Nat.le_of_ble_eq_true rfl) (Nat.le_of_ble_eq_true rfl) (Nat.le_of_ble_eq_true rfl) (stk' := []) rfl dX9_remove_12 rfl ?_
    refine J.aload_n (pc := 15) C dX9_remove_15 rfl 0 rfl ?_
    refine J.getR (pc := 16) C kcX9 hk 0 rfl tw_755 rfl dX9_remove_16 ?_
    refine J.sipush (pc := 19) C (v := 940) dX9_remove_19 (by decide) ?_
    refine J.iald (pc := 22) C (ok_9_0 hcl hk) hf dX9_remove_22 (fun hf => ?_)
    exact J.iretM (pc := 23) C hR ((Option.some.inj hf).trans hp) dX9_remove_23
  · refine J.iconst (pc := 8) C (v := (-1)) dX9_remove_8 (by decide) ?_
    exact J.iretM (pc := 9) C hR ((Option.some.inj hf).trans hp) dX9_remove_9
set_option maxHeartbeats 4000000 in
set_option maxRecDepth 100000 in
theorem m_X9_shift {l : Launch} {n : Nat} {σ : Mem} {k : Nat} {x1 : Int32} {x2 : Int32} {t0 : (Int32 × Mem)} (hf : f_X9_shift n σ k x1 x2 = some t0) : Ct l yX9_shift cX9_shift 6 (some FieldType.int) 2 48 (fun ks => Ok ks k 9) (fun ad => [.ref (ad k), .int x1, .int x2]) σ (fun _ => some (.int t0.1)) t0.2 := by
  refine Ct.of (plainFor_of_name (by decide)) (fun _ => Nat.le_of_ble_eq_true rfl) ?_
  intro X C _ hk hcl hR
  have C : Cx X RX9 cX9_shift 6 (some FieldType.int) 2 48 := C
  have hp : t0 = t0 := rfl
  show J X 0 [(0, .ref (Xad X k)), (1, .int x1), (2, .int x2)] [] σ
  unfold f_X9_shift at hf
  refine J.aload_n (pc := 0) C dX9_shift_0 rfl 0 rfl ?_
  refine J.iload_n (pc := 1) C dX9_shift_1 rfl 1 rfl ?_
  refine J.iconst (pc := 2) C (v := 0) dX9_shift_2 (by decide) ?_
  obtain ⟨r_2, h_1, hf⟩ := bnd_some hf
  refine J.callV (pc := 3) C (m_X9_ofCue h_1) hk wyX9_ofCue tvX9_ofCue_i tvX9_ofCue_s tw_839 kcX9 rfl hk [.int x1, .int 0] [] rfl rfl (Nat.le_of_ble_eq_true rfl) (Nat.le_of_ble_eq_true rfl) (Nat.le_of_ble_eq_true rfl) (stk' := [.int r_2]) rfl dX9_shift_3 rfl ?_
  refine J.iload_n (pc := 6) C dX9_shift_6 rfl 2 rfl ?_
  refine J.iadd (pc := 7) C dX9_shift_7 ?_
  refine J.nmI hf (fun x3_3 hf => ?_)
  refine J.istore_n (pc := 8) C (loc' := [(3, .int x3_3), (0, .ref (Xad X k)), (1, .int x1), (2, .int x2)]) dX9_shift_8 rfl (by decide) rfl ?_
  refine J.aload_n (pc := 9) C dX9_shift_9 rfl 1 rfl ?_
  refine J.iload_n (pc := 10) C dX9_shift_10 rfl 2 rfl ?_
  refine J.iconst (pc := 11) C (v := 1) dX9_shift_11 (by decide) ?_
  obtain ⟨r_5, h_4, hf⟩ := bnd_some hf
  refine J.callV (pc := 12) C (m_X9_ofCue h_4) hk wyX9_ofCue tvX9_ofCue_i tvX9_ofCue_s tw_839 kcX9 rfl hk [.int x1, .int 1] [] rfl rfl (Nat.le_of_ble_eq_true rfl) (Nat.le_of_ble_eq_true rfl) (Nat.le_of_ble_eq_true rfl) (stk' := [.int r_5]) rfl dX9_shift_12 rfl ?_
  refine J.istore (pc := 15) C (loc' := [(4, .int r_5), (3, .int x3_3), (0, .ref (Xad X k)), (1, .int x1), (2, .int x2)]) dX9_shift_15 (by decide) rfl ?_
  refine J.aload_n (pc := 17) C dX9_shift_17 rfl 2 rfl ?_
  refine J.iload_n (pc := 18) C dX9_shift_18 rfl 3 rfl ?_
  refine J.iconst (pc := 19) C (v := 2) dX9_shift_19 (by decide) ?_
  obtain ⟨r_7, h_6, hf⟩ := bnd_some hf
  refine J.callV (pc := 20) C (m_X9_ofCue h_6) hk wyX9_ofCue tvX9_ofCue_i tvX9_ofCue_s tw_839 kcX9 rfl hk [.int x1, .int 2] [] rfl rfl (Nat.le_of_ble_eq_true rfl) (Nat.le_of_ble_eq_true rfl) (Nat.le_of_ble_eq_true rfl) (stk' := [.int r_7]) rfl dX9_shift_20 rfl ?_
  refine J.istore (pc := 23) C (loc' := [(5, .int r_7), (4, .int r_5), (3, .int x3_3), (0, .ref (Xad X k)), (1, .int x1), (2, .int x2)]) dX9_shift_23 (by decide) rfl ?_
  refine J.aload_n (pc := 25) C dX9_shift_25 rfl 3 rfl ?_
  refine J.iload_n (pc := 26) C dX9_shift_26 rfl 4 rfl ?_
  obtain ⟨σ_10, h_8, hf⟩ := bnd_some hf
  refine J.callV (pc := 27) C (m_X9_takeOut h_8) hk wyX9_takeOut tvX9_takeOut_i tvX9_takeOut_s tw_855 kcX9 rfl hk [.int x1] [] rfl rfl (Nat.le_of_ble_eq_true rfl) (Nat.le_of_ble_eq_true rfl) (Nat.le_of_ble_eq_true rfl) (stk' := []) rfl dX9_shift_27 rfl ?_
  refine J.aload_n (pc := 30) C dX9_shift_30 rfl 3 rfl ?_
  refine J.iload_n (pc := 31) C dX9_shift_31 rfl 2 rfl ?_
  refine J.iload (pc := 32) C dX9_shift_32 1 rfl ?_
  refine J.iload (pc := 34) C dX9_shift_34 0 rfl ?_
  obtain ⟨r_12, σ_13, h_11, hf⟩ := bnd2_some hf
  refine J.callV (pc := 36) C (m_X9_insert h_11) hk wyX9_insert tvX9_insert_i tvX9_insert_s tw_835 kcX9 rfl hk [.int x3_3, .int r_5, .int r_7] [] rfl rfl (Nat.le_of_ble_eq_true rfl) (Nat.le_of_ble_eq_true rfl) (Nat.le_of_ble_eq_true rfl) (stk' := [.int r_12]) rfl dX9_shift_36 rfl ?_
  exact J.iretM (pc := 39) C hR ((Option.some.inj hf).trans hp) dX9_shift_39
set_option maxHeartbeats 4000000 in
set_option maxRecDepth 100000 in
theorem m_X9_move {l : Launch} {n : Nat} {σ : Mem} {k : Nat} {x1 : Int32} {x2 : Int32} {t0 : (Int32 × Mem)} (hf : f_X9_move n σ k x1 x2 = some t0) : Ct l yX9_move cX9_move 3 (some FieldType.int) 3 73 (fun ks => Ok ks k 9) (fun ad => [.ref (ad k), .int x1, .int x2]) σ (fun _ => some (.int t0.1)) t0.2 := by
  refine Ct.of (plainFor_of_name (by decide)) (fun _ => Nat.le_of_ble_eq_true rfl) ?_
  intro X C _ hk hcl hR
  have C : Cx X RX9 cX9_move 3 (some FieldType.int) 3 73 := C
  have hp : t0 = t0 := rfl
  show J X 0 [(0, .ref (Xad X k)), (1, .int x1), (2, .int x2)] [] σ
  unfold f_X9_move at hf
  refine J.aload_n (pc := 0) C dX9_move_0 rfl 0 rfl ?_
  refine J.iload_n (pc := 1) C dX9_move_1 rfl 1 rfl ?_
  obtain ⟨r_2, h_1, hf⟩ := bnd_some hf
  refine J.callV (pc := 2) C (m_X9_isCue h_1) hk wyX9_isCue tvX9_isCue_i tvX9_isCue_s tw_851 kcX9 rfl hk [.int x1] [] rfl rfl (Nat.le_of_ble_eq_true rfl) (Nat.le_of_ble_eq_true rfl) (Nat.le_of_ble_eq_true rfl) (stk' := [.int r_2]) rfl dX9_move_2 rfl ?_
  refine J.if_ne (pc := 5) C (tgt := 10) dX9_move_5 (by decide) hf (fun hf => ?_) (fun hf => ?_)
  · refine J.iload_n (pc := 10) C dX9_move_10 rfl 2 rfl ?_
    refine J.ldc (pc := 11) C (v := (-100000)) dX9_move_11 tw_863 ?_
    refine J.ldc (pc := 13) C (v := 100000) dX9_move_13 tw_831 ?_
    obtain ⟨r_4, h_3, hf⟩ := bnd_some hf
    refine J.callS (pc := 15) C (m_X9_in h_3) trivial wyX9_in tsX9_in tw_791 [.int x2, .int (-100000), .int 100000] [] rfl rfl (Nat.le_of_ble_eq_true rfl) (Nat.le_of_ble_eq_true rfl) (Nat.le_of_ble_eq_true rfl) (stk' := [.int r_4]) rfl dX9_move_15 rfl ?_
    refine J.if_eq (pc := 18) C (tgt := 38) dX9_move_18 (by decide) hf (fun hf => ?_) (fun hf => ?_)
    · refine J.bipush (pc := 38) C (v := (-2)) dX9_move_38 (by decide) ?_
      exact J.iretM (pc := 40) C hR ((Option.some.inj hf).trans hp) dX9_move_40
    · refine J.aload_n (pc := 21) C dX9_move_21 rfl 0 rfl ?_
      refine J.iload_n (pc := 22) C dX9_move_22 rfl 1 rfl ?_
      refine J.iconst (pc := 23) C (v := 0) dX9_move_23 (by decide) ?_
      obtain ⟨r_6, h_5, hf⟩ := bnd_some hf
      refine J.callV (pc := 24) C (m_X9_ofCue h_5) hk wyX9_ofCue tvX9_ofCue_i tvX9_ofCue_s tw_839 kcX9 rfl hk [.int x1, .int 0] [] rfl rfl (Nat.le_of_ble_eq_true rfl) (Nat.le_of_ble_eq_true rfl) (Nat.le_of_ble_eq_true rfl) (stk' := [.int r_6]) rfl dX9_move_24 rfl ?_
      refine J.iload_n (pc := 27) C dX9_move_27 rfl 2 rfl ?_
      refine J.iadd (pc := 28) C dX9_move_28 ?_
      refine J.iconst (pc := 29) C (v := 0) dX9_move_29 (by decide) ?_
      refine J.ldc (pc := 30) C (v := 100000) dX9_move_30 tw_831 ?_
      obtain ⟨r_8, h_7, hf⟩ := bnd_some hf
      refine J.callS (pc := 32) C (m_X9_in h_7) trivial wyX9_in tsX9_in tw_791 [.int (r_6 + x2), .int 0, .int 100000] [] rfl rfl (Nat.le_of_ble_eq_true rfl) (Nat.le_of_ble_eq_true rfl) (Nat.le_of_ble_eq_true rfl) (stk' := [.int r_8]) rfl dX9_move_32 rfl ?_
      refine J.if_ne (pc := 35) C (tgt := 41) dX9_move_35 (by decide) hf (fun hf => ?_) (fun hf => ?_)
      · refine J.aload_n (pc := 41) C dX9_move_41 rfl 0 rfl ?_
        refine J.iload_n (pc := 42) C dX9_move_42 rfl 1 rfl ?_
        refine J.iload_n (pc := 43) C dX9_move_43 rfl 2 rfl ?_
        obtain ⟨r_10, σ_11, h_9, hf⟩ := bnd2_some hf
        refine J.callV (pc := 44) C (m_X9_shift h_9) hk wyX9_shift tvX9_shift_i tvX9_shift_s tw_864 kcX9 rfl hk [.int x1, .int x2] [] rfl rfl (Nat.le_of_ble_eq_true rfl) (Nat.le_of_ble_eq_true rfl) (Nat.le_of_ble_eq_true rfl) (stk' := [.int r_10]) rfl dX9_move_44 rfl ?_
        exact J.iretM (pc := 47) C hR ((Option.some.inj hf).trans hp) dX9_move_47
      · refine J.bipush (pc := 38) C (v := (-2)) dX9_move_38 (by decide) ?_
        exact J.iretM (pc := 40) C hR ((Option.some.inj hf).trans hp) dX9_move_40
  · refine J.iconst (pc := 8) C (v := (-1)) dX9_move_8 (by decide) ?_
    exact J.iretM (pc := 9) C hR ((Option.some.inj hf).trans hp) dX9_move_9
set_option maxHeartbeats 4000000 in
set_option maxRecDepth 100000 in
theorem m_X9_part {l : Launch} {σ : Mem} {k : Nat} {x1 : Int32} {x2 : Int32} {t0 : Int32} (hf : f_X9_part σ k x1 x2 = some t0) : Ct l yX9_part cX9_part 3 (some FieldType.int) 2 43 (fun ks => Ok ks k 9) (fun ad => [.ref (ad k), .int x1, .int x2]) σ (fun _ => some (.int t0)) σ := by
  refine Ct.of (plainFor_of_name (by decide)) (fun _ => Nat.le_of_ble_eq_true rfl) ?_
  intro X C _ hk hcl hR
  have C : Cx X RX9 cX9_part 3 (some FieldType.int) 2 43 := C
  have hp : t0 = t0 := rfl
  show J X 0 [(0, .ref (Xad X k)), (1, .int x1), (2, .int x2)] [] σ
  unfold f_X9_part at hf
  refine J.aload_n (pc := 0) C dX9_part_0 rfl 0 rfl ?_
  refine J.iload_n (pc := 1) C dX9_part_1 rfl 1 rfl ?_
  obtain ⟨r_2, h_1, hf⟩ := bnd_some hf
  refine J.callV (pc := 2) C (m_X9_isCue h_1) hk wyX9_isCue tvX9_isCue_i tvX9_isCue_s tw_851 kcX9 rfl hk [.int x1] [] rfl rfl (Nat.le_of_ble_eq_true rfl) (Nat.le_of_ble_eq_true rfl) (Nat.le_of_ble_eq_true rfl) (stk' := [.int r_2]) rfl dX9_part_2 rfl ?_
  refine J.if_ne (pc := 5) C (tgt := 10) dX9_part_5 (by decide) hf (fun hf => ?_) (fun hf => ?_)
  · refine J.iload_n (pc := 10) C dX9_part_10 rfl 2 rfl ?_
    refine J.iconst (pc := 11) C (v := 0) dX9_part_11 (by decide) ?_
    refine J.iconst (pc := 12) C (v := 2) dX9_part_12 (by decide) ?_
    obtain ⟨r_4, h_3, hf⟩ := bnd_some hf
    refine J.callS (pc := 13) C (m_X9_in h_3) trivial wyX9_in tsX9_in tw_791 [.int x2, .int 0, .int 2] [] rfl rfl (Nat.le_of_ble_eq_true rfl) (Nat.le_of_ble_eq_true rfl) (Nat.le_of_ble_eq_true rfl) (stk' := [.int r_4]) rfl dX9_part_13 rfl ?_
    refine J.if_eq (pc := 16) C (tgt := 28) dX9_part_16 (by decide) hf (fun hf => ?_) (fun hf => ?_)
    · refine J.bipush (pc := 28) C (v := (-2)) dX9_part_28 (by decide) ?_
      exact J.iretP (pc := 30) C hR ((Option.some.inj hf).trans hp) dX9_part_30
    · refine J.aload_n (pc := 19) C dX9_part_19 rfl 0 rfl ?_
      refine J.iload_n (pc := 20) C dX9_part_20 rfl 1 rfl ?_
      refine J.iload_n (pc := 21) C dX9_part_21 rfl 2 rfl ?_
      obtain ⟨r_6, h_5, hf⟩ := bnd_some hf
      refine J.callV (pc := 22) C (m_X9_ofCue h_5) hk wyX9_ofCue tvX9_ofCue_i tvX9_ofCue_s tw_839 kcX9 rfl hk [.int x1, .int x2] [] rfl rfl (Nat.le_of_ble_eq_true rfl) (Nat.le_of_ble_eq_true rfl) (Nat.le_of_ble_eq_true rfl) (stk' := [.int r_6]) rfl dX9_part_22 rfl ?_
      refine J.goto (pc := 25) C (tgt := 30) dX9_part_25 (by decide) ?_
      exact J.iretP (pc := 30) C hR ((Option.some.inj hf).trans hp) dX9_part_30
  · refine J.iconst (pc := 8) C (v := (-1)) dX9_part_8 (by decide) ?_
    exact J.iretP (pc := 9) C hR ((Option.some.inj hf).trans hp) dX9_part_9
set_option maxHeartbeats 4000000 in
set_option maxRecDepth 100000 in
theorem m_X9_carryOut {l : Launch} {n : Nat} {σ : Mem} {k : Nat} {x1 : Int32} {x2 : Int32} {t0 : Mem} (hf : f_X9_carryOut n σ k x1 x2 = some t0) : Ct l yX9_carryOut cX9_carryOut 4 none 0 0 (fun ks => Ok ks k 9) (fun ad => [.ref (ad k), .int x1, .int x2]) σ (fun _ => none) t0 := by
  refine Ct.of (plainFor_of_name (by decide)) (fun _ => Nat.le_of_ble_eq_true rfl) ?_
  intro X C _ hk hcl hR
  have C : Cx X RX9 cX9_carryOut 4 none 0 0 := C
  have L50 : ∀ (σ : Mem) (x1 : Int32) (x2 : Int32) (x3 : Int32) (y0 : Int32) (y1 : Int32) (t : (Mem ⊕ (Mem × Int32))), f_X9_carryOut_L50 n σ k x1 x2 x3 y0 y1 = some t → ((∀ r1, t = .inl r1 → r1 = t0) ∧ (∀ s1, t = .inr s1 → J X 2 [(0, .ref (Xad X k)), (1, .int x1), (2, .int x2), (3, .int (s1.2))] [] s1.1)) → J X 50 [(0, .ref (Xad X k)), (1, .int x1), (2, .int x2), (3, .int x3)] [.int y0, .int y1, .ref (Xad X (ptr k 0))] σ := by
    intro σ x1 x2 x3 y0 y1 t hf hp
    unfold f_X9_carryOut_L50 at hf
    refine J.iastM (pc := 50) C (ok_9_0 hcl hk) hf dX9_carryOut_50 (fun σ_1 hf => ?_)
    obtain ⟨x3_2, hx_x3_2, hf⟩ := nm_some hf
    refine J.iinc (pc := 51) C (v := x3_2) (loc' := [(3, .int x3_2), (0, .ref (Xad X k)), (1, .int x1), (2, .int x2)]) dX9_carryOut_51 (k := 3) rfl (by rw [hx_x3_2]; rfl) (by decide) rfl ?_
    refine J.goto (pc := 54) C (tgt := 2) dX9_carryOut_54 (by decide) ?_
    exact J.sub (loc' := [(0, .ref (Xad X k)), (1, .int x1), (2, .int x2), (3, .int x3_2)]) [1, 2, 3, 0] rfl (hp.2 _ (Option.some.inj hf).symm)
  have L2 : ∀ (σ : Mem) (x1 : Int32) (x2 : Int32) (x3 : Int32) (t : Mem), f_X9_carryOut_L2 n σ k x1 x2 x3 = some t → t = t0 → J X 2 [(0, .ref (Xad X k)), (1, .int x1), (2, .int x2), (3, .int x3)] [] σ := by
    intro σ x1 x2 x3 t hf hp
    unfold f_X9_carryOut_L2 at hf
    refine J_iter (JJ := fun (s : Mem × Int32) => J X 2 [(0, .ref (Xad X k)), (1, .int x1), (2, .int x2), (3, .int (s.2))] [] s.1) (Ps := fun t => t = t0) ?_ n (σ, x3) t hf hp
    clear hf hp
    intro s t hf hp hq
    obtain ⟨σ, x3⟩ := s
    have hp := And.intro hp hq
    clear hq
    have hf : f_X9_carryOut_B2 n σ k x1 x2 x3 = some t := hf
    show J X 2 [(0, .ref (Xad X k)), (1, .int x1), (2, .int x2), (3, .int x3)] [] σ
    unfold f_X9_carryOut_B2 at hf
    refine J.iload_n (pc := 2) C dX9_carryOut_2 rfl 3 rfl ?_
    refine J.aload_n (pc := 3) C dX9_carryOut_3 rfl 0 rfl ?_
    refine J.getR (pc := 4) C kcX9 hk 0 rfl tw_755 rfl dX9_carryOut_4 ?_
    refine J.sipush (pc := 7) C (v := 938) dX9_carryOut_7 (by decide) ?_
    refine J.iald (pc := 10) C (ok_9_0 hcl hk) hf dX9_carryOut_10 (fun hf => ?_)
    refine J.icmp_ge (pc := 11) C (tgt := 57) dX9_carryOut_11 (by decide) hf (fun hf => ?_) (fun hf => ?_)
    · exact J.vretM (pc := 57) C hR ((hp.1 _ (Option.some.inj hf).symm)) dX9_carryOut_57
    · refine J.aload_n (pc := 14) C dX9_carryOut_14 rfl 0 rfl ?_
      refine J.getR (pc := 15) C kcX9 hk 0 rfl tw_755 rfl dX9_carryOut_15 ?_
      refine J.bipush (pc := 18) C (v := 12) dX9_carryOut_18 (by decide) ?_
      refine J.iload_n (pc := 20) C dX9_carryOut_20 rfl 3 rfl ?_
      refine J.imul (pc := 21) C dX9_carryOut_21 ?_
      refine J.bipush (pc := 22) C (v := 6) dX9_carryOut_22 (by decide) ?_
      refine J.iadd (pc := 24) C dX9_carryOut_24 ?_
      refine J.iload_n (pc := 25) C dX9_carryOut_25 rfl 1 rfl ?_
      refine J.iload_n (pc := 26) C dX9_carryOut_26 rfl 3 rfl ?_
      refine J.ishr (pc := 27) C dX9_carryOut_27 ?_
      refine J.iconst (pc := 28) C (v := 1) dX9_carryOut_28 (by decide) ?_
      refine J.iand (pc := 29) C dX9_carryOut_29 ?_
      refine J.iconst (pc := 30) C (v := 1) dX9_carryOut_30 (by decide) ?_
      refine J.icmp_ne (pc := 31) C (tgt := 38) dX9_carryOut_31 (by decide) hf (fun hf => ?_) (fun hf => ?_)
      · refine J.aload_n (pc := 38) C dX9_carryOut_38 rfl 0 rfl ?_
        refine J.getR (pc := 39) C kcX9 hk 0 rfl tw_755 rfl dX9_carryOut_39 ?_
        refine J.bipush (pc := 42) C (v := 12) dX9_carryOut_42 (by decide) ?_
        refine J.iload_n (pc := 44) C dX9_carryOut_44 rfl 3 rfl ?_
        refine J.imul (pc := 45) C dX9_carryOut_45 ?_
        refine J.bipush (pc := 46) C (v := 6) dX9_carryOut_46 (by decide) ?_
        refine J.iadd (pc := 48) C dX9_carryOut_48 ?_
        refine J.iald (pc := 49) C (ok_9_0 hcl hk) hf dX9_carryOut_49 (fun hf => ?_)
        exact J.sub (loc' := [(0, .ref (Xad X k)), (1, .int x1), (2, .int x2), (3, .int x3)]) [0, 1, 2, 3] rfl (L50 σ x1 x2 x3 (σ (ptr k 0) (ix ((12 * x3) + 6))) ((12 * x3) + 6) _ hf hp)
      · refine J.iload_n (pc := 34) C dX9_carryOut_34 rfl 2 rfl ?_
        refine J.goto (pc := 35) C (tgt := 50) dX9_carryOut_35 (by decide) ?_
        exact J.sub (loc' := [(0, .ref (Xad X k)), (1, .int x1), (2, .int x2), (3, .int x3)]) [0, 1, 2, 3] rfl (L50 σ x1 x2 x3 x2 ((12 * x3) + 6) _ hf hp)
  have hp : t0 = t0 := rfl
  show J X 0 [(0, .ref (Xad X k)), (1, .int x1), (2, .int x2)] [] σ
  unfold f_X9_carryOut at hf
  refine J.iconst (pc := 0) C (v := 0) dX9_carryOut_0 (by decide) ?_
  refine J.istore_n (pc := 1) C (loc' := [(3, .int 0), (0, .ref (Xad X k)), (1, .int x1), (2, .int x2)]) dX9_carryOut_1 rfl (by decide) rfl ?_
  exact J.sub (loc' := [(0, .ref (Xad X k)), (1, .int x1), (2, .int x2), (3, .int 0)]) [1, 2, 3, 0] rfl (L2 σ x1 x2 0 _ hf hp)
set_option maxHeartbeats 4000000 in
set_option maxRecDepth 100000 in
theorem m_X9_toward {l : Launch} {x0 : Int32} {x1 : Int32} {x2 : Int32} {σ : Mem} {t0 : Int32} (hf : f_X9_toward x0 x1 x2 = some t0) : Ct l yX9_toward cX9_toward 3 (some FieldType.int) 0 0 (fun _ => True) (fun _ => [.int x0, .int x1, .int x2]) σ (fun _ => some (.int t0)) σ := by
  refine Ct.of (plainFor_of_name (by decide)) (fun _ => Nat.le_of_ble_eq_true rfl) ?_
  intro X C _ _ hcl hR
  have C : Cx X RX9 cX9_toward 3 (some FieldType.int) 0 0 := C
  have hp : t0 = t0 := rfl
  show J X 0 [(0, .int x0), (1, .int x1), (2, .int x2)] [] σ
  unfold f_X9_toward at hf
  refine J.iload_n (pc := 0) C dX9_toward_0 rfl 0 rfl ?_
  refine J.iload_n (pc := 1) C dX9_toward_1 rfl 1 rfl ?_
  refine J.icmp_ge (pc := 2) C (tgt := 22) dX9_toward_2 (by decide) hf (fun hf => ?_) (fun hf => ?_)
  · refine J.iload_n (pc := 22) C dX9_toward_22 rfl 0 rfl ?_
    refine J.iload_n (pc := 23) C dX9_toward_23 rfl 2 rfl ?_
    refine J.isub (pc := 24) C dX9_toward_24 ?_
    refine J.iload_n (pc := 25) C dX9_toward_25 rfl 1 rfl ?_
    refine J.icmp_le (pc := 26) C (tgt := 35) dX9_toward_26 (by decide) hf (fun hf => ?_) (fun hf => ?_)
    · refine J.iload_n (pc := 35) C dX9_toward_35 rfl 1 rfl ?_
      exact J.iretP (pc := 36) C hR ((Option.some.inj hf).trans hp) dX9_toward_36
    · refine J.iload_n (pc := 29) C dX9_toward_29 rfl 0 rfl ?_
      refine J.iload_n (pc := 30) C dX9_toward_30 rfl 2 rfl ?_
      refine J.isub (pc := 31) C dX9_toward_31 ?_
      refine J.goto (pc := 32) C (tgt := 36) dX9_toward_32 (by decide) ?_
      exact J.iretP (pc := 36) C hR ((Option.some.inj hf).trans hp) dX9_toward_36
  · refine J.iload_n (pc := 5) C dX9_toward_5 rfl 0 rfl ?_
    refine J.iload_n (pc := 6) C dX9_toward_6 rfl 2 rfl ?_
    refine J.iadd (pc := 7) C dX9_toward_7 ?_
    refine J.iload_n (pc := 8) C dX9_toward_8 rfl 1 rfl ?_
    refine J.icmp_ge (pc := 9) C (tgt := 18) dX9_toward_9 (by decide) hf (fun hf => ?_) (fun hf => ?_)
    · refine J.iload_n (pc := 18) C dX9_toward_18 rfl 1 rfl ?_
      refine J.goto (pc := 19) C (tgt := 36) dX9_toward_19 (by decide) ?_
      exact J.iretP (pc := 36) C hR ((Option.some.inj hf).trans hp) dX9_toward_36
    · refine J.iload_n (pc := 12) C dX9_toward_12 rfl 0 rfl ?_
      refine J.iload_n (pc := 13) C dX9_toward_13 rfl 2 rfl ?_
      refine J.iadd (pc := 14) C dX9_toward_14 ?_
      refine J.goto (pc := 15) C (tgt := 36) dX9_toward_15 (by decide) ?_
      exact J.iretP (pc := 36) C hR ((Option.some.inj hf).trans hp) dX9_toward_36
set_option maxHeartbeats 4000000 in
set_option maxRecDepth 100000 in
theorem m_X9_stepWind {l : Launch} {σ : Mem} {k : Nat} {t0 : Mem} (hf : f_X9_stepWind σ k = some t0) : Ct l yX9_stepWind cX9_stepWind 5 none 0 0 (fun ks => Ok ks k 9) (fun ad => [.ref (ad k)]) σ (fun _ => none) t0 := by
  refine Ct.of (plainFor_of_name (by decide)) (fun _ => Nat.le_of_ble_eq_true rfl) ?_
  intro X C _ hk hcl hR
  have C : Cx X RX9 cX9_stepWind 5 none 0 0 := C
  have L201 : ∀ (σ : Mem) (y0 : Int32) (y1 : Int32) (t : Mem), f_X9_stepWind_L201 σ k y0 y1 = some t → t = t0 → J X 201 [(0, .ref (Xad X k))] [.int y0, .int y1, .ref (Xad X (ptr k 0))] σ := by
    intro σ y0 y1 t hf hp
    unfold f_X9_stepWind_L201 at hf
    refine J.iastM (pc := 201) C (ok_9_0 hcl hk) hf dX9_stepWind_201 (fun σ_5 hf => ?_)
    refine J.aload_n (pc := 202) C dX9_stepWind_202 rfl 0 rfl ?_
    refine J.getR (pc := 203) C kcX9 hk 0 rfl tw_755 rfl dX9_stepWind_203 ?_
    refine J.sipush (pc := 206) C (v := 936) dX9_stepWind_206 (by decide) ?_
    refine J.iconst (pc := 209) C (v := 0) dX9_stepWind_209 (by decide) ?_
    refine J.iastM (pc := 210) C (ok_9_0 hcl hk) hf dX9_stepWind_210 (fun σ_6 hf => ?_)
    refine J.goto (pc := 211) C (tgt := 283) dX9_stepWind_211 (by decide) ?_
    exact J.vretM (pc := 283) C hR ((Option.some.inj hf).trans hp) dX9_stepWind_283
  have L177 : ∀ (σ : Mem) (x3 : Int32) (t : Mem), f_X9_stepWind_L177 σ k x3 = some t → t = t0 → J X 177 [(0, .ref (Xad X k)), (3, .int x3)] [] σ := by
    intro σ x3 t hf hp
    unfold f_X9_stepWind_L177 at hf
    refine J.aload_n (pc := 177) C dX9_stepWind_177 rfl 0 rfl ?_
    refine J.getR (pc := 178) C kcX9 hk 0 rfl tw_755 rfl dX9_stepWind_178 ?_
    refine J.sipush (pc := 181) C (v := 935) dX9_stepWind_181 (by decide) ?_
    refine J.iload_n (pc := 184) C dX9_stepWind_184 rfl 1 rfl ?_
    refine J.aload_n (pc := 185) C dX9_stepWind_185 rfl 0 rfl ?_
    refine J.getR (pc := 186) C kcX9 hk 0 rfl tw_755 rfl dX9_stepWind_186 ?_
    refine J.sipush (pc := 189) C (v := 929) dX9_stepWind_189 (by decide) ?_
    refine J.iald (pc := 192) C (ok_9_0 hcl hk) hf dX9_stepWind_192 (fun hf => ?_)
    refine J.icmp_lt (pc := 193) C (tgt := 200) dX9_stepWind_193 (by decide) hf (fun hf => ?_) (fun hf => ?_)
    · refine J.iconst (pc := 200) C (v := 1) dX9_stepWind_200 (by decide) ?_
      exact J.sub (loc' := [(0, .ref (Xad X k))]) [0] rfl (L201 σ 1 935 _ hf hp)
    · refine J.iconst (pc := 196) C (v := 2) dX9_stepWind_196 (by decide) ?_
      refine J.goto (pc := 197) C (tgt := 201) dX9_stepWind_197 (by decide) ?_
      exact J.sub (loc' := [(0, .ref (Xad X k))]) [0] rfl (L201 σ 2 935 _ hf hp)
  have L214 : ∀ (σ : Mem) (x4 : Int32) (t : Mem), f_X9_stepWind_L214 σ k x4 = some t → t = t0 → J X 214 [(0, .ref (Xad X k)), (4, .int x4)] [] σ := by
    intro σ x4 t hf hp
    unfold f_X9_stepWind_L214 at hf
    refine J.iload (pc := 214) C dX9_stepWind_214 1 rfl ?_
    refine J.if_eq (pc := 216) C (tgt := 274) dX9_stepWind_216 (by decide) hf (fun hf => ?_) (fun hf => ?_)
    · refine J.aload_n (pc := 274) C dX9_stepWind_274 rfl 0 rfl ?_
      refine J.getR (pc := 275) C kcX9 hk 0 rfl tw_755 rfl dX9_stepWind_275 ?_
      refine J.sipush (pc := 278) C (v := 936) dX9_stepWind_278 (by decide) ?_
      refine J.iconst (pc := 281) C (v := 0) dX9_stepWind_281 (by decide) ?_
      refine J.iastM (pc := 282) C (ok_9_0 hcl hk) hf dX9_stepWind_282 (fun σ_7 hf => ?_)
      exact J.vretM (pc := 283) C hR ((Option.some.inj hf).trans hp) dX9_stepWind_283
    · refine J.aload_n (pc := 219) C dX9_stepWind_219 rfl 0 rfl ?_
      refine J.getR (pc := 220) C kcX9 hk 0 rfl tw_755 rfl dX9_stepWind_220 ?_
      refine J.sipush (pc := 223) C (v := 936) dX9_stepWind_223 (by decide) ?_
      refine J.dup2 (pc := 226) C dX9_stepWind_226 rfl rfl ?_
      refine J.iald (pc := 227) C (ok_9_0 hcl hk) hf dX9_stepWind_227 (fun hf => ?_)
      refine J.iconst (pc := 228) C (v := 1) dX9_stepWind_228 (by decide) ?_
      refine J.iadd (pc := 229) C dX9_stepWind_229 ?_
      refine J.iastM (pc := 230) C (ok_9_0 hcl hk) hf dX9_stepWind_230 (fun σ_8 hf => ?_)
      refine J.aload_n (pc := 231) C dX9_stepWind_231 rfl 0 rfl ?_
      refine J.getR (pc := 232) C kcX9 hk 0 rfl tw_755 rfl dX9_stepWind_232 ?_
      refine J.sipush (pc := 235) C (v := 936) dX9_stepWind_235 (by decide) ?_
      refine J.iald (pc := 238) C (ok_9_0 hcl hk) hf dX9_stepWind_238 (fun hf => ?_)
      refine J.aload_n (pc := 239) C dX9_stepWind_239 rfl 0 rfl ?_
      refine J.getR (pc := 240) C kcX9 hk 0 rfl tw_755 rfl dX9_stepWind_240 ?_
      refine J.sipush (pc := 243) C (v := 931) dX9_stepWind_243 (by decide) ?_
      refine J.iald (pc := 246) C (ok_9_0 hcl hk) hf dX9_stepWind_246 (fun hf => ?_)
      refine J.icmp_lt (pc := 247) C (tgt := 283) dX9_stepWind_247 (by decide) hf (fun hf => ?_) (fun hf => ?_)
      · exact J.vretM (pc := 283) C hR ((Option.some.inj hf).trans hp) dX9_stepWind_283
      · refine J.aload_n (pc := 250) C dX9_stepWind_250 rfl 0 rfl ?_
        refine J.getR (pc := 251) C kcX9 hk 0 rfl tw_755 rfl dX9_stepWind_251 ?_
        refine J.sipush (pc := 254) C (v := 935) dX9_stepWind_254 (by decide) ?_
        refine J.dup2 (pc := 257) C dX9_stepWind_257 rfl rfl ?_
        refine J.iald (pc := 258) C (ok_9_0 hcl hk) hf dX9_stepWind_258 (fun hf => ?_)
        refine J.iconst (pc := 259) C (v := 1) dX9_stepWind_259 (by decide) ?_
        refine J.isub (pc := 260) C dX9_stepWind_260 ?_
        refine J.iastM (pc := 261) C (ok_9_0 hcl hk) hf dX9_stepWind_261 (fun σ_9 hf => ?_)
        refine J.aload_n (pc := 262) C dX9_stepWind_262 rfl 0 rfl ?_
        refine J.getR (pc := 263) C kcX9 hk 0 rfl tw_755 rfl dX9_stepWind_263 ?_
        refine J.sipush (pc := 266) C (v := 936) dX9_stepWind_266 (by decide) ?_
        refine J.iconst (pc := 269) C (v := 0) dX9_stepWind_269 (by decide) ?_
        refine J.iastM (pc := 270) C (ok_9_0 hcl hk) hf dX9_stepWind_270 (fun σ_10 hf => ?_)
        refine J.goto (pc := 271) C (tgt := 283) dX9_stepWind_271 (by decide) ?_
        exact J.vretM (pc := 283) C hR ((Option.some.inj hf).trans hp) dX9_stepWind_283
  have L140 : ∀ (σ : Mem) (x3 : Int32) (y0 : Int32) (t : Mem), f_X9_stepWind_L140 σ k x3 y0 = some t → t = t0 → J X 140 [(0, .ref (Xad X k)), (3, .int x3)] [.int y0] σ := by
    intro σ x3 y0 t hf hp
    unfold f_X9_stepWind_L140 at hf
    refine J.istore (pc := 140) C (loc' := [(4, .int y0), (0, .ref (Xad X k)), (3, .int x3)]) dX9_stepWind_140 (by decide) rfl ?_
    refine J.iload_n (pc := 142) C dX9_stepWind_142 rfl 2 rfl ?_
    refine J.aload_n (pc := 143) C dX9_stepWind_143 rfl 1 rfl ?_
    refine J.getR (pc := 144) C kcX9 hk 0 rfl tw_755 rfl dX9_stepWind_144 ?_
    refine J.sipush (pc := 147) C (v := 929) dX9_stepWind_147 (by decide) ?_
    refine J.iald (pc := 150) C (ok_9_0 hcl hk) hf dX9_stepWind_150 (fun hf => ?_)
    refine J.icmp_ge (pc := 151) C (tgt := 177) dX9_stepWind_151 (by decide) hf (fun hf => ?_) (fun hf => ?_)
    · exact J.sub (loc' := [(0, .ref (Xad X k)), (3, .int x3)]) [1, 2] rfl (L177 σ x3 _ hf hp)
    · refine J.iload_n (pc := 154) C dX9_stepWind_154 rfl 2 rfl ?_
      refine J.aload_n (pc := 155) C dX9_stepWind_155 rfl 1 rfl ?_
      refine J.getR (pc := 156) C kcX9 hk 0 rfl tw_755 rfl dX9_stepWind_156 ?_
      refine J.sipush (pc := 159) C (v := 928) dX9_stepWind_159 (by decide) ?_
      refine J.iald (pc := 162) C (ok_9_0 hcl hk) hf dX9_stepWind_162 (fun hf => ?_)
      refine J.icmp_lt (pc := 163) C (tgt := 214) dX9_stepWind_163 (by decide) hf (fun hf => ?_) (fun hf => ?_)
      · exact J.sub (loc' := [(0, .ref (Xad X k)), (4, .int y0)]) [1, 0] rfl (L214 σ y0 _ hf hp)
      · refine J.aload_n (pc := 166) C dX9_stepWind_166 rfl 1 rfl ?_
        refine J.getR (pc := 167) C kcX9 hk 0 rfl tw_755 rfl dX9_stepWind_167 ?_
        refine J.sipush (pc := 170) C (v := 935) dX9_stepWind_170 (by decide) ?_
        refine J.iald (pc := 173) C (ok_9_0 hcl hk) hf dX9_stepWind_173 (fun hf => ?_)
        refine J.if_ne (pc := 174) C (tgt := 214) dX9_stepWind_174 (by decide) hf (fun hf => ?_) (fun hf => ?_)
        · exact J.sub (loc' := [(0, .ref (Xad X k)), (4, .int y0)]) [1, 0] rfl (L214 σ y0 _ hf hp)
        · exact J.sub (loc' := [(0, .ref (Xad X k)), (3, .int x3)]) [1, 2] rfl (L177 σ x3 _ hf hp)
  have L139 : ∀ (σ : Mem) (x3 : Int32) (t : Mem), f_X9_stepWind_L139 σ k x3 = some t → t = t0 → J X 139 [(0, .ref (Xad X k)), (3, .int x3)] [] σ := by
    intro σ x3 t hf hp
    unfold f_X9_stepWind_L139 at hf
    refine J.iconst (pc := 139) C (v := 0) dX9_stepWind_139 (by decide) ?_
    exact J.sub (loc' := [(0, .ref (Xad X k)), (3, .int x3)]) [0, 1] rfl (L140 σ x3 0 _ hf hp)
  have L135 : ∀ (σ : Mem) (x3 : Int32) (t : Mem), f_X9_stepWind_L135 σ k x3 = some t → t = t0 → J X 135 [(0, .ref (Xad X k)), (3, .int x3)] [] σ := by
    intro σ x3 t hf hp
    unfold f_X9_stepWind_L135 at hf
    refine J.iconst (pc := 135) C (v := 1) dX9_stepWind_135 (by decide) ?_
    refine J.goto (pc := 136) C (tgt := 140) dX9_stepWind_136 (by decide) ?_
    exact J.sub (loc' := [(0, .ref (Xad X k)), (3, .int x3)]) [0, 1] rfl (L140 σ x3 1 _ hf hp)
  have L108 : ∀ (σ : Mem) (x3 : Int32) (t : Mem), f_X9_stepWind_L108 σ k x3 = some t → t = t0 → J X 108 [(0, .ref (Xad X k)), (3, .int x3)] [] σ := by
    intro σ x3 t hf hp
    unfold f_X9_stepWind_L108 at hf
    refine J.aload_n (pc := 108) C dX9_stepWind_108 rfl 0 rfl ?_
    refine J.getR (pc := 109) C kcX9 hk 0 rfl tw_755 rfl dX9_stepWind_109 ?_
    refine J.sipush (pc := 112) C (v := 935) dX9_stepWind_112 (by decide) ?_
    refine J.iald (pc := 115) C (ok_9_0 hcl hk) hf dX9_stepWind_115 (fun hf => ?_)
    refine J.iconst (pc := 116) C (v := 1) dX9_stepWind_116 (by decide) ?_
    refine J.icmp_ne (pc := 117) C (tgt := 139) dX9_stepWind_117 (by decide) hf (fun hf => ?_) (fun hf => ?_)
    · exact J.sub (loc' := [(0, .ref (Xad X k)), (3, .int x3)]) [0, 1] rfl (L139 σ x3 _ hf hp)
    · refine J.iload_n (pc := 120) C dX9_stepWind_120 rfl 1 rfl ?_
      refine J.aload_n (pc := 121) C dX9_stepWind_121 rfl 0 rfl ?_
      refine J.getR (pc := 122) C kcX9 hk 0 rfl tw_755 rfl dX9_stepWind_122 ?_
      refine J.sipush (pc := 125) C (v := 928) dX9_stepWind_125 (by decide) ?_
      refine J.iald (pc := 128) C (ok_9_0 hcl hk) hf dX9_stepWind_128 (fun hf => ?_)
      refine J.bipush (pc := 129) C (v := 10) dX9_stepWind_129 (by decide) ?_
      refine J.isub (pc := 131) C dX9_stepWind_131 ?_
      refine J.icmp_ge (pc := 132) C (tgt := 139) dX9_stepWind_132 (by decide) hf (fun hf => ?_) (fun hf => ?_)
      · exact J.sub (loc' := [(0, .ref (Xad X k)), (3, .int x3)]) [0, 1] rfl (L139 σ x3 _ hf hp)
      · exact J.sub (loc' := [(0, .ref (Xad X k)), (3, .int x3)]) [0, 1] rfl (L135 σ x3 _ hf hp)
  have L54 : ∀ (σ : Mem) (y0 : Int32) (y1 : Int32) (t : Mem), f_X9_stepWind_L54 σ k y0 y1 = some t → t = t0 → J X 54 [(0, .ref (Xad X k))] [.int y0, .int y1] σ := by
    intro σ y0 y1 t hf hp
    unfold f_X9_stepWind_L54 at hf
    refine J.isub (pc := 54) C dX9_stepWind_54 ?_
    refine J.nmI hf (fun x2_2 hf => ?_)
    refine J.istore_n (pc := 55) C (loc' := [(2, .int x2_2), (0, .ref (Xad X k))]) dX9_stepWind_55 rfl (by decide) rfl ?_
    refine J.aload_n (pc := 56) C dX9_stepWind_56 rfl 1 rfl ?_
    refine J.getR (pc := 57) C kcX9 hk 0 rfl tw_755 rfl dX9_stepWind_57 ?_
    refine J.sipush (pc := 60) C (v := 934) dX9_stepWind_60 (by decide) ?_
    refine J.dup2 (pc := 63) C dX9_stepWind_63 rfl rfl ?_
    refine J.iald (pc := 64) C (ok_9_0 hcl hk) hf dX9_stepWind_64 (fun hf => ?_)
    refine J.iload_n (pc := 65) C dX9_stepWind_65 rfl 0 rfl ?_
    refine J.iadd (pc := 66) C dX9_stepWind_66 ?_
    refine J.iastM (pc := 67) C (ok_9_0 hcl hk) hf dX9_stepWind_67 (fun σ_3 hf => ?_)
    refine J.aload_n (pc := 68) C dX9_stepWind_68 rfl 1 rfl ?_
    refine J.getR (pc := 69) C kcX9 hk 0 rfl tw_755 rfl dX9_stepWind_69 ?_
    refine J.sipush (pc := 72) C (v := 934) dX9_stepWind_72 (by decide) ?_
    refine J.iald (pc := 75) C (ok_9_0 hcl hk) hf dX9_stepWind_75 (fun hf => ?_)
    refine J.sipush (pc := 76) C (v := 1024) dX9_stepWind_76 (by decide) ?_
    refine J.idiv (pc := 79) C dX9_stepWind_79 (by decide) ?_
    refine J.nmI hf (fun x3_4 hf => ?_)
    refine J.istore_n (pc := 80) C (loc' := [(3, .int x3_4), (2, .int x2_2), (0, .ref (Xad X k))]) dX9_stepWind_80 rfl (by decide) rfl ?_
    refine J.aload_n (pc := 81) C dX9_stepWind_81 rfl 2 rfl ?_
    refine J.getR (pc := 82) C kcX9 hk 0 rfl tw_755 rfl dX9_stepWind_82 ?_
    refine J.sipush (pc := 85) C (v := 935) dX9_stepWind_85 (by decide) ?_
    refine J.iald (pc := 88) C (ok_9_0 hcl hk) hf dX9_stepWind_88 (fun hf => ?_)
    refine J.iconst (pc := 89) C (v := 2) dX9_stepWind_89 (by decide) ?_
    refine J.icmp_ne (pc := 90) C (tgt := 108) dX9_stepWind_90 (by decide) hf (fun hf => ?_) (fun hf => ?_)
    · exact J.sub (loc' := [(0, .ref (Xad X k)), (3, .int x3_4)]) [2, 0] rfl (L108 σ_3 x3_4 _ hf hp)
    · refine J.iload_n (pc := 93) C dX9_stepWind_93 rfl 0 rfl ?_
      refine J.aload_n (pc := 94) C dX9_stepWind_94 rfl 2 rfl ?_
      refine J.getR (pc := 95) C kcX9 hk 0 rfl tw_755 rfl dX9_stepWind_95 ?_
      refine J.sipush (pc := 98) C (v := 929) dX9_stepWind_98 (by decide) ?_
      refine J.iald (pc := 101) C (ok_9_0 hcl hk) hf dX9_stepWind_101 (fun hf => ?_)
      refine J.bipush (pc := 102) C (v := 10) dX9_stepWind_102 (by decide) ?_
      refine J.isub (pc := 104) C dX9_stepWind_104 ?_
      refine J.icmp_lt (pc := 105) C (tgt := 135) dX9_stepWind_105 (by decide) hf (fun hf => ?_) (fun hf => ?_)
      · exact J.sub (loc' := [(0, .ref (Xad X k)), (3, .int x3_4)]) [2, 0] rfl (L135 σ_3 x3_4 _ hf hp)
      · exact J.sub (loc' := [(0, .ref (Xad X k)), (3, .int x3_4)]) [2, 0] rfl (L108 σ_3 x3_4 _ hf hp)
  have L53 : ∀ (σ : Mem) (y0 : Int32) (t : Mem), f_X9_stepWind_L53 σ k y0 = some t → t = t0 → J X 53 [(0, .ref (Xad X k))] [.int y0] σ := by
    intro σ y0 t hf hp
    unfold f_X9_stepWind_L53 at hf
    refine J.iconst (pc := 53) C (v := 0) dX9_stepWind_53 (by decide) ?_
    exact J.sub (loc' := [(0, .ref (Xad X k))]) [0] rfl (L54 σ 0 y0 _ hf hp)
  have hp : t0 = t0 := rfl
  show J X 0 [(0, .ref (Xad X k))] [] σ
  unfold f_X9_stepWind at hf
  refine J.sipush (pc := 0) C (v := 1024) dX9_stepWind_0 (by decide) ?_
  refine J.aload_n (pc := 3) C dX9_stepWind_3 rfl 0 rfl ?_
  refine J.getR (pc := 4) C kcX9 hk 0 rfl tw_755 rfl dX9_stepWind_4 ?_
  refine J.sipush (pc := 7) C (v := 933) dX9_stepWind_7 (by decide) ?_
  refine J.iald (pc := 10) C (ok_9_0 hcl hk) hf dX9_stepWind_10 (fun hf => ?_)
  refine J.imul (pc := 11) C dX9_stepWind_11 ?_
  refine J.aload_n (pc := 12) C dX9_stepWind_12 rfl 0 rfl ?_
  refine J.getR (pc := 13) C kcX9 hk 0 rfl tw_755 rfl dX9_stepWind_13 ?_
  refine J.sipush (pc := 16) C (v := 934) dX9_stepWind_16 (by decide) ?_
  refine J.iald (pc := 19) C (ok_9_0 hcl hk) hf dX9_stepWind_19 (fun hf => ?_)
  refine J.isub (pc := 20) C dX9_stepWind_20 ?_
  refine J.nmI hf (fun x1_1 hf => ?_)
  refine J.istore_n (pc := 21) C (loc' := [(1, .int x1_1), (0, .ref (Xad X k))]) dX9_stepWind_21 rfl (by decide) rfl ?_
  refine J.iload_n (pc := 22) C dX9_stepWind_22 rfl 0 rfl ?_
  refine J.aload_n (pc := 23) C dX9_stepWind_23 rfl 1 rfl ?_
  refine J.getR (pc := 24) C kcX9 hk 0 rfl tw_755 rfl dX9_stepWind_24 ?_
  refine J.sipush (pc := 27) C (v := 927) dX9_stepWind_27 (by decide) ?_
  refine J.iald (pc := 30) C (ok_9_0 hcl hk) hf dX9_stepWind_30 (fun hf => ?_)
  obtain ⟨hne, hf⟩ := chk_some hf
  refine J.idiv (pc := 31) C dX9_stepWind_31 (of_decide_eq_true hne) ?_
  refine J.iload_n (pc := 32) C dX9_stepWind_32 rfl 0 rfl ?_
  refine J.if_ge (pc := 33) C (tgt := 53) dX9_stepWind_33 (by decide) hf (fun hf => ?_) (fun hf => ?_)
  · exact J.sub (loc' := [(0, .ref (Xad X k))]) [1] rfl (L53 σ (x1_1 / (σ (ptr k 0) (ix 927))) _ hf hp)
  · refine J.iload_n (pc := 36) C dX9_stepWind_36 rfl 0 rfl ?_
    refine J.aload_n (pc := 37) C dX9_stepWind_37 rfl 1 rfl ?_
    refine J.getR (pc := 38) C kcX9 hk 0 rfl tw_755 rfl dX9_stepWind_38 ?_
    refine J.sipush (pc := 41) C (v := 927) dX9_stepWind_41 (by decide) ?_
    refine J.iald (pc := 44) C (ok_9_0 hcl hk) hf dX9_stepWind_44 (fun hf => ?_)
    obtain ⟨hne, hf⟩ := chk_some hf
    refine J.iremM (pc := 45) C dX9_stepWind_45 (of_decide_eq_true hne) ?_
    refine J.if_eq (pc := 46) C (tgt := 53) dX9_stepWind_46 (by decide) hf (fun hf => ?_) (fun hf => ?_)
    · exact J.sub (loc' := [(0, .ref (Xad X k))]) [1] rfl (L53 σ (x1_1 / (σ (ptr k 0) (ix 927))) _ hf hp)
    · refine J.iconst (pc := 49) C (v := 1) dX9_stepWind_49 (by decide) ?_
      refine J.goto (pc := 50) C (tgt := 54) dX9_stepWind_50 (by decide) ?_
      exact J.sub (loc' := [(0, .ref (Xad X k))]) [1] rfl (L54 σ 1 (x1_1 / (σ (ptr k 0) (ix 927))) _ hf hp)
set_option maxHeartbeats 4000000 in
set_option maxRecDepth 100000 in
theorem m_X9_goal {l : Launch} {σ : Mem} {k : Nat} {x1 : Int32} {t0 : Int32} (hf : f_X9_goal σ k x1 = some t0) : Ct l yX9_goal cX9_goal 4 (some FieldType.int) 0 0 (fun ks => Ok ks k 9) (fun ad => [.ref (ad k), .int x1]) σ (fun _ => some (.int t0)) σ := by
  refine Ct.of (plainFor_of_name (by decide)) (fun _ => Nat.le_of_ble_eq_true rfl) ?_
  intro X C _ hk hcl hR
  have C : Cx X RX9 cX9_goal 4 (some FieldType.int) 0 0 := C
  have L47 : ∀ (y0 : Int32) (t : Int32), f_X9_goal_L47 σ k y0 = some t → t = t0 → J X 47 [(0, .ref (Xad X k))] [.int y0] σ := by
    intro y0 t hf hp
    unfold f_X9_goal_L47 at hf
    refine J.istore_n (pc := 47) C (loc' := [(3, .int y0), (0, .ref (Xad X k))]) dX9_goal_47 rfl (by decide) rfl ?_
    refine J.aload_n (pc := 48) C dX9_goal_48 rfl 1 rfl ?_
    refine J.getR (pc := 49) C kcX9 hk 0 rfl tw_755 rfl dX9_goal_49 ?_
    refine J.sipush (pc := 52) C (v := 935) dX9_goal_52 (by decide) ?_
    refine J.iald (pc := 55) C (ok_9_0 hcl hk) hf dX9_goal_55 (fun hf => ?_)
    refine J.iconst (pc := 56) C (v := 2) dX9_goal_56 (by decide) ?_
    refine J.icmp_ne (pc := 57) C (tgt := 64) dX9_goal_57 (by decide) hf (fun hf => ?_) (fun hf => ?_)
    · refine J.aload_n (pc := 64) C dX9_goal_64 rfl 1 rfl ?_
      refine J.getR (pc := 65) C kcX9 hk 0 rfl tw_755 rfl dX9_goal_65 ?_
      refine J.sipush (pc := 68) C (v := 935) dX9_goal_68 (by decide) ?_
      refine J.iald (pc := 71) C (ok_9_0 hcl hk) hf dX9_goal_71 (fun hf => ?_)
      refine J.iconst (pc := 72) C (v := 1) dX9_goal_72 (by decide) ?_
      refine J.icmp_ne (pc := 73) C (tgt := 99) dX9_goal_73 (by decide) hf (fun hf => ?_) (fun hf => ?_)
      · refine J.iload_n (pc := 99) C dX9_goal_99 rfl 0 rfl ?_
        exact J.iretP (pc := 100) C hR ((Option.some.inj hf).trans hp) dX9_goal_100
      · refine J.iload_n (pc := 76) C dX9_goal_76 rfl 0 rfl ?_
        refine J.aload_n (pc := 77) C dX9_goal_77 rfl 1 rfl ?_
        refine J.getR (pc := 78) C kcX9 hk 0 rfl tw_755 rfl dX9_goal_78 ?_
        refine J.sipush (pc := 81) C (v := 930) dX9_goal_81 (by decide) ?_
        refine J.iald (pc := 84) C (ok_9_0 hcl hk) hf dX9_goal_84 (fun hf => ?_)
        refine J.icmp_le (pc := 85) C (tgt := 99) dX9_goal_85 (by decide) hf (fun hf => ?_) (fun hf => ?_)
        · refine J.iload_n (pc := 99) C dX9_goal_99 rfl 0 rfl ?_
          exact J.iretP (pc := 100) C hR ((Option.some.inj hf).trans hp) dX9_goal_100
        · refine J.aload_n (pc := 88) C dX9_goal_88 rfl 1 rfl ?_
          refine J.getR (pc := 89) C kcX9 hk 0 rfl tw_755 rfl dX9_goal_89 ?_
          refine J.sipush (pc := 92) C (v := 930) dX9_goal_92 (by decide) ?_
          refine J.iald (pc := 95) C (ok_9_0 hcl hk) hf dX9_goal_95 (fun hf => ?_)
          refine J.goto (pc := 96) C (tgt := 100) dX9_goal_96 (by decide) ?_
          exact J.iretP (pc := 100) C hR ((Option.some.inj hf).trans hp) dX9_goal_100
    · refine J.iconst (pc := 60) C (v := 0) dX9_goal_60 (by decide) ?_
      refine J.goto (pc := 61) C (tgt := 100) dX9_goal_61 (by decide) ?_
      exact J.iretP (pc := 100) C hR ((Option.some.inj hf).trans hp) dX9_goal_100
  have hp : t0 = t0 := rfl
  show J X 0 [(0, .ref (Xad X k)), (1, .int x1)] [] σ
  unfold f_X9_goal at hf
  refine J.aload_n (pc := 0) C dX9_goal_0 rfl 0 rfl ?_
  refine J.getR (pc := 1) C kcX9 hk 0 rfl tw_755 rfl dX9_goal_1 ?_
  refine J.sipush (pc := 4) C (v := 937) dX9_goal_4 (by decide) ?_
  refine J.iald (pc := 7) C (ok_9_0 hcl hk) hf dX9_goal_7 (fun hf => ?_)
  refine J.aload_n (pc := 8) C dX9_goal_8 rfl 0 rfl ?_
  refine J.getR (pc := 9) C kcX9 hk 0 rfl tw_755 rfl dX9_goal_9 ?_
  refine J.bipush (pc := 12) C (v := 12) dX9_goal_12 (by decide) ?_
  refine J.iload_n (pc := 14) C dX9_goal_14 rfl 1 rfl ?_
  refine J.imul (pc := 15) C dX9_goal_15 ?_
  refine J.iconst (pc := 16) C (v := 2) dX9_goal_16 (by decide) ?_
  refine J.iadd (pc := 17) C dX9_goal_17 ?_
  refine J.iald (pc := 18) C (ok_9_0 hcl hk) hf dX9_goal_18 (fun hf => ?_)
  refine J.isub (pc := 19) C dX9_goal_19 ?_
  refine J.nmI hf (fun x2_1 hf => ?_)
  refine J.istore_n (pc := 20) C (loc' := [(2, .int x2_1), (0, .ref (Xad X k)), (1, .int x1)]) dX9_goal_20 rfl (by decide) rfl ?_
  refine J.iload_n (pc := 21) C dX9_goal_21 rfl 0 rfl ?_
  refine J.if_ge (pc := 22) C (tgt := 29) dX9_goal_22 (by decide) hf (fun hf => ?_) (fun hf => ?_)
  · refine J.aload_n (pc := 29) C dX9_goal_29 rfl 1 rfl ?_
    refine J.getR (pc := 30) C kcX9 hk 0 rfl tw_755 rfl dX9_goal_30 ?_
    refine J.sipush (pc := 33) C (v := 144) dX9_goal_33 (by decide) ?_
    refine J.bipush (pc := 36) C (v := 64) dX9_goal_36 (by decide) ?_
    refine J.iload_n (pc := 38) C dX9_goal_38 rfl 2 rfl ?_
    refine J.imul (pc := 39) C dX9_goal_39 ?_
    refine J.iadd (pc := 40) C dX9_goal_40 ?_
    refine J.iload_n (pc := 41) C dX9_goal_41 rfl 0 rfl ?_
    refine J.bipush (pc := 42) C (v := 64) dX9_goal_42 (by decide) ?_
    refine J.iremM (pc := 44) C dX9_goal_44 (by decide) ?_
    refine J.iadd (pc := 45) C dX9_goal_45 ?_
    refine J.iald (pc := 46) C (ok_9_0 hcl hk) hf dX9_goal_46 (fun hf => ?_)
    exact J.sub (loc' := [(0, .ref (Xad X k))]) [1] rfl (L47 (σ (ptr k 0) (ix ((144 + (64 * x1)) + (irm x2_1 64)))) _ hf hp)
  · refine J.iconst (pc := 25) C (v := 0) dX9_goal_25 (by decide) ?_
    refine J.goto (pc := 26) C (tgt := 47) dX9_goal_26 (by decide) ?_
    exact J.sub (loc' := [(0, .ref (Xad X k))]) [1] rfl (L47 0 _ hf hp)
