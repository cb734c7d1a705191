set_option maxHeartbeats 4000000 in
set_option maxRecDepth 100000 in
theorem m_X9_stepPump {l : Launch} {n : Nat} {σ : Mem} {k : Nat} {x1 : Int32} {t0 : Mem} (hf : f_X9_stepPump n σ k x1 = some t0) : Ct l yX9_stepPump cX9_stepPump 5 none 1 22 (fun ks => Ok ks k 9) (fun ad => [.ref (ad k), .int x1]) σ (fun _ => none) t0 := by
  refine Ct.of (plainFor_of_name (by decide)) (fun _ => Nat.le_of_ble_eq_true rfl) ?_
  intro X C _ hk hcl hR
  have C : Cx X RX9 cX9_stepPump 5 none 1 22 := C
  have L173 : ∀ (σ : Mem) (y0 : Int32) (y1 : Int32) (y2 : Int32) (t : Mem), f_X9_stepPump_L173 n σ k y0 y1 y2 = some t → t = t0 → J X 173 [] [.int y0, .int y1, .int y2, .ref (Xad X (ptr k 0))] σ := by
    intro σ y0 y1 y2 t hf hp
    unfold f_X9_stepPump_L173 at hf
    refine J.iadd (pc := 173) C dX9_stepPump_173 ?_
    refine J.iastM (pc := 174) C (ok_9_0 hcl hk) hf dX9_stepPump_174 (fun σ_8 hf => ?_)
    exact J.vretM (pc := 175) C hR ((Option.some.inj hf).trans hp) dX9_stepPump_175
  have L131 : ∀ (σ : Mem) (x2 : Int32) (x3 : Int32) (y0 : Int32) (y1 : Int32) (y2 : Int32) (t : Mem), f_X9_stepPump_L131 n σ k x2 x3 y0 y1 y2 = some t → t = t0 → J X 131 [(0, .ref (Xad X k)), (2, .int x2), (3, .int x3)] [.int y0, .int y1, .int y2, .ref (Xad X (ptr k 0))] σ := by
    intro σ x2 x3 y0 y1 y2 t hf hp
    unfold f_X9_stepPump_L131 at hf
    refine J.sipush (pc := 131) C (v := 1000) dX9_stepPump_131 (by decide) ?_
    refine J.aload_n (pc := 134) C dX9_stepPump_134 rfl 0 rfl ?_
    refine J.getR (pc := 135) C kcX9 hk 0 rfl tw_755 rfl dX9_stepPump_135 ?_
    refine J.iload_n (pc := 138) C dX9_stepPump_138 rfl 1 rfl ?_
    refine J.iconst (pc := 139) C (v := 1) dX9_stepPump_139 (by decide) ?_
    refine J.iadd (pc := 140) C dX9_stepPump_140 ?_
    refine J.iald (pc := 141) C (ok_9_0 hcl hk) hf dX9_stepPump_141 (fun hf => ?_)
    refine J.imul (pc := 142) C dX9_stepPump_142 ?_
    obtain ⟨r_5, h_4, hf⟩ := bnd_some hf
    refine J.callS (pc := 143) C (m_X9_toward h_4) trivial wyX9_toward tsX9_toward tw_897 [.int y1, .int y0, .int (1000 * (σ (ptr k 0) (ix (x2 + 1))))] [.int y2, .ref (Xad X (ptr k 0))] rfl rfl (Nat.le_of_ble_eq_true rfl) (Nat.le_of_ble_eq_true rfl) (Nat.le_of_ble_eq_true rfl) (stk' := [.int r_5, .int y2, .ref (Xad X (ptr k 0))]) rfl dX9_stepPump_143 rfl ?_
    refine J.iastM (pc := 146) C (ok_9_0 hcl hk) hf dX9_stepPump_146 (fun σ_6 hf => ?_)
    refine J.aload_n (pc := 147) C dX9_stepPump_147 rfl 0 rfl ?_
    refine J.getR (pc := 148) C kcX9 hk 0 rfl tw_755 rfl dX9_stepPump_148 ?_
    refine J.iload_n (pc := 151) C dX9_stepPump_151 rfl 1 rfl ?_
    refine J.iconst (pc := 152) C (v := 4) dX9_stepPump_152 (by decide) ?_
    refine J.iadd (pc := 153) C dX9_stepPump_153 ?_
    refine J.nmI hf (fun z_7 hf => ?_)
    refine J.dup2 (pc := 154) C dX9_stepPump_154 rfl rfl ?_
    refine J.iald (pc := 155) C (ok_9_0 hcl hk) hf dX9_stepPump_155 (fun hf => ?_)
    refine J.iload_n (pc := 156) C dX9_stepPump_156 rfl 2 rfl ?_
    refine J.aload_n (pc := 157) C dX9_stepPump_157 rfl 0 rfl ?_
    refine J.getR (pc := 158) C kcX9 hk 0 rfl tw_755 rfl dX9_stepPump_158 ?_
    refine J.iload_n (pc := 161) C dX9_stepPump_161 rfl 1 rfl ?_
    refine J.iconst (pc := 162) C (v := 2) dX9_stepPump_162 (by decide) ?_
    refine J.iadd (pc := 163) C dX9_stepPump_163 ?_
    refine J.iald (pc := 164) C (ok_9_0 hcl hk) hf dX9_stepPump_164 (fun hf => ?_)
    refine J.icmp_le (pc := 165) C (tgt := 172) dX9_stepPump_165 (by decide) hf (fun hf => ?_) (fun hf => ?_)
    · refine J.iconst (pc := 172) C (v := 0) dX9_stepPump_172 (by decide) ?_
      exact J.sub (loc' := []) [] rfl (L173 σ_6 0 (σ_6 (ptr k 0) (ix z_7)) z_7 _ hf hp)
    · refine J.iconst (pc := 168) C (v := 1) dX9_stepPump_168 (by decide) ?_
      refine J.goto (pc := 169) C (tgt := 173) dX9_stepPump_169 (by decide) ?_
      exact J.sub (loc' := []) [] rfl (L173 σ_6 1 (σ_6 (ptr k 0) (ix z_7)) z_7 _ hf hp)
  have L13 : ∀ (σ : Mem) (x1 : Int32) (x2 : Int32) (x3 : Int32) (x4 : Int32) (t : Mem), f_X9_stepPump_L13 n σ k x1 x2 x3 x4 = some t → t = t0 → J X 13 [(0, .ref (Xad X k)), (1, .int x1), (2, .int x2), (3, .int x3), (4, .int x4)] [] σ := by
    intro σ x1 x2 x3 x4 t hf hp
    unfold f_X9_stepPump_L13 at hf
    refine J_iter (JJ := fun (s : Int32 × Int32) => J X 13 [(0, .ref (Xad X k)), (1, .int x1), (2, .int x2), (3, .int (s.1)), (4, .int (s.2))] [] σ) (Ps := fun t => t = t0) ?_ n (x3, x4) t hf hp
    clear hf hp
    intro s t hf hp hq
    obtain ⟨x3, x4⟩ := s
    have hp := And.intro hp hq
    clear hq
    have hf : f_X9_stepPump_B13 n σ k x1 x2 x3 x4 = some t := hf
    show J X 13 [(0, .ref (Xad X k)), (1, .int x1), (2, .int x2), (3, .int x3), (4, .int x4)] [] σ
    unfold f_X9_stepPump_B13 at hf
    refine J.iload (pc := 13) C dX9_stepPump_13 4 rfl ?_
    refine J.aload_n (pc := 15) C dX9_stepPump_15 rfl 0 rfl ?_
    refine J.getR (pc := 16) C kcX9 hk 0 rfl tw_755 rfl dX9_stepPump_16 ?_
    refine J.sipush (pc := 19) C (v := 938) dX9_stepPump_19 (by decide) ?_
    refine J.iald (pc := 22) C (ok_9_0 hcl hk) hf dX9_stepPump_22 (fun hf => ?_)
    refine J.icmp_ge (pc := 23) C (tgt := 81) dX9_stepPump_23 (by decide) hf (fun hf => ?_) (fun hf => ?_)
    · refine J.sipush (pc := 81) C (v := 1000) dX9_stepPump_81 (by decide) ?_
      refine J.aload_n (pc := 84) C dX9_stepPump_84 rfl 0 rfl ?_
      refine J.getR (pc := 85) C kcX9 hk 0 rfl tw_755 rfl dX9_stepPump_85 ?_
      refine J.iload_n (pc := 88) C dX9_stepPump_88 rfl 2 rfl ?_
      refine J.iconst (pc := 89) C (v := 0) dX9_stepPump_89 (by decide) ?_
      refine J.iadd (pc := 90) C dX9_stepPump_90 ?_
      refine J.iald (pc := 91) C (ok_9_0 hcl hk) hf dX9_stepPump_91 (fun hf => ?_)
      refine J.imul (pc := 92) C dX9_stepPump_92 ?_
      refine J.nmI hf (fun x4_2 hf => ?_)
      refine J.istore (pc := 93) C (loc' := [(4, .int x4_2), (0, .ref (Xad X k)), (1, .int x1), (2, .int x2), (3, .int x3)]) dX9_stepPump_93 (by decide) rfl ?_
      refine J.aload_n (pc := 95) C dX9_stepPump_95 rfl 1 rfl ?_
      refine J.getR (pc := 96) C kcX9 hk 0 rfl tw_755 rfl dX9_stepPump_96 ?_
      refine J.iload_n (pc := 99) C dX9_stepPump_99 rfl 3 rfl ?_
      refine J.iconst (pc := 100) C (v := 3) dX9_stepPump_100 (by decide) ?_
      refine J.iadd (pc := 101) C dX9_stepPump_101 ?_
      refine J.iload_n (pc := 102) C dX9_stepPump_102 rfl 4 rfl ?_
      refine J.iastM (pc := 103) C (ok_9_0 hcl hk) hf dX9_stepPump_103 (fun σ_3 hf => ?_)
      refine J.aload_n (pc := 104) C dX9_stepPump_104 rfl 1 rfl ?_
      refine J.getR (pc := 105) C kcX9 hk 0 rfl tw_755 rfl dX9_stepPump_105 ?_
      refine J.iload_n (pc := 108) C dX9_stepPump_108 rfl 3 rfl ?_
      refine J.iconst (pc := 109) C (v := 2) dX9_stepPump_109 (by decide) ?_
      refine J.iadd (pc := 110) C dX9_stepPump_110 ?_
      refine J.aload_n (pc := 111) C dX9_stepPump_111 rfl 1 rfl ?_
      refine J.getR (pc := 112) C kcX9 hk 0 rfl tw_755 rfl dX9_stepPump_112 ?_
      refine J.iload_n (pc := 115) C dX9_stepPump_115 rfl 3 rfl ?_
      refine J.iconst (pc := 116) C (v := 2) dX9_stepPump_116 (by decide) ?_
      refine J.iadd (pc := 117) C dX9_stepPump_117 ?_
      refine J.iald (pc := 118) C (ok_9_0 hcl hk) hf dX9_stepPump_118 (fun hf => ?_)
      refine J.iload_n (pc := 119) C dX9_stepPump_119 rfl 4 rfl ?_
      refine J.iload (pc := 120) C dX9_stepPump_120 0 rfl ?_
      refine J.icmp_ge (pc := 122) C (tgt := 129) dX9_stepPump_122 (by decide) hf (fun hf => ?_) (fun hf => ?_)
      · refine J.iload (pc := 129) C dX9_stepPump_129 0 rfl ?_
        obtain ⟨t0, hf, he⟩ := exi_some hf
        have hp := hp.1 _ he
        exact J.sub (loc' := [(0, .ref (Xad X k)), (2, .int x2), (3, .int x3)]) [1, 3, 4] rfl (L131 σ_3 x2 x3 x4_2 (σ_3 (ptr k 0) (ix (x2 + 2))) (x2 + 2) _ hf hp)
      · refine J.iload_n (pc := 125) C dX9_stepPump_125 rfl 4 rfl ?_
        refine J.goto (pc := 126) C (tgt := 131) dX9_stepPump_126 (by decide) ?_
        obtain ⟨t0, hf, he⟩ := exi_some hf
        have hp := hp.1 _ he
        exact J.sub (loc' := [(0, .ref (Xad X k)), (2, .int x2), (3, .int x3)]) [1, 3, 4] rfl (L131 σ_3 x2 x3 x3 (σ_3 (ptr k 0) (ix (x2 + 2))) (x2 + 2) _ hf hp)
    · refine J.iload_n (pc := 26) C dX9_stepPump_26 rfl 3 rfl ?_
      refine J.aload_n (pc := 27) C dX9_stepPump_27 rfl 0 rfl ?_
      refine J.getR (pc := 28) C kcX9 hk 0 rfl tw_755 rfl dX9_stepPump_28 ?_
      refine J.bipush (pc := 31) C (v := 12) dX9_stepPump_31 (by decide) ?_
      refine J.iload (pc := 33) C dX9_stepPump_33 4 rfl ?_
      refine J.imul (pc := 35) C dX9_stepPump_35 ?_
      refine J.iconst (pc := 36) C (v := 4) dX9_stepPump_36 (by decide) ?_
      refine J.iadd (pc := 37) C dX9_stepPump_37 ?_
      refine J.iald (pc := 38) C (ok_9_0 hcl hk) hf dX9_stepPump_38 (fun hf => ?_)
      refine J.iload_n (pc := 39) C dX9_stepPump_39 rfl 1 rfl ?_
      refine J.icmp_ne (pc := 40) C (tgt := 72) dX9_stepPump_40 (by decide) hf (fun hf => ?_) (fun hf => ?_)
      · refine J.iconst (pc := 72) C (v := 0) dX9_stepPump_72 (by decide) ?_
        refine J.iadd (pc := 73) C dX9_stepPump_73 ?_
        refine J.nmI hf (fun x3_9 hf => ?_)
        refine J.istore_n (pc := 74) C (loc' := [(3, .int x3_9), (0, .ref (Xad X k)), (1, .int x1), (2, .int x2), (4, .int x4)]) dX9_stepPump_74 rfl (by decide) rfl ?_
        obtain ⟨x4_10, hx_x4_10, hf⟩ := nm_some hf
        refine J.iinc (pc := 75) C (v := x4_10) (loc' := [(4, .int x4_10), (3, .int x3_9), (0, .ref (Xad X k)), (1, .int x1), (2, .int x2)]) dX9_stepPump_75 (k := 4) rfl (by rw [hx_x4_10]; rfl) (by decide) rfl ?_
        refine J.goto (pc := 78) C (tgt := 13) dX9_stepPump_78 (by decide) ?_
        exact J.sub (loc' := [(0, .ref (Xad X k)), (1, .int x1), (2, .int x2), (3, .int x3_9), (4, .int x4_10)]) [2, 3, 4, 1, 0] rfl (hp.2 _ (Option.some.inj hf).symm)
      · refine J.aload_n (pc := 43) C dX9_stepPump_43 rfl 0 rfl ?_
        refine J.getR (pc := 44) C kcX9 hk 0 rfl tw_755 rfl dX9_stepPump_44 ?_
        refine J.bipush (pc := 47) C (v := 12) dX9_stepPump_47 (by decide) ?_
        refine J.iload (pc := 49) C dX9_stepPump_49 4 rfl ?_
        refine J.imul (pc := 51) C dX9_stepPump_51 ?_
        refine J.bipush (pc := 52) C (v := 7) dX9_stepPump_52 (by decide) ?_
        refine J.iadd (pc := 54) C dX9_stepPump_54 ?_
        refine J.iald (pc := 55) C (ok_9_0 hcl hk) hf dX9_stepPump_55 (fun hf => ?_)
        refine J.aload_n (pc := 56) C dX9_stepPump_56 rfl 0 rfl ?_
        refine J.getR (pc := 57) C kcX9 hk 0 rfl tw_755 rfl dX9_stepPump_57 ?_
        refine J.bipush (pc := 60) C (v := 12) dX9_stepPump_60 (by decide) ?_
        refine J.iload (pc := 62) C dX9_stepPump_62 4 rfl ?_
        refine J.imul (pc := 64) C dX9_stepPump_64 ?_
        refine J.iconst (pc := 65) C (v := 0) dX9_stepPump_65 (by decide) ?_
        refine J.iadd (pc := 66) C dX9_stepPump_66 ?_
        refine J.iald (pc := 67) C (ok_9_0 hcl hk) hf dX9_stepPump_67 (fun hf => ?_)
        refine J.imul (pc := 68) C dX9_stepPump_68 ?_
        refine J.goto (pc := 69) C (tgt := 73) dX9_stepPump_69 (by decide) ?_
        refine J.iadd (pc := 73) C dX9_stepPump_73 ?_
        refine J.nmI hf (fun x3_11 hf => ?_)
        refine J.istore_n (pc := 74) C (loc' := [(3, .int x3_11), (0, .ref (Xad X k)), (1, .int x1), (2, .int x2), (4, .int x4)]) dX9_stepPump_74 rfl (by decide) rfl ?_
        obtain ⟨x4_12, hx_x4_12, hf⟩ := nm_some hf
        refine J.iinc (pc := 75) C (v := x4_12) (loc' := [(4, .int x4_12), (3, .int x3_11), (0, .ref (Xad X k)), (1, .int x1), (2, .int x2)]) dX9_stepPump_75 (k := 4) rfl (by rw [hx_x4_12]; rfl) (by decide) rfl ?_
        refine J.goto (pc := 78) C (tgt := 13) dX9_stepPump_78 (by decide) ?_
        exact J.sub (loc' := [(0, .ref (Xad X k)), (1, .int x1), (2, .int x2), (3, .int x3_11), (4, .int x4_12)]) [2, 3, 4, 1, 0] rfl (hp.2 _ (Option.some.inj hf).symm)
  have hp : t0 = t0 := rfl
  show J X 0 [(0, .ref (Xad X k)), (1, .int x1)] [] σ
  unfold f_X9_stepPump at hf
  refine J.sipush (pc := 0) C (v := 912) dX9_stepPump_0 (by decide) ?_
  refine J.iconst (pc := 3) C (v := 5) dX9_stepPump_3 (by decide) ?_
  refine J.iload_n (pc := 4) C dX9_stepPump_4 rfl 1 rfl ?_
  refine J.imul (pc := 5) C dX9_stepPump_5 ?_
  refine J.iadd (pc := 6) C dX9_stepPump_6 ?_
  refine J.nmI hf (fun x2_1 hf => ?_)
  refine J.istore_n (pc := 7) C (loc' := [(2, .int x2_1), (0, .ref (Xad X k)), (1, .int x1)]) dX9_stepPump_7 rfl (by decide) rfl ?_
  refine J.iconst (pc := 8) C (v := 0) dX9_stepPump_8 (by decide) ?_
  refine J.istore_n (pc := 9) C (loc' := [(3, .int 0), (2, .int x2_1), (0, .ref (Xad X k)), (1, .int x1)]) dX9_stepPump_9 rfl (by decide) rfl ?_
  refine J.iconst (pc := 10) C (v := 0) dX9_stepPump_10 (by decide) ?_
  refine J.istore (pc := 11) C (loc' := [(4, .int 0), (3, .int 0), (2, .int x2_1), (0, .ref (Xad X k)), (1, .int x1)]) dX9_stepPump_11 (by decide) rfl ?_
  exact J.sub (loc' := [(0, .ref (Xad X k)), (1, .int x1), (2, .int x2_1), (3, .int 0), (4, .int 0)]) [3, 4, 2, 1, 0] rfl (L13 σ x1 x2_1 0 0 _ hf hp)
set_option maxHeartbeats 4000000 in
set_option maxRecDepth 100000 in
theorem m_X9_stepNozzle {l : Launch} {σ : Mem} {k : Nat} {x1 : Int32} {t0 : (Int32 × Mem)} (hf : f_X9_stepNozzle σ k x1 = some t0) : Ct l yX9_stepNozzle cX9_stepNozzle 9 (some FieldType.boolean) 0 0 (fun ks => Ok ks k 9) (fun ad => [.ref (ad k), .int x1]) σ (fun _ => some (.int t0.1)) t0.2 := by
  refine Ct.of (plainFor_of_name (by decide)) (fun _ => Nat.le_of_ble_eq_true rfl) ?_
  intro X C _ hk hcl hR
  have C : Cx X RX9 cX9_stepNozzle 9 (some FieldType.boolean) 0 0 := C
  have L252 : ∀ (σ : Mem) (x2 : Int32) (y0 : Int32) (y1 : Int32) (t : (Int32 × Mem)), f_X9_stepNozzle_L252 σ k x2 y0 y1 = some t → t = t0 → J X 252 [(0, .ref (Xad X k)), (2, .int x2)] [.int y0, .int y1, .ref (Xad X (ptr k 0))] σ := by
    intro σ x2 y0 y1 t hf hp
    unfold f_X9_stepNozzle_L252 at hf
    refine J.iastM (pc := 252) C (ok_9_0 hcl hk) hf dX9_stepNozzle_252 (fun σ_8 hf => ?_)
    refine J.aload_n (pc := 253) C dX9_stepNozzle_253 rfl 0 rfl ?_
    refine J.getR (pc := 254) C kcX9 hk 0 rfl tw_755 rfl dX9_stepNozzle_254 ?_
    refine J.iload_n (pc := 257) C dX9_stepNozzle_257 rfl 1 rfl ?_
    refine J.bipush (pc := 258) C (v := 10) dX9_stepNozzle_258 (by decide) ?_
    refine J.iadd (pc := 260) C dX9_stepNozzle_260 ?_
    refine J.iald (pc := 261) C (ok_9_0 hcl hk) hf dX9_stepNozzle_261 (fun hf => ?_)
    refine J.aload_n (pc := 262) C dX9_stepNozzle_262 rfl 0 rfl ?_
    refine J.getR (pc := 263) C kcX9 hk 0 rfl tw_755 rfl dX9_stepNozzle_263 ?_
    refine J.sipush (pc := 266) C (v := 932) dX9_stepNozzle_266 (by decide) ?_
    refine J.iald (pc := 269) C (ok_9_0 hcl hk) hf dX9_stepNozzle_269 (fun hf => ?_)
    refine J.icmp_le (pc := 270) C (tgt := 277) dX9_stepNozzle_270 (by decide) hf (fun hf => ?_) (fun hf => ?_)
    · refine J.iconst (pc := 277) C (v := 0) dX9_stepNozzle_277 (by decide) ?_
      exact J.zretM (pc := 278) C rfl hR ((Option.some.inj hf).trans hp) dX9_stepNozzle_278
    · refine J.iconst (pc := 273) C (v := 1) dX9_stepNozzle_273 (by decide) ?_
      refine J.goto (pc := 274) C (tgt := 278) dX9_stepNozzle_274 (by decide) ?_
      exact J.zretM (pc := 278) C rfl hR ((Option.some.inj hf).trans hp) dX9_stepNozzle_278
  have L107 : ∀ (σ : Mem) (x2 : Int32) (y0 : Int64) (y1 : Int32) (t : (Int32 × Mem)), f_X9_stepNozzle_L107 σ k x2 y0 y1 = some t → t = t0 → J X 107 [(0, .ref (Xad X k)), (2, .int x2)] [.long y0, .int y1, .ref (Xad X (ptr k 0))] σ := by
    intro σ x2 y0 y1 t hf hp
    unfold f_X9_stepNozzle_L107 at hf
    refine J.l2i (pc := 107) C dX9_stepNozzle_107 ?_
    refine J.iastM (pc := 108) C (ok_9_0 hcl hk) hf dX9_stepNozzle_108 (fun σ_4 hf => ?_)
    refine J.aload_n (pc := 109) C dX9_stepNozzle_109 rfl 0 rfl ?_
    refine J.getR (pc := 110) C kcX9 hk 0 rfl tw_755 rfl dX9_stepNozzle_110 ?_
    refine J.iload_n (pc := 113) C dX9_stepNozzle_113 rfl 1 rfl ?_
    refine J.bipush (pc := 114) C (v := 8) dX9_stepNozzle_114 (by decide) ?_
    refine J.iadd (pc := 116) C dX9_stepNozzle_116 ?_
    refine J.iald (pc := 117) C (ok_9_0 hcl hk) hf dX9_stepNozzle_117 (fun hf => ?_)
    refine J.aload_n (pc := 118) C dX9_stepNozzle_118 rfl 0 rfl ?_
    refine J.getR (pc := 119) C kcX9 hk 0 rfl tw_755 rfl dX9_stepNozzle_119 ?_
    refine J.iload_n (pc := 122) C dX9_stepNozzle_122 rfl 1 rfl ?_
    refine J.iconst (pc := 123) C (v := 0) dX9_stepNozzle_123 (by decide) ?_
    refine J.iadd (pc := 124) C dX9_stepNozzle_124 ?_
    refine J.iald (pc := 125) C (ok_9_0 hcl hk) hf dX9_stepNozzle_125 (fun hf => ?_)
    obtain ⟨hne, hf⟩ := chk_some hf
    refine J.idiv (pc := 126) C dX9_stepNozzle_126 (of_decide_eq_true hne) ?_
    refine J.i2l (pc := 127) C dX9_stepNozzle_127 ?_
    refine J.nmJ hf (fun x7_5 hf => ?_)
    refine J.lstore (pc := 128) C (loc' := [(7, .long x7_5), (0, .ref (Xad X k)), (2, .int x2)]) dX9_stepNozzle_128 (by decide) rfl ?_
    refine J.aload_n (pc := 130) C dX9_stepNozzle_130 rfl 1 rfl ?_
    refine J.getR (pc := 131) C kcX9 hk 0 rfl tw_755 rfl dX9_stepNozzle_131 ?_
    refine J.iload_n (pc := 134) C dX9_stepNozzle_134 rfl 2 rfl ?_
    refine J.bipush (pc := 135) C (v := 9) dX9_stepNozzle_135 (by decide) ?_
    refine J.iadd (pc := 137) C dX9_stepNozzle_137 ?_
    refine J.aload_n (pc := 138) C dX9_stepNozzle_138 rfl 1 rfl ?_
    refine J.getR (pc := 139) C kcX9 hk 0 rfl tw_755 rfl dX9_stepNozzle_139 ?_
    refine J.iload_n (pc := 142) C dX9_stepNozzle_142 rfl 2 rfl ?_
    refine J.iconst (pc := 143) C (v := 1) dX9_stepNozzle_143 (by decide) ?_
    refine J.iadd (pc := 144) C dX9_stepNozzle_144 ?_
    refine J.iald (pc := 145) C (ok_9_0 hcl hk) hf dX9_stepNozzle_145 (fun hf => ?_)
    refine J.i2l (pc := 146) C dX9_stepNozzle_146 ?_
    refine J.lload (pc := 147) C dX9_stepNozzle_147 0 rfl ?_
    refine J.lmul (pc := 149) C dX9_stepNozzle_149 ?_
    refine J.lload (pc := 150) C dX9_stepNozzle_150 0 rfl ?_
    refine J.lmul (pc := 152) C dX9_stepNozzle_152 ?_
    refine J.ldc2 (pc := 153) C (v := 1000000) dX9_stepNozzle_153 tw_908 ?_
    refine J.ldiv (pc := 156) C dX9_stepNozzle_156 (by decide) ?_
    refine J.l2i (pc := 157) C dX9_stepNozzle_157 ?_
    refine J.iastM (pc := 158) C (ok_9_0 hcl hk) hf dX9_stepNozzle_158 (fun σ_6 hf => ?_)
    refine J.aload_n (pc := 159) C dX9_stepNozzle_159 rfl 1 rfl ?_
    refine J.getR (pc := 160) C kcX9 hk 0 rfl tw_755 rfl dX9_stepNozzle_160 ?_
    refine J.iload_n (pc := 163) C dX9_stepNozzle_163 rfl 2 rfl ?_
    refine J.bipush (pc := 164) C (v := 10) dX9_stepNozzle_164 (by decide) ?_
    refine J.iadd (pc := 166) C dX9_stepNozzle_166 ?_
    refine J.aload_n (pc := 167) C dX9_stepNozzle_167 rfl 1 rfl ?_
    refine J.getR (pc := 168) C kcX9 hk 0 rfl tw_755 rfl dX9_stepNozzle_168 ?_
    refine J.iload_n (pc := 171) C dX9_stepNozzle_171 rfl 2 rfl ?_
    refine J.bipush (pc := 172) C (v := 9) dX9_stepNozzle_172 (by decide) ?_
    refine J.iadd (pc := 174) C dX9_stepNozzle_174 ?_
    refine J.iald (pc := 175) C (ok_9_0 hcl hk) hf dX9_stepNozzle_175 (fun hf => ?_)
    refine J.aload_n (pc := 176) C dX9_stepNozzle_176 rfl 1 rfl ?_
    refine J.getR (pc := 177) C kcX9 hk 0 rfl tw_755 rfl dX9_stepNozzle_177 ?_
    refine J.sipush (pc := 180) C (v := 934) dX9_stepNozzle_180 (by decide) ?_
    refine J.iald (pc := 183) C (ok_9_0 hcl hk) hf dX9_stepNozzle_183 (fun hf => ?_)
    refine J.sipush (pc := 184) C (v := 1024) dX9_stepNozzle_184 (by decide) ?_
    refine J.idiv (pc := 187) C dX9_stepNozzle_187 (by decide) ?_
    refine J.imul (pc := 188) C dX9_stepNozzle_188 ?_
    refine J.aload_n (pc := 189) C dX9_stepNozzle_189 rfl 1 rfl ?_
    refine J.getR (pc := 190) C kcX9 hk 0 rfl tw_755 rfl dX9_stepNozzle_190 ?_
    refine J.iload_n (pc := 193) C dX9_stepNozzle_193 rfl 2 rfl ?_
    refine J.iconst (pc := 194) C (v := 5) dX9_stepNozzle_194 (by decide) ?_
    refine J.iadd (pc := 195) C dX9_stepNozzle_195 ?_
    refine J.iald (pc := 196) C (ok_9_0 hcl hk) hf dX9_stepNozzle_196 (fun hf => ?_)
    refine J.imul (pc := 197) C dX9_stepNozzle_197 ?_
    refine J.ldc (pc := 198) C (v := 100000) dX9_stepNozzle_198 tw_831 ?_
    refine J.idiv (pc := 200) C dX9_stepNozzle_200 (by decide) ?_
    refine J.iastM (pc := 201) C (ok_9_0 hcl hk) hf dX9_stepNozzle_201 (fun σ_7 hf => ?_)
    refine J.aload_n (pc := 202) C dX9_stepNozzle_202 rfl 1 rfl ?_
    refine J.getR (pc := 203) C kcX9 hk 0 rfl tw_755 rfl dX9_stepNozzle_203 ?_
    refine J.iload_n (pc := 206) C dX9_stepNozzle_206 rfl 2 rfl ?_
    refine J.bipush (pc := 207) C (v := 11) dX9_stepNozzle_207 (by decide) ?_
    refine J.iadd (pc := 209) C dX9_stepNozzle_209 ?_
    refine J.aload_n (pc := 210) C dX9_stepNozzle_210 rfl 1 rfl ?_
    refine J.getR (pc := 211) C kcX9 hk 0 rfl tw_755 rfl dX9_stepNozzle_211 ?_
    refine J.iload_n (pc := 214) C dX9_stepNozzle_214 rfl 2 rfl ?_
    refine J.bipush (pc := 215) C (v := 9) dX9_stepNozzle_215 (by decide) ?_
    refine J.iadd (pc := 217) C dX9_stepNozzle_217 ?_
    refine J.iald (pc := 218) C (ok_9_0 hcl hk) hf dX9_stepNozzle_218 (fun hf => ?_)
    refine J.aload_n (pc := 219) C dX9_stepNozzle_219 rfl 1 rfl ?_
    refine J.getR (pc := 220) C kcX9 hk 0 rfl tw_755 rfl dX9_stepNozzle_220 ?_
    refine J.iload_n (pc := 223) C dX9_stepNozzle_223 rfl 2 rfl ?_
    refine J.bipush (pc := 224) C (v := 11) dX9_stepNozzle_224 (by decide) ?_
    refine J.iadd (pc := 226) C dX9_stepNozzle_226 ?_
    refine J.iald (pc := 227) C (ok_9_0 hcl hk) hf dX9_stepNozzle_227 (fun hf => ?_)
    refine J.icmp_le (pc := 228) C (tgt := 243) dX9_stepNozzle_228 (by decide) hf (fun hf => ?_) (fun hf => ?_)
    · refine J.aload_n (pc := 243) C dX9_stepNozzle_243 rfl 1 rfl ?_
      refine J.getR (pc := 244) C kcX9 hk 0 rfl tw_755 rfl dX9_stepNozzle_244 ?_
      refine J.iload_n (pc := 247) C dX9_stepNozzle_247 rfl 2 rfl ?_
      refine J.bipush (pc := 248) C (v := 11) dX9_stepNozzle_248 (by decide) ?_
      refine J.iadd (pc := 250) C dX9_stepNozzle_250 ?_
      refine J.iald (pc := 251) C (ok_9_0 hcl hk) hf dX9_stepNozzle_251 (fun hf => ?_)
      exact J.sub (loc' := [(0, .ref (Xad X k)), (2, .int x2)]) [1, 2] rfl (L252 σ_7 x2 (σ_7 (ptr k 0) (ix (x2 + 11))) (x2 + 11) _ hf hp)
    · refine J.aload_n (pc := 231) C dX9_stepNozzle_231 rfl 1 rfl ?_
      refine J.getR (pc := 232) C kcX9 hk 0 rfl tw_755 rfl dX9_stepNozzle_232 ?_
      refine J.iload_n (pc := 235) C dX9_stepNozzle_235 rfl 2 rfl ?_
      refine J.bipush (pc := 236) C (v := 9) dX9_stepNozzle_236 (by decide) ?_
      refine J.iadd (pc := 238) C dX9_stepNozzle_238 ?_
      refine J.iald (pc := 239) C (ok_9_0 hcl hk) hf dX9_stepNozzle_239 (fun hf => ?_)
      refine J.goto (pc := 240) C (tgt := 252) dX9_stepNozzle_240 (by decide) ?_
      exact J.sub (loc' := [(0, .ref (Xad X k)), (2, .int x2)]) [1, 2] rfl (L252 σ_7 x2 (σ_7 (ptr k 0) (ix (x2 + 9))) (x2 + 11) _ hf hp)
  have L65 : ∀ (σ : Mem) (x2 : Int32) (x3 : Int32) (x4 : Int64) (y0 : Int32) (t : (Int32 × Mem)), f_X9_stepNozzle_L65 σ k x2 x3 x4 y0 = some t → t = t0 → J X 65 [(0, .ref (Xad X k)), (2, .int x2), (3, .int x3), (4, .long x4)] [.int y0] σ := by
    intro σ x2 x3 x4 y0 t hf hp
    unfold f_X9_stepNozzle_L65 at hf
    refine J.istore (pc := 65) C (loc' := [(6, .int y0), (0, .ref (Xad X k)), (2, .int x2), (3, .int x3), (4, .long x4)]) dX9_stepNozzle_65 (by decide) rfl ?_
    refine J.aload_n (pc := 67) C dX9_stepNozzle_67 rfl 1 rfl ?_
    refine J.getR (pc := 68) C kcX9 hk 0 rfl tw_755 rfl dX9_stepNozzle_68 ?_
    refine J.iload_n (pc := 71) C dX9_stepNozzle_71 rfl 2 rfl ?_
    refine J.bipush (pc := 72) C (v := 8) dX9_stepNozzle_72 (by decide) ?_
    refine J.iadd (pc := 74) C dX9_stepNozzle_74 ?_
    refine J.iload (pc := 75) C dX9_stepNozzle_75 0 rfl ?_
    refine J.if_eq (pc := 77) C (tgt := 85) dX9_stepNozzle_77 (by decide) hf (fun hf => ?_) (fun hf => ?_)
    · refine J.lload (pc := 85) C dX9_stepNozzle_85 4 rfl ?_
      refine J.aload_n (pc := 87) C dX9_stepNozzle_87 rfl 1 rfl ?_
      refine J.getR (pc := 88) C kcX9 hk 0 rfl tw_755 rfl dX9_stepNozzle_88 ?_
      refine J.iload_n (pc := 91) C dX9_stepNozzle_91 rfl 3 rfl ?_
      refine J.iconst (pc := 92) C (v := 2) dX9_stepNozzle_92 (by decide) ?_
      refine J.iadd (pc := 93) C dX9_stepNozzle_93 ?_
      refine J.iald (pc := 94) C (ok_9_0 hcl hk) hf dX9_stepNozzle_94 (fun hf => ?_)
      refine J.i2l (pc := 95) C dX9_stepNozzle_95 ?_
      refine J.lmul (pc := 96) C dX9_stepNozzle_96 ?_
      refine J.aload_n (pc := 97) C dX9_stepNozzle_97 rfl 1 rfl ?_
      refine J.getR (pc := 98) C kcX9 hk 0 rfl tw_755 rfl dX9_stepNozzle_98 ?_
      refine J.iload_n (pc := 101) C dX9_stepNozzle_101 rfl 3 rfl ?_
      refine J.iconst (pc := 102) C (v := 3) dX9_stepNozzle_102 (by decide) ?_
      refine J.iadd (pc := 103) C dX9_stepNozzle_103 ?_
      refine J.iald (pc := 104) C (ok_9_0 hcl hk) hf dX9_stepNozzle_104 (fun hf => ?_)
      refine J.i2l (pc := 105) C dX9_stepNozzle_105 ?_
      obtain ⟨hne, hf⟩ := chk_some hf
      refine J.ldiv (pc := 106) C dX9_stepNozzle_106 (of_decide_eq_true hne) ?_
      exact J.sub (loc' := [(0, .ref (Xad X k)), (2, .int x2)]) [1, 2] rfl (L107 σ x2 ((x4 * ((σ (ptr k 0) (ix (x3 + 2))).toInt64)) / ((σ (ptr k 0) (ix (x3 + 3))).toInt64)) (x2 + 8) _ hf hp)
    · refine J.lload (pc := 80) C dX9_stepNozzle_80 4 rfl ?_
      refine J.goto (pc := 82) C (tgt := 107) dX9_stepNozzle_82 (by decide) ?_
      exact J.sub (loc' := [(0, .ref (Xad X k)), (2, .int x2)]) [1, 2] rfl (L107 σ x2 x4 (x2 + 8) _ hf hp)
  have hp : t0 = t0 := rfl
  show J X 0 [(0, .ref (Xad X k)), (1, .int x1)] [] σ
  unfold f_X9_stepNozzle at hf
  refine J.bipush (pc := 0) C (v := 12) dX9_stepNozzle_0 (by decide) ?_
  refine J.iload_n (pc := 2) C dX9_stepNozzle_2 rfl 1 rfl ?_
  refine J.imul (pc := 3) C dX9_stepNozzle_3 ?_
  refine J.nmI hf (fun x2_1 hf => ?_)
  refine J.istore_n (pc := 4) C (loc' := [(2, .int x2_1), (0, .ref (Xad X k)), (1, .int x1)]) dX9_stepNozzle_4 rfl (by decide) rfl ?_
  refine J.sipush (pc := 5) C (v := 912) dX9_stepNozzle_5 (by decide) ?_
  refine J.iconst (pc := 8) C (v := 5) dX9_stepNozzle_8 (by decide) ?_
  refine J.aload_n (pc := 9) C dX9_stepNozzle_9 rfl 1 rfl ?_
  refine J.getR (pc := 10) C kcX9 hk 0 rfl tw_755 rfl dX9_stepNozzle_10 ?_
  refine J.iload_n (pc := 13) C dX9_stepNozzle_13 rfl 0 rfl ?_
  refine J.iconst (pc := 14) C (v := 4) dX9_stepNozzle_14 (by decide) ?_
  refine J.iadd (pc := 15) C dX9_stepNozzle_15 ?_
  refine J.iald (pc := 16) C (ok_9_0 hcl hk) hf dX9_stepNozzle_16 (fun hf => ?_)
  refine J.imul (pc := 17) C dX9_stepNozzle_17 ?_
  refine J.iadd (pc := 18) C dX9_stepNozzle_18 ?_
  refine J.nmI hf (fun x3_2 hf => ?_)
  refine J.istore_n (pc := 19) C (loc' := [(3, .int x3_2), (2, .int x2_1), (0, .ref (Xad X k)), (1, .int x1)]) dX9_stepNozzle_19 rfl (by decide) rfl ?_
  refine J.aload_n (pc := 20) C dX9_stepNozzle_20 rfl 2 rfl ?_
  refine J.getR (pc := 21) C kcX9 hk 0 rfl tw_755 rfl dX9_stepNozzle_21 ?_
  refine J.iload_n (pc := 24) C dX9_stepNozzle_24 rfl 1 rfl ?_
  refine J.bipush (pc := 25) C (v := 7) dX9_stepNozzle_25 (by decide) ?_
  refine J.iadd (pc := 27) C dX9_stepNozzle_27 ?_
  refine J.iald (pc := 28) C (ok_9_0 hcl hk) hf dX9_stepNozzle_28 (fun hf => ?_)
  refine J.aload_n (pc := 29) C dX9_stepNozzle_29 rfl 2 rfl ?_
  refine J.getR (pc := 30) C kcX9 hk 0 rfl tw_755 rfl dX9_stepNozzle_30 ?_
  refine J.iload_n (pc := 33) C dX9_stepNozzle_33 rfl 1 rfl ?_
  refine J.iconst (pc := 34) C (v := 0) dX9_stepNozzle_34 (by decide) ?_
  refine J.iadd (pc := 35) C dX9_stepNozzle_35 ?_
  refine J.iald (pc := 36) C (ok_9_0 hcl hk) hf dX9_stepNozzle_36 (fun hf => ?_)
  refine J.imul (pc := 37) C dX9_stepNozzle_37 ?_
  refine J.i2l (pc := 38) C dX9_stepNozzle_38 ?_
  refine J.nmJ hf (fun x4_3 hf => ?_)
  refine J.lstore (pc := 39) C (loc' := [(4, .long x4_3), (3, .int x3_2), (2, .int x2_1), (0, .ref (Xad X k)), (1, .int x1)]) dX9_stepNozzle_39 (by decide) rfl ?_
  refine J.aload_n (pc := 41) C dX9_stepNozzle_41 rfl 3 rfl ?_
  refine J.getR (pc := 42) C kcX9 hk 0 rfl tw_755 rfl dX9_stepNozzle_42 ?_
  refine J.iload_n (pc := 45) C dX9_stepNozzle_45 rfl 1 rfl ?_
  refine J.iconst (pc := 46) C (v := 3) dX9_stepNozzle_46 (by decide) ?_
  refine J.iadd (pc := 47) C dX9_stepNozzle_47 ?_
  refine J.iald (pc := 48) C (ok_9_0 hcl hk) hf dX9_stepNozzle_48 (fun hf => ?_)
  refine J.aload_n (pc := 49) C dX9_stepNozzle_49 rfl 3 rfl ?_
  refine J.getR (pc := 50) C kcX9 hk 0 rfl tw_755 rfl dX9_stepNozzle_50 ?_
  refine J.iload_n (pc := 53) C dX9_stepNozzle_53 rfl 1 rfl ?_
  refine J.iconst (pc := 54) C (v := 2) dX9_stepNozzle_54 (by decide) ?_
  refine J.iadd (pc := 55) C dX9_stepNozzle_55 ?_
  refine J.iald (pc := 56) C (ok_9_0 hcl hk) hf dX9_stepNozzle_56 (fun hf => ?_)
  refine J.icmp_gt (pc := 57) C (tgt := 64) dX9_stepNozzle_57 (by decide) hf (fun hf => ?_) (fun hf => ?_)
  · refine J.iconst (pc := 64) C (v := 0) dX9_stepNozzle_64 (by decide) ?_
    exact J.sub (loc' := [(0, .ref (Xad X k)), (2, .int x2_1), (3, .int x3_2), (4, .long x4_3)]) [3, 2, 1, 0] rfl (L65 σ x2_1 x3_2 x4_3 0 _ hf hp)
  · refine J.iconst (pc := 60) C (v := 1) dX9_stepNozzle_60 (by decide) ?_
    refine J.goto (pc := 61) C (tgt := 65) dX9_stepNozzle_61 (by decide) ?_
    exact J.sub (loc' := [(0, .ref (Xad X k)), (2, .int x2_1), (3, .int x3_2), (4, .long x4_3)]) [3, 2, 1, 0] rfl (L65 σ x2_1 x3_2 x4_3 1 _ hf hp)
set_option maxHeartbeats 4000000 in
set_option maxRecDepth 100000 in
theorem m_X9_makeTick {l : Launch} {n : Nat} {σ : Mem} {k : Nat} {t0 : Mem} (hf : f_X9_makeTick n σ k = some t0) : Ct l yX9_makeTick cX9_makeTick 3 none 2 46 (fun ks => Ok ks k 9) (fun ad => [.ref (ad k)]) σ (fun _ => none) t0 := by
  refine Ct.of (plainFor_of_name (by decide)) (fun _ => Nat.le_of_ble_eq_true rfl) ?_
  intro X C _ hk hcl hR
  have C : Cx X RX9 cX9_makeTick 3 none 2 46 := C
  have L233 : ∀ (σ : Mem) (y0 : Int32) (y1 : Int32) (y2 : Int32) (t : Mem), f_X9_makeTick_L233 n σ k y0 y1 y2 = some t → t = t0 → J X 233 [(0, .ref (Xad X k))] [.int y0, .int y1, .int y2, .ref (Xad X (ptr k 0))] σ := by
    intro σ y0 y1 y2 t hf hp
    unfold f_X9_makeTick_L233 at hf
    refine J.iadd (pc := 233) C dX9_makeTick_233 ?_
    refine J.iastM (pc := 234) C (ok_9_0 hcl hk) hf dX9_makeTick_234 (fun σ_4 hf => ?_)
    refine J.aload_n (pc := 235) C dX9_makeTick_235 rfl 0 rfl ?_
    refine J.getR (pc := 236) C kcX9 hk 0 rfl tw_755 rfl dX9_makeTick_236 ?_
    refine J.sipush (pc := 239) C (v := 937) dX9_makeTick_239 (by decide) ?_
    refine J.dup2 (pc := 242) C dX9_makeTick_242 rfl rfl ?_
    refine J.iald (pc := 243) C (ok_9_0 hcl hk) hf dX9_makeTick_243 (fun hf => ?_)
    refine J.iconst (pc := 244) C (v := 1) dX9_makeTick_244 (by decide) ?_
    refine J.iadd (pc := 245) C dX9_makeTick_245 ?_
    refine J.iastM (pc := 246) C (ok_9_0 hcl hk) hf dX9_makeTick_246 (fun σ_5 hf => ?_)
    exact J.vretM (pc := 247) C hR ((Option.some.inj hf).trans hp) dX9_makeTick_247
  have L203 : ∀ (σ : Mem) (x2 : Int32) (t : (Mem ⊕ (Mem × Int32 × Int32))), f_X9_makeTick_L203 n σ k x2 = some t → ((∀ r1, t = .inl r1 → r1 = t0) ∧ (∀ s1, t = .inr s1 → J X 179 [(0, .ref (Xad X k)), (1, .int (s1.2.1)), (2, .int (s1.2.2))] [] s1.1)) → J X 203 [(0, .ref (Xad X k)), (2, .int x2)] [] σ := by
    intro σ x2 t hf hp
    unfold f_X9_makeTick_L203 at hf
    refine J.iconst (pc := 203) C (v := 1) dX9_makeTick_203 (by decide) ?_
    refine J.goto (pc := 204) C (tgt := 208) dX9_makeTick_204 (by decide) ?_
    refine J.istore_n (pc := 208) C (loc' := [(1, .int 1), (0, .ref (Xad X k)), (2, .int x2)]) dX9_makeTick_208 rfl (by decide) rfl ?_
    obtain ⟨x2_9, hx_x2_9, hf⟩ := nm_some hf
    refine J.iinc (pc := 209) C (v := x2_9) (loc' := [(2, .int x2_9), (1, .int 1), (0, .ref (Xad X k))]) dX9_makeTick_209 (k := 2) rfl (by rw [hx_x2_9]; rfl) (by decide) rfl ?_
    refine J.goto (pc := 212) C (tgt := 179) dX9_makeTick_212 (by decide) ?_
    exact J.sub (loc' := [(0, .ref (Xad X k)), (1, .int 1), (2, .int x2_9)]) [2, 1, 0] rfl (hp.2 _ (Option.some.inj hf).symm)
  have L179 : ∀ (σ : Mem) (x1 : Int32) (x2 : Int32) (t : Mem), f_X9_makeTick_L179 n σ k x1 x2 = some t → t = t0 → J X 179 [(0, .ref (Xad X k)), (1, .int x1), (2, .int x2)] [] σ := by
    intro σ x1 x2 t hf hp
    unfold f_X9_makeTick_L179 at hf
    refine J_iter (JJ := fun (s : Mem × Int32 × Int32) => J X 179 [(0, .ref (Xad X k)), (1, .int (s.2.1)), (2, .int (s.2.2))] [] s.1) (Ps := fun t => t = t0) ?_ n (σ, x1, x2) t hf hp
    clear hf hp
    intro s t hf hp hq
    obtain ⟨σ, x1, x2⟩ := s
    have hp := And.intro hp hq
    clear hq
    have hf : f_X9_makeTick_B179 n σ k x1 x2 = some t := hf
    show J X 179 [(0, .ref (Xad X k)), (1, .int x1), (2, .int x2)] [] σ
    unfold f_X9_makeTick_B179 at hf
    refine J.iload_n (pc := 179) C dX9_makeTick_179 rfl 2 rfl ?_
    refine J.aload_n (pc := 180) C dX9_makeTick_180 rfl 0 rfl ?_
    refine J.getR (pc := 181) C kcX9 hk 0 rfl tw_755 rfl dX9_makeTick_181 ?_
    refine J.sipush (pc := 184) C (v := 938) dX9_makeTick_184 (by decide) ?_
    refine J.iald (pc := 187) C (ok_9_0 hcl hk) hf dX9_makeTick_187 (fun hf => ?_)
    refine J.icmp_ge (pc := 188) C (tgt := 215) dX9_makeTick_188 (by decide) hf (fun hf => ?_) (fun hf => ?_)
    · refine J.aload_n (pc := 215) C dX9_makeTick_215 rfl 0 rfl ?_
      refine J.getR (pc := 216) C kcX9 hk 0 rfl tw_755 rfl dX9_makeTick_216 ?_
      refine J.sipush (pc := 219) C (v := 939) dX9_makeTick_219 (by decide) ?_
      refine J.dup2 (pc := 222) C dX9_makeTick_222 rfl rfl ?_
      refine J.iald (pc := 223) C (ok_9_0 hcl hk) hf dX9_makeTick_223 (fun hf => ?_)
      refine J.iload_n (pc := 224) C dX9_makeTick_224 rfl 1 rfl ?_
      refine J.if_eq (pc := 225) C (tgt := 232) dX9_makeTick_225 (by decide) hf (fun hf => ?_) (fun hf => ?_)
      · refine J.iconst (pc := 232) C (v := 0) dX9_makeTick_232 (by decide) ?_
        obtain ⟨t0, hf, he⟩ := exi_some hf
        have hp := hp.1 _ he
        exact J.sub (loc' := [(0, .ref (Xad X k))]) [0] rfl (L233 σ 0 (σ (ptr k 0) (ix 939)) 939 _ hf hp)
      · refine J.iconst (pc := 228) C (v := 1) dX9_makeTick_228 (by decide) ?_
        refine J.goto (pc := 229) C (tgt := 233) dX9_makeTick_229 (by decide) ?_
        obtain ⟨t0, hf, he⟩ := exi_some hf
        have hp := hp.1 _ he
        exact J.sub (loc' := [(0, .ref (Xad X k))]) [0] rfl (L233 σ 1 (σ (ptr k 0) (ix 939)) 939 _ hf hp)
    · refine J.aload_n (pc := 191) C dX9_makeTick_191 rfl 0 rfl ?_
      refine J.iload_n (pc := 192) C dX9_makeTick_192 rfl 2 rfl ?_
      obtain ⟨r_7, σ_8, h_6, hf⟩ := bnd2_some hf
      refine J.callV (pc := 193) C (m_X9_stepNozzle h_6) hk wyX9_stepNozzle tvX9_stepNozzle_i tvX9_stepNozzle_s tw_904 kcX9 rfl hk [.int x2] [] rfl rfl (Nat.le_of_ble_eq_true rfl) (Nat.le_of_ble_eq_true rfl) (Nat.le_of_ble_eq_true rfl) (stk' := [.int r_7]) rfl dX9_makeTick_193 rfl ?_
      refine J.if_ne (pc := 196) C (tgt := 203) dX9_makeTick_196 (by decide) hf (fun hf => ?_) (fun hf => ?_)
      · exact J.sub (loc' := [(0, .ref (Xad X k)), (2, .int x2)]) [0, 2] rfl (L203 σ_8 x2 _ hf hp)
      · refine J.iload_n (pc := 199) C dX9_makeTick_199 rfl 1 rfl ?_
        refine J.if_eq (pc := 200) C (tgt := 207) dX9_makeTick_200 (by decide) hf (fun hf => ?_) (fun hf => ?_)
        · refine J.iconst (pc := 207) C (v := 0) dX9_makeTick_207 (by decide) ?_
          refine J.istore_n (pc := 208) C (loc' := [(1, .int 0), (0, .ref (Xad X k)), (2, .int x2)]) dX9_makeTick_208 rfl (by decide) rfl ?_
          obtain ⟨x2_10, hx_x2_10, hf⟩ := nm_some hf
          refine J.iinc (pc := 209) C (v := x2_10) (loc' := [(2, .int x2_10), (1, .int 0), (0, .ref (Xad X k))]) dX9_makeTick_209 (k := 2) rfl (by rw [hx_x2_10]; rfl) (by decide) rfl ?_
          refine J.goto (pc := 212) C (tgt := 179) dX9_makeTick_212 (by decide) ?_
          exact J.sub (loc' := [(0, .ref (Xad X k)), (1, .int 0), (2, .int x2_10)]) [2, 1, 0] rfl (hp.2 _ (Option.some.inj hf).symm)
        · exact J.sub (loc' := [(0, .ref (Xad X k)), (2, .int x2)]) [0, 2] rfl (L203 σ_8 x2 _ hf hp)
  have L159 : ∀ (σ : Mem) (x1 : Int32) (t : Mem), f_X9_makeTick_L159 n σ k x1 = some t → t = t0 → J X 159 [(0, .ref (Xad X k)), (1, .int x1)] [] σ := by
    intro σ x1 t hf hp
    unfold f_X9_makeTick_L159 at hf
    refine J_iter (JJ := fun (s : Mem × Int32) => J X 159 [(0, .ref (Xad X k)), (1, .int (s.2))] [] s.1) (Ps := fun t => t = t0) ?_ n (σ, x1) t hf hp
    clear hf hp
    intro s t hf hp hq
    obtain ⟨σ, x1⟩ := s
    have hp := And.intro hp hq
    clear hq
    have hf : f_X9_makeTick_B159 n σ k x1 = some t := hf
    show J X 159 [(0, .ref (Xad X k)), (1, .int x1)] [] σ
    unfold f_X9_makeTick_B159 at hf
    refine J.iload_n (pc := 159) C dX9_makeTick_159 rfl 1 rfl ?_
    refine J.iconst (pc := 160) C (v := 3) dX9_makeTick_160 (by decide) ?_
    refine J.icmp_ge (pc := 161) C (tgt := 175) dX9_makeTick_161 (by decide) hf (fun hf => ?_) (fun hf => ?_)
    · refine J.iconst (pc := 175) C (v := 0) dX9_makeTick_175 (by decide) ?_
      refine J.istore_n (pc := 176) C (loc' := [(1, .int 0), (0, .ref (Xad X k))]) dX9_makeTick_176 rfl (by decide) rfl ?_
      refine J.iconst (pc := 177) C (v := 0) dX9_makeTick_177 (by decide) ?_
      refine J.istore_n (pc := 178) C (loc' := [(2, .int 0), (1, .int 0), (0, .ref (Xad X k))]) dX9_makeTick_178 rfl (by decide) rfl ?_
      obtain ⟨t0, hf, he⟩ := exi_some hf
      have hp := hp.1 _ he
      exact J.sub (loc' := [(0, .ref (Xad X k)), (1, .int 0), (2, .int 0)]) [2, 1, 0] rfl (L179 σ 0 0 _ hf hp)
    · refine J.aload_n (pc := 164) C dX9_makeTick_164 rfl 0 rfl ?_
      refine J.iload_n (pc := 165) C dX9_makeTick_165 rfl 1 rfl ?_
      obtain ⟨σ_13, h_11, hf⟩ := bnd_some hf
      refine J.callV (pc := 166) C (m_X9_stepPump h_11) hk wyX9_stepPump tvX9_stepPump_i tvX9_stepPump_s tw_900 kcX9 rfl hk [.int x1] [] rfl rfl (Nat.le_of_ble_eq_true rfl) (Nat.le_of_ble_eq_true rfl) (Nat.le_of_ble_eq_true rfl) (stk' := []) rfl dX9_makeTick_166 rfl ?_
      obtain ⟨x1_14, hx_x1_14, hf⟩ := nm_some hf
      refine J.iinc (pc := 169) C (v := x1_14) (loc' := [(1, .int x1_14), (0, .ref (Xad X k))]) dX9_makeTick_169 (k := 1) rfl (by rw [hx_x1_14]; rfl) (by decide) rfl ?_
      refine J.goto (pc := 172) C (tgt := 159) dX9_makeTick_172 (by decide) ?_
      exact J.sub (loc' := [(0, .ref (Xad X k)), (1, .int x1_14)]) [1, 0] rfl (hp.2 _ (Option.some.inj hf).symm)
  have L59 : ∀ (σ : Mem) (x1 : Int32) (t : Mem), f_X9_makeTick_L59 n σ k x1 = some t → t = t0 → J X 59 [(0, .ref (Xad X k)), (1, .int x1)] [] σ := by
    intro σ x1 t hf hp
    unfold f_X9_makeTick_L59 at hf
    refine J_iter (JJ := fun (s : Mem × Int32) => J X 59 [(0, .ref (Xad X k)), (1, .int (s.2))] [] s.1) (Ps := fun t => t = t0) ?_ n (σ, x1) t hf hp
    clear hf hp
    intro s t hf hp hq
    obtain ⟨σ, x1⟩ := s
    have hp := And.intro hp hq
    clear hq
    have hf : f_X9_makeTick_B59 n σ k x1 = some t := hf
    show J X 59 [(0, .ref (Xad X k)), (1, .int x1)] [] σ
    unfold f_X9_makeTick_B59 at hf
    refine J.iload_n (pc := 59) C dX9_makeTick_59 rfl 1 rfl ?_
    refine J.aload_n (pc := 60) C dX9_makeTick_60 rfl 0 rfl ?_
    refine J.getR (pc := 61) C kcX9 hk 0 rfl tw_755 rfl dX9_makeTick_61 ?_
    refine J.sipush (pc := 64) C (v := 938) dX9_makeTick_64 (by decide) ?_
    refine J.iald (pc := 67) C (ok_9_0 hcl hk) hf dX9_makeTick_67 (fun hf => ?_)
    refine J.icmp_ge (pc := 68) C (tgt := 157) dX9_makeTick_68 (by decide) hf (fun hf => ?_) (fun hf => ?_)
    · refine J.iconst (pc := 157) C (v := 0) dX9_makeTick_157 (by decide) ?_
      refine J.istore_n (pc := 158) C (loc' := [(1, .int 0), (0, .ref (Xad X k))]) dX9_makeTick_158 rfl (by decide) rfl ?_
      obtain ⟨t0, hf, he⟩ := exi_some hf
      have hp := hp.1 _ he
      exact J.sub (loc' := [(0, .ref (Xad X k)), (1, .int 0)]) [1, 0] rfl (L159 σ 0 _ hf hp)
    · refine J.aload_n (pc := 71) C dX9_makeTick_71 rfl 0 rfl ?_
      refine J.getR (pc := 72) C kcX9 hk 0 rfl tw_755 rfl dX9_makeTick_72 ?_
      refine J.sipush (pc := 75) C (v := 144) dX9_makeTick_75 (by decide) ?_
      refine J.bipush (pc := 78) C (v := 64) dX9_makeTick_78 (by decide) ?_
      refine J.iload_n (pc := 80) C dX9_makeTick_80 rfl 1 rfl ?_
      refine J.imul (pc := 81) C dX9_makeTick_81 ?_
      refine J.iadd (pc := 82) C dX9_makeTick_82 ?_
      refine J.aload_n (pc := 83) C dX9_makeTick_83 rfl 0 rfl ?_
      refine J.getR (pc := 84) C kcX9 hk 0 rfl tw_755 rfl dX9_makeTick_84 ?_
      refine J.sipush (pc := 87) C (v := 937) dX9_makeTick_87 (by decide) ?_
      refine J.iald (pc := 90) C (ok_9_0 hcl hk) hf dX9_makeTick_90 (fun hf => ?_)
      refine J.bipush (pc := 91) C (v := 64) dX9_makeTick_91 (by decide) ?_
      refine J.iremM (pc := 93) C dX9_makeTick_93 (by decide) ?_
      refine J.iadd (pc := 94) C dX9_makeTick_94 ?_
      refine J.aload_n (pc := 95) C dX9_makeTick_95 rfl 0 rfl ?_
      refine J.getR (pc := 96) C kcX9 hk 0 rfl tw_755 rfl dX9_makeTick_96 ?_
      refine J.bipush (pc := 99) C (v := 12) dX9_makeTick_99 (by decide) ?_
      refine J.iload_n (pc := 101) C dX9_makeTick_101 rfl 1 rfl ?_
      refine J.imul (pc := 102) C dX9_makeTick_102 ?_
      refine J.bipush (pc := 103) C (v := 6) dX9_makeTick_103 (by decide) ?_
      refine J.iadd (pc := 105) C dX9_makeTick_105 ?_
      refine J.iald (pc := 106) C (ok_9_0 hcl hk) hf dX9_makeTick_106 (fun hf => ?_)
      refine J.iastM (pc := 107) C (ok_9_0 hcl hk) hf dX9_makeTick_107 (fun σ_15 hf => ?_)
      refine J.aload_n (pc := 108) C dX9_makeTick_108 rfl 0 rfl ?_
      refine J.getR (pc := 109) C kcX9 hk 0 rfl tw_755 rfl dX9_makeTick_109 ?_
      refine J.bipush (pc := 112) C (v := 12) dX9_makeTick_112 (by decide) ?_
      refine J.iload_n (pc := 114) C dX9_makeTick_114 rfl 1 rfl ?_
      refine J.imul (pc := 115) C dX9_makeTick_115 ?_
      refine J.bipush (pc := 116) C (v := 7) dX9_makeTick_116 (by decide) ?_
      refine J.iadd (pc := 118) C dX9_makeTick_118 ?_
      refine J.aload_n (pc := 119) C dX9_makeTick_119 rfl 0 rfl ?_
      refine J.getR (pc := 120) C kcX9 hk 0 rfl tw_755 rfl dX9_makeTick_120 ?_
      refine J.bipush (pc := 123) C (v := 12) dX9_makeTick_123 (by decide) ?_
      refine J.iload_n (pc := 125) C dX9_makeTick_125 rfl 1 rfl ?_
      refine J.imul (pc := 126) C dX9_makeTick_126 ?_
      refine J.bipush (pc := 127) C (v := 7) dX9_makeTick_127 (by decide) ?_
      refine J.iadd (pc := 129) C dX9_makeTick_129 ?_
      refine J.iald (pc := 130) C (ok_9_0 hcl hk) hf dX9_makeTick_130 (fun hf => ?_)
      refine J.aload_n (pc := 131) C dX9_makeTick_131 rfl 0 rfl ?_
      refine J.iload_n (pc := 132) C dX9_makeTick_132 rfl 1 rfl ?_
      obtain ⟨r_17, h_16, hf⟩ := bnd_some hf
      refine J.callV (pc := 133) C (m_X9_goal h_16) hk wyX9_goal tvX9_goal_i tvX9_goal_s tw_893 kcX9 rfl hk [.int x1] [.int (σ_15 (ptr k 0) (ix ((12 * x1) + 7))), .int ((12 * x1) + 7), .ref (Xad X (ptr k 0))] rfl rfl (Nat.le_of_ble_eq_true rfl) (Nat.le_of_ble_eq_true rfl) (Nat.le_of_ble_eq_true rfl) (stk' := [.int r_17, .int (σ_15 (ptr k 0) (ix ((12 * x1) + 7))), .int ((12 * x1) + 7), .ref (Xad X (ptr k 0))]) rfl dX9_makeTick_133 rfl ?_
      refine J.aload_n (pc := 136) C dX9_makeTick_136 rfl 0 rfl ?_
      refine J.getR (pc := 137) C kcX9 hk 0 rfl tw_755 rfl dX9_makeTick_137 ?_
      refine J.bipush (pc := 140) C (v := 12) dX9_makeTick_140 (by decide) ?_
      refine J.iload_n (pc := 142) C dX9_makeTick_142 rfl 1 rfl ?_
      refine J.imul (pc := 143) C dX9_makeTick_143 ?_
      refine J.iconst (pc := 144) C (v := 3) dX9_makeTick_144 (by decide) ?_
      refine J.iadd (pc := 145) C dX9_makeTick_145 ?_
      refine J.iald (pc := 146) C (ok_9_0 hcl hk) hf dX9_makeTick_146 (fun hf => ?_)
      obtain ⟨r_19, h_18, hf⟩ := bnd_some hf
      refine J.callS (pc := 147) C (m_X9_toward h_18) trivial wyX9_toward tsX9_toward tw_897 [.int (σ_15 (ptr k 0) (ix ((12 * x1) + 7))), .int r_17, .int (σ_15 (ptr k 0) (ix ((12 * x1) + 3)))] [.int ((12 * x1) + 7), .ref (Xad X (ptr k 0))] rfl rfl (Nat.le_of_ble_eq_true rfl) (Nat.le_of_ble_eq_true rfl) (Nat.le_of_ble_eq_true rfl) (stk' := [.int r_19, .int ((12 * x1) + 7), .ref (Xad X (ptr k 0))]) rfl dX9_makeTick_147 rfl ?_
      refine J.iastM (pc := 150) C (ok_9_0 hcl hk) hf dX9_makeTick_150 (fun σ_20 hf => ?_)
      obtain ⟨x1_21, hx_x1_21, hf⟩ := nm_some hf
      refine J.iinc (pc := 151) C (v := x1_21) (loc' := [(1, .int x1_21), (0, .ref (Xad X k))]) dX9_makeTick_151 (k := 1) rfl (by rw [hx_x1_21]; rfl) (by decide) rfl ?_
      refine J.goto (pc := 154) C (tgt := 59) dX9_makeTick_154 (by decide) ?_
      exact J.sub (loc' := [(0, .ref (Xad X k)), (1, .int x1_21)]) [1, 0] rfl (hp.2 _ (Option.some.inj hf).symm)
  have L2 : ∀ (σ : Mem) (x1 : Int32) (t : Mem), f_X9_makeTick_L2 n σ k x1 = some t → t = t0 → J X 2 [(0, .ref (Xad X k)), (1, .int x1)] [] σ := by
    intro σ x1 t hf hp
    unfold f_X9_makeTick_L2 at hf
    refine J_iter (JJ := fun (s : Mem × Int32) => J X 2 [(0, .ref (Xad X k)), (1, .int (s.2))] [] s.1) (Ps := fun t => t = t0) ?_ n (σ, x1) t hf hp
    clear hf hp
    intro s t hf hp hq
    obtain ⟨σ, x1⟩ := s
    have hp := And.intro hp hq
    clear hq
    have hf : f_X9_makeTick_B2 n σ k x1 = some t := hf
    show J X 2 [(0, .ref (Xad X k)), (1, .int x1)] [] σ
    unfold f_X9_makeTick_B2 at hf
    refine J.iload_n (pc := 2) C dX9_makeTick_2 rfl 1 rfl ?_
    refine J.aload_n (pc := 3) C dX9_makeTick_3 rfl 0 rfl ?_
    refine J.getR (pc := 4) C kcX9 hk 0 rfl tw_755 rfl dX9_makeTick_4 ?_
    refine J.sipush (pc := 7) C (v := 940) dX9_makeTick_7 (by decide) ?_
    refine J.iald (pc := 10) C (ok_9_0 hcl hk) hf dX9_makeTick_10 (fun hf => ?_)
    refine J.icmp_ge (pc := 11) C (tgt := 53) dX9_makeTick_11 (by decide) hf (fun hf => ?_) (fun hf => ?_)
    · refine J.aload_n (pc := 53) C dX9_makeTick_53 rfl 0 rfl ?_
      obtain ⟨σ_3, h_1, hf⟩ := bnd_some hf
      refine J.callV (pc := 54) C (m_X9_stepWind h_1) hk wyX9_stepWind tvX9_stepWind_i tvX9_stepWind_s tw_889 kcX9 rfl hk [] [] rfl rfl (Nat.le_of_ble_eq_true rfl) (Nat.le_of_ble_eq_true rfl) (Nat.le_of_ble_eq_true rfl) (stk' := []) rfl dX9_makeTick_54 rfl ?_
      refine J.iconst (pc := 57) C (v := 0) dX9_makeTick_57 (by decide) ?_
      refine J.istore_n (pc := 58) C (loc' := [(1, .int 0), (0, .ref (Xad X k))]) dX9_makeTick_58 rfl (by decide) rfl ?_
      obtain ⟨t0, hf, he⟩ := exi_some hf
      have hp := hp.1 _ he
      exact J.sub (loc' := [(0, .ref (Xad X k)), (1, .int 0)]) [1, 0] rfl (L59 σ_3 0 _ hf hp)
    · refine J.aload_n (pc := 14) C dX9_makeTick_14 rfl 0 rfl ?_
      refine J.iload_n (pc := 15) C dX9_makeTick_15 rfl 1 rfl ?_
      refine J.iconst (pc := 16) C (v := 0) dX9_makeTick_16 (by decide) ?_
      obtain ⟨r_23, h_22, hf⟩ := bnd_some hf
      refine J.callV (pc := 17) C (m_X9_ofCue h_22) hk wyX9_ofCue tvX9_ofCue_i tvX9_ofCue_s tw_839 kcX9 rfl hk [.int x1, .int 0] [] rfl rfl (Nat.le_of_ble_eq_true rfl) (Nat.le_of_ble_eq_true rfl) (Nat.le_of_ble_eq_true rfl) (stk' := [.int r_23]) rfl dX9_makeTick_17 rfl ?_
      refine J.aload_n (pc := 20) C dX9_makeTick_20 rfl 0 rfl ?_
      refine J.getR (pc := 21) C kcX9 hk 0 rfl tw_755 rfl dX9_makeTick_21 ?_
      refine J.sipush (pc := 24) C (v := 937) dX9_makeTick_24 (by decide) ?_
      refine J.iald (pc := 27) C (ok_9_0 hcl hk) hf dX9_makeTick_27 (fun hf => ?_)
      refine J.icmp_ne (pc := 28) C (tgt := 47) dX9_makeTick_28 (by decide) hf (fun hf => ?_) (fun hf => ?_)
      · obtain ⟨x1_24, hx_x1_24, hf⟩ := nm_some hf
        refine J.iinc (pc := 47) C (v := x1_24) (loc' := [(1, .int x1_24), (0, .ref (Xad X k))]) dX9_makeTick_47 (k := 1) rfl (by rw [hx_x1_24]; rfl) (by decide) rfl ?_
        refine J.goto (pc := 50) C (tgt := 2) dX9_makeTick_50 (by decide) ?_
        exact J.sub (loc' := [(0, .ref (Xad X k)), (1, .int x1_24)]) [1, 0] rfl (hp.2 _ (Option.some.inj hf).symm)
      · refine J.aload_n (pc := 31) C dX9_makeTick_31 rfl 0 rfl ?_
        refine J.aload_n (pc := 32) C dX9_makeTick_32 rfl 0 rfl ?_
        refine J.iload_n (pc := 33) C dX9_makeTick_33 rfl 1 rfl ?_
        refine J.iconst (pc := 34) C (v := 1) dX9_makeTick_34 (by decide) ?_
        obtain ⟨r_26, h_25, hf⟩ := bnd_some hf
        refine J.callV (pc := 35) C (m_X9_ofCue h_25) hk wyX9_ofCue tvX9_ofCue_i tvX9_ofCue_s tw_839 kcX9 rfl hk [.int x1, .int 1] [.ref (Xad X k)] rfl rfl (Nat.le_of_ble_eq_true rfl) (Nat.le_of_ble_eq_true rfl) (Nat.le_of_ble_eq_true rfl) (stk' := [.int r_26, .ref (Xad X k)]) rfl dX9_makeTick_35 rfl ?_
        refine J.aload_n (pc := 38) C dX9_makeTick_38 rfl 0 rfl ?_
        refine J.iload_n (pc := 39) C dX9_makeTick_39 rfl 1 rfl ?_
        refine J.iconst (pc := 40) C (v := 2) dX9_makeTick_40 (by decide) ?_
        obtain ⟨r_28, h_27, hf⟩ := bnd_some hf
        refine J.callV (pc := 41) C (m_X9_ofCue h_27) hk wyX9_ofCue tvX9_ofCue_i tvX9_ofCue_s tw_839 kcX9 rfl hk [.int x1, .int 2] [.int r_26, .ref (Xad X k)] rfl rfl (Nat.le_of_ble_eq_true rfl) (Nat.le_of_ble_eq_true rfl) (Nat.le_of_ble_eq_true rfl) (stk' := [.int r_28, .int r_26, .ref (Xad X k)]) rfl dX9_makeTick_41 rfl ?_
        obtain ⟨σ_31, h_29, hf⟩ := bnd_some hf
        refine J.callV (pc := 44) C (m_X9_carryOut h_29) hk wyX9_carryOut tvX9_carryOut_i tvX9_carryOut_s tw_876 kcX9 rfl hk [.int r_26, .int r_28] [] rfl rfl (Nat.le_of_ble_eq_true rfl) (Nat.le_of_ble_eq_true rfl) (Nat.le_of_ble_eq_true rfl) (stk' := []) rfl dX9_makeTick_44 rfl ?_
        obtain ⟨x1_32, hx_x1_32, hf⟩ := nm_some hf
        refine J.iinc (pc := 47) C (v := x1_32) (loc' := [(1, .int x1_32), (0, .ref (Xad X k))]) dX9_makeTick_47 (k := 1) rfl (by rw [hx_x1_32]; rfl) (by decide) rfl ?_
        refine J.goto (pc := 50) C (tgt := 2) dX9_makeTick_50 (by decide) ?_
        exact J.sub (loc' := [(0, .ref (Xad X k)), (1, .int x1_32)]) [1, 0] rfl (hp.2 _ (Option.some.inj hf).symm)
  have hp : t0 = t0 := rfl
  show J X 0 [(0, .ref (Xad X k))] [] σ
  unfold f_X9_makeTick at hf
  refine J.iconst (pc := 0) C (v := 0) dX9_makeTick_0 (by decide) ?_
  refine J.istore_n (pc := 1) C (loc' := [(1, .int 0), (0, .ref (Xad X k))]) dX9_makeTick_1 rfl (by decide) rfl ?_
  exact J.sub (loc' := [(0, .ref (Xad X k)), (1, .int 0)]) [1, 0] rfl (L2 σ 0 _ hf hp)
set_option maxHeartbeats 4000000 in
set_option maxRecDepth 100000 in
theorem m_X9_command {l : Launch} {n : Nat} {σ : Mem} {k : Nat} {x1 : Int32} {x2 : Int32} {t0 : (Int32 × Mem)} (hf : f_X9_command n σ k x1 x2 = some t0) : Ct l yX9_command cX9_command 3 (some FieldType.int) 2 43 (fun ks => Ok ks k 9) (fun ad => [.ref (ad k), .int x1, .int x2]) σ (fun _ => some (.int t0.1)) t0.2 := by
  refine Ct.of (plainFor_of_name (by decide)) (fun _ => Nat.le_of_ble_eq_true rfl) ?_
  intro X C _ hk hcl hR
  have C : Cx X RX9 cX9_command 3 (some FieldType.int) 2 43 := C
  have hp : t0 = t0 := rfl
  show J X 0 [(0, .ref (Xad X k)), (1, .int x1), (2, .int x2)] [] σ
  unfold f_X9_command at hf
  refine J.iload_n (pc := 0) C dX9_command_0 rfl 1 rfl ?_
  refine J.iload_n (pc := 1) C dX9_command_1 rfl 2 rfl ?_
  obtain ⟨r_2, h_1, hf⟩ := bnd_some hf
  refine J.callS (pc := 2) C (m_X9_isCommand h_1) trivial wyX9_isCommand tsX9_isCommand tw_832 [.int x1, .int x2] [] rfl rfl (Nat.le_of_ble_eq_true rfl) (Nat.le_of_ble_eq_true rfl) (Nat.le_of_ble_eq_true rfl) (stk' := [.int r_2]) rfl dX9_command_2 rfl ?_
  refine J.if_ne (pc := 5) C (tgt := 11) dX9_command_5 (by decide) hf (fun hf => ?_) (fun hf => ?_)
  · refine J.aload_n (pc := 11) C dX9_command_11 rfl 0 rfl ?_
    refine J.iload_n (pc := 12) C dX9_command_12 rfl 1 rfl ?_
    refine J.iload_n (pc := 13) C dX9_command_13 rfl 2 rfl ?_
    obtain ⟨σ_5, h_3, hf⟩ := bnd_some hf
    refine J.callV (pc := 14) C (m_X9_carryOut h_3) hk wyX9_carryOut tvX9_carryOut_i tvX9_carryOut_s tw_876 kcX9 rfl hk [.int x1, .int x2] [] rfl rfl (Nat.le_of_ble_eq_true rfl) (Nat.le_of_ble_eq_true rfl) (Nat.le_of_ble_eq_true rfl) (stk' := []) rfl dX9_command_14 rfl ?_
    refine J.aload_n (pc := 17) C dX9_command_17 rfl 0 rfl ?_
    refine J.getR (pc := 18) C kcX9 hk 0 rfl tw_755 rfl dX9_command_18 ?_
    refine J.sipush (pc := 21) C (v := 937) dX9_command_21 (by decide) ?_
    refine J.iald (pc := 24) C (ok_9_0 hcl hk) hf dX9_command_24 (fun hf => ?_)
    exact J.iretM (pc := 25) C hR ((Option.some.inj hf).trans hp) dX9_command_25
  · refine J.bipush (pc := 8) C (v := (-2)) dX9_command_8 (by decide) ?_
    exact J.iretM (pc := 10) C hR ((Option.some.inj hf).trans hp) dX9_command_10
set_option maxHeartbeats 4000000 in
set_option maxRecDepth 100000 in
theorem m_X9_tick {l : Launch} {n : Nat} {σ : Mem} {k : Nat} {x1 : Int32} {t0 : (Int32 × Mem)} (hf : f_X9_tick n σ k x1 = some t0) : Ct l yX9_tick cX9_tick 3 (some FieldType.int) 3 68 (fun ks => Ok ks k 9) (fun ad => [.ref (ad k), .int x1]) σ (fun _ => some (.int t0.1)) t0.2 := by
  refine Ct.of (plainFor_of_name (by decide)) (fun _ => Nat.le_of_ble_eq_true rfl) ?_
  intro X C _ hk hcl hR
  have C : Cx X RX9 cX9_tick 3 (some FieldType.int) 3 68 := C
  have L34 : ∀ (σ : Mem) (x1 : Int32) (x2 : Int32) (t : (Int32 × Mem)), f_X9_tick_L34 n σ k x1 x2 = some t → t = t0 → J X 34 [(0, .ref (Xad X k)), (1, .int x1), (2, .int x2)] [] σ := by
    intro σ x1 x2 t hf hp
    unfold f_X9_tick_L34 at hf
    refine J_iter (JJ := fun (s : Mem × Int32) => J X 34 [(0, .ref (Xad X k)), (1, .int x1), (2, .int (s.2))] [] s.1) (Ps := fun t => t = t0) ?_ n (σ, x2) t hf hp
    clear hf hp
    intro s t hf hp hq
    obtain ⟨σ, x2⟩ := s
    have hp := And.intro hp hq
    clear hq
    have hf : f_X9_tick_B34 n σ k x1 x2 = some t := hf
    show J X 34 [(0, .ref (Xad X k)), (1, .int x1), (2, .int x2)] [] σ
    unfold f_X9_tick_B34 at hf
    refine J.iload_n (pc := 34) C dX9_tick_34 rfl 2 rfl ?_
    refine J.iload_n (pc := 35) C dX9_tick_35 rfl 1 rfl ?_
    refine J.icmp_ge (pc := 36) C (tgt := 49) dX9_tick_36 (by decide) hf (fun hf => ?_) (fun hf => ?_)
    · refine J.aload_n (pc := 49) C dX9_tick_49 rfl 0 rfl ?_
      refine J.getR (pc := 50) C kcX9 hk 0 rfl tw_755 rfl dX9_tick_50 ?_
      refine J.sipush (pc := 53) C (v := 937) dX9_tick_53 (by decide) ?_
      refine J.iald (pc := 56) C (ok_9_0 hcl hk) hf dX9_tick_56 (fun hf => ?_)
      exact J.iretM (pc := 57) C hR ((hp.1 _ (Option.some.inj hf).symm)) dX9_tick_57
    · refine J.aload_n (pc := 39) C dX9_tick_39 rfl 0 rfl ?_
      obtain ⟨σ_5, h_3, hf⟩ := bnd_some hf
      refine J.callV (pc := 40) C (m_X9_makeTick h_3) hk wyX9_makeTick tvX9_makeTick_i tvX9_makeTick_s tw_885 kcX9 rfl hk [] [] rfl rfl (Nat.le_of_ble_eq_true rfl) (Nat.le_of_ble_eq_true rfl) (Nat.le_of_ble_eq_true rfl) (stk' := []) rfl dX9_tick_40 rfl ?_
      obtain ⟨x2_6, hx_x2_6, hf⟩ := nm_some hf
      refine J.iinc (pc := 43) C (v := x2_6) (loc' := [(2, .int x2_6), (0, .ref (Xad X k)), (1, .int x1)]) dX9_tick_43 (k := 2) rfl (by rw [hx_x2_6]; rfl) (by decide) rfl ?_
      refine J.goto (pc := 46) C (tgt := 34) dX9_tick_46 (by decide) ?_
      exact J.sub (loc' := [(0, .ref (Xad X k)), (1, .int x1), (2, .int x2_6)]) [1, 2, 0] rfl (hp.2 _ (Option.some.inj hf).symm)
  have hp : t0 = t0 := rfl
  show J X 0 [(0, .ref (Xad X k)), (1, .int x1)] [] σ
  unfold f_X9_tick at hf
  refine J.iload_n (pc := 0) C dX9_tick_0 rfl 1 rfl ?_
  refine J.iconst (pc := 1) C (v := 1) dX9_tick_1 (by decide) ?_
  refine J.sipush (pc := 2) C (v := 2000) dX9_tick_2 (by decide) ?_
  obtain ⟨r_2, h_1, hf⟩ := bnd_some hf
  refine J.callS (pc := 5) C (m_X9_in h_1) trivial wyX9_in tsX9_in tw_791 [.int x1, .int 1, .int 2000] [] rfl rfl (Nat.le_of_ble_eq_true rfl) (Nat.le_of_ble_eq_true rfl) (Nat.le_of_ble_eq_true rfl) (stk' := [.int r_2]) rfl dX9_tick_5 rfl ?_
  refine J.if_ne (pc := 8) C (tgt := 14) dX9_tick_8 (by decide) hf (fun hf => ?_) (fun hf => ?_)
  · refine J.aload_n (pc := 14) C dX9_tick_14 rfl 0 rfl ?_
    refine J.getR (pc := 15) C kcX9 hk 0 rfl tw_755 rfl dX9_tick_15 ?_
    refine J.sipush (pc := 18) C (v := 937) dX9_tick_18 (by decide) ?_
    refine J.iald (pc := 21) C (ok_9_0 hcl hk) hf dX9_tick_21 (fun hf => ?_)
    refine J.iload_n (pc := 22) C dX9_tick_22 rfl 1 rfl ?_
    refine J.iadd (pc := 23) C dX9_tick_23 ?_
    refine J.ldc (pc := 24) C (v := 200000) dX9_tick_24 tw_884 ?_
    refine J.icmp_le (pc := 26) C (tgt := 32) dX9_tick_26 (by decide) hf (fun hf => ?_) (fun hf => ?_)
    · refine J.iconst (pc := 32) C (v := 0) dX9_tick_32 (by decide) ?_
      refine J.istore_n (pc := 33) C (loc' := [(2, .int 0), (0, .ref (Xad X k)), (1, .int x1)]) dX9_tick_33 rfl (by decide) rfl ?_
      exact J.sub (loc' := [(0, .ref (Xad X k)), (1, .int x1), (2, .int 0)]) [1, 2, 0] rfl (L34 σ x1 0 _ hf hp)
    · refine J.bipush (pc := 29) C (v := (-5)) dX9_tick_29 (by decide) ?_
      exact J.iretM (pc := 31) C hR ((Option.some.inj hf).trans hp) dX9_tick_31
  · refine J.bipush (pc := 11) C (v := (-2)) dX9_tick_11 (by decide) ?_
    exact J.iretM (pc := 13) C hR ((Option.some.inj hf).trans hp) dX9_tick_13
set_option maxHeartbeats 4000000 in
set_option maxRecDepth 100000 in
theorem m_X9_rewind {l : Launch} {n : Nat} {σ : Mem} {k : Nat} {t0 : (Int32 × Mem)} (hf : f_X9_rewind n σ k = some t0) : Ct l yX9_rewind cX9_rewind 4 (some FieldType.int) 0 0 (fun ks => Ok ks k 9) (fun ad => [.ref (ad k)]) σ (fun _ => some (.int t0.1)) t0.2 := by
  refine Ct.of (plainFor_of_name (by decide)) (fun _ => Nat.le_of_ble_eq_true rfl) ?_
  intro X C _ hk hcl hR
  have C : Cx X RX9 cX9_rewind 4 (some FieldType.int) 0 0 := C
  have L59 : ∀ (σ : Mem) (x1 : Int32) (x2 : Int32) (x3 : Int32) (t : ((Int32 × Mem) ⊕ (Mem × Int32))), f_X9_rewind_L59 n σ k x1 x2 x3 = some t → ((∀ r1, t = .inl r1 → r1 = t0) ∧ (∀ s1, t = .inr s1 → J X 52 [(0, .ref (Xad X k)), (1, .int x1), (2, .int (s1.2))] [] s1.1)) → J X 59 [(0, .ref (Xad X k)), (1, .int x1), (2, .int x2), (3, .int x3)] [] σ := by
    intro σ x1 x2 x3 t hf hp
    unfold f_X9_rewind_L59 at hf
    refine J_iter (JJ := fun (s : Mem × Int32) => J X 59 [(0, .ref (Xad X k)), (1, .int x1), (2, .int x2), (3, .int (s.2))] [] s.1) (Ps := fun t => ((∀ r1, t = .inl r1 → r1 = t0) ∧ (∀ s1, t = .inr s1 → J X 52 [(0, .ref (Xad X k)), (1, .int x1), (2, .int (s1.2))] [] s1.1))) ?_ n (σ, x3) t hf hp
    clear hf hp
    intro s t hf hp hq
    obtain ⟨σ, x3⟩ := s
    have hp := And.intro hp hq
    clear hq
    have hf : f_X9_rewind_B59 n σ k x1 x2 x3 = some t := hf
    show J X 59 [(0, .ref (Xad X k)), (1, .int x1), (2, .int x2), (3, .int x3)] [] σ
    unfold f_X9_rewind_B59 at hf
    refine J.iload_n (pc := 59) C dX9_rewind_59 rfl 3 rfl ?_
    refine J.iconst (pc := 60) C (v := 4) dX9_rewind_60 (by decide) ?_
    refine J.icmp_gt (pc := 61) C (tgt := 85) dX9_rewind_61 (by decide) hf (fun hf => ?_) (fun hf => ?_)
    · obtain ⟨x2_7, hx_x2_7, hf⟩ := nm_some hf
      refine J.iinc (pc := 85) C (v := x2_7) (loc' := [(2, .int x2_7), (0, .ref (Xad X k)), (1, .int x1), (3, .int x3)]) dX9_rewind_85 (k := 2) rfl (by rw [hx_x2_7]; rfl) (by decide) rfl ?_
      refine J.goto (pc := 88) C (tgt := 52) dX9_rewind_88 (by decide) ?_
      exact J.sub (loc' := [(0, .ref (Xad X k)), (1, .int x1), (2, .int x2_7)]) [1, 2, 0] rfl ((hp.1 _ (Option.some.inj hf).symm).2 _ rfl)
    · refine J.aload_n (pc := 64) C dX9_rewind_64 rfl 0 rfl ?_
      refine J.getR (pc := 65) C kcX9 hk 0 rfl tw_755 rfl dX9_rewind_65 ?_
      refine J.sipush (pc := 68) C (v := 912) dX9_rewind_68 (by decide) ?_
      refine J.iconst (pc := 71) C (v := 5) dX9_rewind_71 (by decide) ?_
      refine J.iload_n (pc := 72) C dX9_rewind_72 rfl 2 rfl ?_
      refine J.imul (pc := 73) C dX9_rewind_73 ?_
      refine J.iadd (pc := 74) C dX9_rewind_74 ?_
      refine J.iload_n (pc := 75) C dX9_rewind_75 rfl 3 rfl ?_
      refine J.iadd (pc := 76) C dX9_rewind_76 ?_
      refine J.iconst (pc := 77) C (v := 0) dX9_rewind_77 (by decide) ?_
      refine J.iastM (pc := 78) C (ok_9_0 hcl hk) hf dX9_rewind_78 (fun σ_8 hf => ?_)
      obtain ⟨x3_9, hx_x3_9, hf⟩ := nm_some hf
      refine J.iinc (pc := 79) C (v := x3_9) (loc' := [(3, .int x3_9), (0, .ref (Xad X k)), (1, .int x1), (2, .int x2)]) dX9_rewind_79 (k := 3) rfl (by rw [hx_x3_9]; rfl) (by decide) rfl ?_
      refine J.goto (pc := 82) C (tgt := 59) dX9_rewind_82 (by decide) ?_
      exact J.sub (loc' := [(0, .ref (Xad X k)), (1, .int x1), (2, .int x2), (3, .int x3_9)]) [1, 2, 3, 0] rfl (hp.2 _ (Option.some.inj hf).symm)
  have L52 : ∀ (σ : Mem) (x1 : Int32) (x2 : Int32) (t : (Int32 × Mem)), f_X9_rewind_L52 n σ k x1 x2 = some t → t = t0 → J X 52 [(0, .ref (Xad X k)), (1, .int x1), (2, .int x2)] [] σ := by
    intro σ x1 x2 t hf hp
    unfold f_X9_rewind_L52 at hf
    refine J_iter (JJ := fun (s : Mem × Int32) => J X 52 [(0, .ref (Xad X k)), (1, .int x1), (2, .int (s.2))] [] s.1) (Ps := fun t => t = t0) ?_ n (σ, x2) t hf hp
    clear hf hp
    intro s t hf hp hq
    obtain ⟨σ, x2⟩ := s
    have hp := And.intro hp hq
    clear hq
    have hf : f_X9_rewind_B52 n σ k x1 x2 = some t := hf
    show J X 52 [(0, .ref (Xad X k)), (1, .int x1), (2, .int x2)] [] σ
    unfold f_X9_rewind_B52 at hf
    refine J.iload_n (pc := 52) C dX9_rewind_52 rfl 2 rfl ?_
    refine J.iconst (pc := 53) C (v := 3) dX9_rewind_53 (by decide) ?_
    refine J.icmp_ge (pc := 54) C (tgt := 91) dX9_rewind_54 (by decide) hf (fun hf => ?_) (fun hf => ?_)
    · refine J.aload_n (pc := 91) C dX9_rewind_91 rfl 0 rfl ?_
      refine J.getR (pc := 92) C kcX9 hk 0 rfl tw_755 rfl dX9_rewind_92 ?_
      refine J.sipush (pc := 95) C (v := 934) dX9_rewind_95 (by decide) ?_
      refine J.iconst (pc := 98) C (v := 0) dX9_rewind_98 (by decide) ?_
      refine J.iastM (pc := 99) C (ok_9_0 hcl hk) hf dX9_rewind_99 (fun σ_2 hf => ?_)
      refine J.aload_n (pc := 100) C dX9_rewind_100 rfl 0 rfl ?_
      refine J.getR (pc := 101) C kcX9 hk 0 rfl tw_755 rfl dX9_rewind_101 ?_
      refine J.sipush (pc := 104) C (v := 935) dX9_rewind_104 (by decide) ?_
      refine J.iconst (pc := 107) C (v := 0) dX9_rewind_107 (by decide) ?_
      refine J.iastM (pc := 108) C (ok_9_0 hcl hk) hf dX9_rewind_108 (fun σ_3 hf => ?_)
      refine J.aload_n (pc := 109) C dX9_rewind_109 rfl 0 rfl ?_
      refine J.getR (pc := 110) C kcX9 hk 0 rfl tw_755 rfl dX9_rewind_110 ?_
      refine J.sipush (pc := 113) C (v := 936) dX9_rewind_113 (by decide) ?_
      refine J.iconst (pc := 116) C (v := 0) dX9_rewind_116 (by decide) ?_
      refine J.iastM (pc := 117) C (ok_9_0 hcl hk) hf dX9_rewind_117 (fun σ_4 hf => ?_)
      refine J.aload_n (pc := 118) C dX9_rewind_118 rfl 0 rfl ?_
      refine J.getR (pc := 119) C kcX9 hk 0 rfl tw_755 rfl dX9_rewind_119 ?_
      refine J.sipush (pc := 122) C (v := 937) dX9_rewind_122 (by decide) ?_
      refine J.iconst (pc := 125) C (v := 0) dX9_rewind_125 (by decide) ?_
      refine J.iastM (pc := 126) C (ok_9_0 hcl hk) hf dX9_rewind_126 (fun σ_5 hf => ?_)
      refine J.aload_n (pc := 127) C dX9_rewind_127 rfl 0 rfl ?_
      refine J.getR (pc := 128) C kcX9 hk 0 rfl tw_755 rfl dX9_rewind_128 ?_
      refine J.sipush (pc := 131) C (v := 939) dX9_rewind_131 (by decide) ?_
      refine J.iconst (pc := 134) C (v := 0) dX9_rewind_134 (by decide) ?_
      refine J.iastM (pc := 135) C (ok_9_0 hcl hk) hf dX9_rewind_135 (fun σ_6 hf => ?_)
      refine J.iload_n (pc := 136) C dX9_rewind_136 rfl 1 rfl ?_
      exact J.iretM (pc := 137) C hR ((hp.1 _ (Option.some.inj hf).symm)) dX9_rewind_137
    · refine J.iconst (pc := 57) C (v := 2) dX9_rewind_57 (by decide) ?_
      refine J.istore_n (pc := 58) C (loc' := [(3, .int 2), (0, .ref (Xad X k)), (1, .int x1), (2, .int x2)]) dX9_rewind_58 rfl (by decide) rfl ?_
      exact J.sub (loc' := [(0, .ref (Xad X k)), (1, .int x1), (2, .int x2), (3, .int 2)]) [1, 2, 3, 0] rfl (L59 σ x1 x2 2 _ hf hp)
  have L20 : ∀ (σ : Mem) (x1 : Int32) (x2 : Int32) (x3 : Int32) (t : ((Int32 × Mem) ⊕ (Mem × Int32))), f_X9_rewind_L20 n σ k x1 x2 x3 = some t → ((∀ r1, t = .inl r1 → r1 = t0) ∧ (∀ s1, t = .inr s1 → J X 11 [(0, .ref (Xad X k)), (1, .int x1), (2, .int (s1.2))] [] s1.1)) → J X 20 [(0, .ref (Xad X k)), (1, .int x1), (2, .int x2), (3, .int x3)] [] σ := by
    intro σ x1 x2 x3 t hf hp
    unfold f_X9_rewind_L20 at hf
    refine J_iter (JJ := fun (s : Mem × Int32) => J X 20 [(0, .ref (Xad X k)), (1, .int x1), (2, .int x2), (3, .int (s.2))] [] s.1) (Ps := fun t => ((∀ r1, t = .inl r1 → r1 = t0) ∧ (∀ s1, t = .inr s1 → J X 11 [(0, .ref (Xad X k)), (1, .int x1), (2, .int (s1.2))] [] s1.1))) ?_ n (σ, x3) t hf hp
    clear hf hp
    intro s t hf hp hq
    obtain ⟨σ, x3⟩ := s
    have hp := And.intro hp hq
    clear hq
    have hf : f_X9_rewind_B20 n σ k x1 x2 x3 = some t := hf
    show J X 20 [(0, .ref (Xad X k)), (1, .int x1), (2, .int x2), (3, .int x3)] [] σ
    unfold f_X9_rewind_B20 at hf
    refine J.iload_n (pc := 20) C dX9_rewind_20 rfl 3 rfl ?_
    refine J.bipush (pc := 21) C (v := 11) dX9_rewind_21 (by decide) ?_
    refine J.icmp_gt (pc := 23) C (tgt := 44) dX9_rewind_23 (by decide) hf (fun hf => ?_) (fun hf => ?_)
    · obtain ⟨x2_10, hx_x2_10, hf⟩ := nm_some hf
      refine J.iinc (pc := 44) C (v := x2_10) (loc' := [(2, .int x2_10), (0, .ref (Xad X k)), (1, .int x1), (3, .int x3)]) dX9_rewind_44 (k := 2) rfl (by rw [hx_x2_10]; rfl) (by decide) rfl ?_
      refine J.goto (pc := 47) C (tgt := 11) dX9_rewind_47 (by decide) ?_
      exact J.sub (loc' := [(0, .ref (Xad X k)), (1, .int x1), (2, .int x2_10)]) [1, 2, 0] rfl ((hp.1 _ (Option.some.inj hf).symm).2 _ rfl)
    · refine J.aload_n (pc := 26) C dX9_rewind_26 rfl 0 rfl ?_
      refine J.getR (pc := 27) C kcX9 hk 0 rfl tw_755 rfl dX9_rewind_27 ?_
      refine J.bipush (pc := 30) C (v := 12) dX9_rewind_30 (by decide) ?_
      refine J.iload_n (pc := 32) C dX9_rewind_32 rfl 2 rfl ?_
      refine J.imul (pc := 33) C dX9_rewind_33 ?_
      refine J.iload_n (pc := 34) C dX9_rewind_34 rfl 3 rfl ?_
      refine J.iadd (pc := 35) C dX9_rewind_35 ?_
      refine J.iconst (pc := 36) C (v := 0) dX9_rewind_36 (by decide) ?_
      refine J.iastM (pc := 37) C (ok_9_0 hcl hk) hf dX9_rewind_37 (fun σ_11 hf => ?_)
      obtain ⟨x3_12, hx_x3_12, hf⟩ := nm_some hf
      refine J.iinc (pc := 38) C (v := x3_12) (loc' := [(3, .int x3_12), (0, .ref (Xad X k)), (1, .int x1), (2, .int x2)]) dX9_rewind_38 (k := 3) rfl (by rw [hx_x3_12]; rfl) (by decide) rfl ?_
      refine J.goto (pc := 41) C (tgt := 20) dX9_rewind_41 (by decide) ?_
      exact J.sub (loc' := [(0, .ref (Xad X k)), (1, .int x1), (2, .int x2), (3, .int x3_12)]) [1, 2, 3, 0] rfl (hp.2 _ (Option.some.inj hf).symm)
  have L11 : ∀ (σ : Mem) (x1 : Int32) (x2 : Int32) (t : (Int32 × Mem)), f_X9_rewind_L11 n σ k x1 x2 = some t → t = t0 → J X 11 [(0, .ref (Xad X k)), (1, .int x1), (2, .int x2)] [] σ := by
    intro σ x1 x2 t hf hp
    unfold f_X9_rewind_L11 at hf
    refine J_iter (JJ := fun (s : Mem × Int32) => J X 11 [(0, .ref (Xad X k)), (1, .int x1), (2, .int (s.2))] [] s.1) (Ps := fun t => t = t0) ?_ n (σ, x2) t hf hp
    clear hf hp
    intro s t hf hp hq
    obtain ⟨σ, x2⟩ := s
    have hp := And.intro hp hq
    clear hq
    have hf : f_X9_rewind_B11 n σ k x1 x2 = some t := hf
    show J X 11 [(0, .ref (Xad X k)), (1, .int x1), (2, .int x2)] [] σ
    unfold f_X9_rewind_B11 at hf
    refine J.iload_n (pc := 11) C dX9_rewind_11 rfl 2 rfl ?_
    refine J.bipush (pc := 12) C (v := 12) dX9_rewind_12 (by decide) ?_
    refine J.icmp_ge (pc := 14) C (tgt := 50) dX9_rewind_14 (by decide) hf (fun hf => ?_) (fun hf => ?_)
    · refine J.iconst (pc := 50) C (v := 0) dX9_rewind_50 (by decide) ?_
      refine J.istore_n (pc := 51) C (loc' := [(2, .int 0), (0, .ref (Xad X k)), (1, .int x1)]) dX9_rewind_51 rfl (by decide) rfl ?_
      obtain ⟨t0, hf, he⟩ := exi_some hf
      have hp := hp.1 _ he
      exact J.sub (loc' := [(0, .ref (Xad X k)), (1, .int x1), (2, .int 0)]) [1, 2, 0] rfl (L52 σ x1 0 _ hf hp)
    · refine J.bipush (pc := 17) C (v := 6) dX9_rewind_17 (by decide) ?_
      refine J.istore_n (pc := 19) C (loc' := [(3, .int 6), (0, .ref (Xad X k)), (1, .int x1), (2, .int x2)]) dX9_rewind_19 rfl (by decide) rfl ?_
      exact J.sub (loc' := [(0, .ref (Xad X k)), (1, .int x1), (2, .int x2), (3, .int 6)]) [1, 2, 3, 0] rfl (L20 σ x1 x2 6 _ hf hp)
  have hp : t0 = t0 := rfl
  show J X 0 [(0, .ref (Xad X k))] [] σ
  unfold f_X9_rewind at hf
  refine J.aload_n (pc := 0) C dX9_rewind_0 rfl 0 rfl ?_
  refine J.getR (pc := 1) C kcX9 hk 0 rfl tw_755 rfl dX9_rewind_1 ?_
  refine J.sipush (pc := 4) C (v := 937) dX9_rewind_4 (by decide) ?_
  refine J.iald (pc := 7) C (ok_9_0 hcl hk) hf dX9_rewind_7 (fun hf => ?_)
  refine J.nmI hf (fun x1_1 hf => ?_)
  refine J.istore_n (pc := 8) C (loc' := [(1, .int x1_1), (0, .ref (Xad X k))]) dX9_rewind_8 rfl (by decide) rfl ?_
  refine J.iconst (pc := 9) C (v := 0) dX9_rewind_9 (by decide) ?_
  refine J.istore_n (pc := 10) C (loc' := [(2, .int 0), (1, .int x1_1), (0, .ref (Xad X k))]) dX9_rewind_10 rfl (by decide) rfl ?_
  exact J.sub (loc' := [(0, .ref (Xad X k)), (1, .int x1_1), (2, .int 0)]) [2, 1, 0] rfl (L11 σ x1_1 0 _ hf hp)
set_option maxHeartbeats 4000000 in
set_option maxRecDepth 100000 in
theorem m_X9_spray {l : Launch} {σ : Mem} {k : Nat} {x1 : Int32} {x2 : Int32} {t0 : Int32} (hf : f_X9_spray σ k x1 x2 = some t0) : Ct l yX9_spray cX9_spray 3 (some FieldType.int) 2 43 (fun ks => Ok ks k 9) (fun ad => [.ref (ad k), .int x1, .int x2]) σ (fun _ => some (.int t0)) σ := by
  refine Ct.of (plainFor_of_name (by decide)) (fun _ => Nat.le_of_ble_eq_true rfl) ?_
  intro X C _ hk hcl hR
  have C : Cx X RX9 cX9_spray 3 (some FieldType.int) 2 43 := C
  have hp : t0 = t0 := rfl
  show J X 0 [(0, .ref (Xad X k)), (1, .int x1), (2, .int x2)] [] σ
  unfold f_X9_spray at hf
  refine J.aload_n (pc := 0) C dX9_spray_0 rfl 0 rfl ?_
  refine J.iload_n (pc := 1) C dX9_spray_1 rfl 1 rfl ?_
  obtain ⟨r_2, h_1, hf⟩ := bnd_some hf
  refine J.callV (pc := 2) C (m_X9_isNozzle h_1) hk wyX9_isNozzle tvX9_isNozzle_i tvX9_isNozzle_s tw_798 kcX9 rfl hk [.int x1] [] rfl rfl (Nat.le_of_ble_eq_true rfl) (Nat.le_of_ble_eq_true rfl) (Nat.le_of_ble_eq_true rfl) (stk' := [.int r_2]) rfl dX9_spray_2 rfl ?_
  refine J.if_ne (pc := 5) C (tgt := 10) dX9_spray_5 (by decide) hf (fun hf => ?_) (fun hf => ?_)
  · refine J.iload_n (pc := 10) C dX9_spray_10 rfl 2 rfl ?_
    refine J.iconst (pc := 11) C (v := 0) dX9_spray_11 (by decide) ?_
    refine J.bipush (pc := 12) C (v := 11) dX9_spray_12 (by decide) ?_
    obtain ⟨r_4, h_3, hf⟩ := bnd_some hf
    refine J.callS (pc := 14) C (m_X9_in h_3) trivial wyX9_in tsX9_in tw_791 [.int x2, .int 0, .int 11] [] rfl rfl (Nat.le_of_ble_eq_true rfl) (Nat.le_of_ble_eq_true rfl) (Nat.le_of_ble_eq_true rfl) (stk' := [.int r_4]) rfl dX9_spray_14 rfl ?_
    refine J.if_eq (pc := 17) C (tgt := 34) dX9_spray_17 (by decide) hf (fun hf => ?_) (fun hf => ?_)
    · refine J.bipush (pc := 34) C (v := (-2)) dX9_spray_34 (by decide) ?_
      exact J.iretP (pc := 36) C hR ((Option.some.inj hf).trans hp) dX9_spray_36
    · refine J.aload_n (pc := 20) C dX9_spray_20 rfl 0 rfl ?_
      refine J.getR (pc := 21) C kcX9 hk 0 rfl tw_755 rfl dX9_spray_21 ?_
      refine J.bipush (pc := 24) C (v := 12) dX9_spray_24 (by decide) ?_
      refine J.iload_n (pc := 26) C dX9_spray_26 rfl 1 rfl ?_
      refine J.imul (pc := 27) C dX9_spray_27 ?_
      refine J.iload_n (pc := 28) C dX9_spray_28 rfl 2 rfl ?_
      refine J.iadd (pc := 29) C dX9_spray_29 ?_
      refine J.iald (pc := 30) C (ok_9_0 hcl hk) hf dX9_spray_30 (fun hf => ?_)
      refine J.goto (pc := 31) C (tgt := 36) dX9_spray_31 (by decide) ?_
      exact J.iretP (pc := 36) C hR ((Option.some.inj hf).trans hp) dX9_spray_36
  · refine J.iconst (pc := 8) C (v := (-1)) dX9_spray_8 (by decide) ?_
    exact J.iretP (pc := 9) C hR ((Option.some.inj hf).trans hp) dX9_spray_9
set_option maxHeartbeats 4000000 in
set_option maxRecDepth 100000 in
theorem m_X9_pressure {l : Launch} {σ : Mem} {k : Nat} {x1 : Int32} {x2 : Int32} {t0 : Int32} (hf : f_X9_pressure σ k x1 x2 = some t0) : Ct l yX9_pressure cX9_pressure 3 (some FieldType.int) 2 42 (fun ks => Ok ks k 9) (fun ad => [.ref (ad k), .int x1, .int x2]) σ (fun _ => some (.int t0)) σ := by
  refine Ct.of (plainFor_of_name (by decide)) (fun _ => Nat.le_of_ble_eq_true rfl) ?_
  intro X C _ hk hcl hR
  have C : Cx X RX9 cX9_pressure 3 (some FieldType.int) 2 42 := C
  have hp : t0 = t0 := rfl
  show J X 0 [(0, .ref (Xad X k)), (1, .int x1), (2, .int x2)] [] σ
  unfold f_X9_pressure at hf
  refine J.iload_n (pc := 0) C dX9_pressure_0 rfl 1 rfl ?_
  obtain ⟨r_2, h_1, hf⟩ := bnd_some hf
  refine J.callS (pc := 1) C (m_X9_isPump h_1) trivial wyX9_isPump tsX9_isPump tw_813 [.int x1] [] rfl rfl (Nat.le_of_ble_eq_true rfl) (Nat.le_of_ble_eq_true rfl) (Nat.le_of_ble_eq_true rfl) (stk' := [.int r_2]) rfl dX9_pressure_1 rfl ?_
  refine J.if_ne (pc := 4) C (tgt := 9) dX9_pressure_4 (by decide) hf (fun hf => ?_) (fun hf => ?_)
  · refine J.iload_n (pc := 9) C dX9_pressure_9 rfl 2 rfl ?_
    refine J.iconst (pc := 10) C (v := 0) dX9_pressure_10 (by decide) ?_
    refine J.iconst (pc := 11) C (v := 4) dX9_pressure_11 (by decide) ?_
    obtain ⟨r_4, h_3, hf⟩ := bnd_some hf
    refine J.callS (pc := 12) C (m_X9_in h_3) trivial wyX9_in tsX9_in tw_791 [.int x2, .int 0, .int 4] [] rfl rfl (Nat.le_of_ble_eq_true rfl) (Nat.le_of_ble_eq_true rfl) (Nat.le_of_ble_eq_true rfl) (stk' := [.int r_4]) rfl dX9_pressure_12 rfl ?_
    refine J.if_eq (pc := 15) C (tgt := 35) dX9_pressure_15 (by decide) hf (fun hf => ?_) (fun hf => ?_)
    · refine J.bipush (pc := 35) C (v := (-2)) dX9_pressure_35 (by decide) ?_
      exact J.iretP (pc := 37) C hR ((Option.some.inj hf).trans hp) dX9_pressure_37
    · refine J.aload_n (pc := 18) C dX9_pressure_18 rfl 0 rfl ?_
      refine J.getR (pc := 19) C kcX9 hk 0 rfl tw_755 rfl dX9_pressure_19 ?_
      refine J.sipush (pc := 22) C (v := 912) dX9_pressure_22 (by decide) ?_
      refine J.iconst (pc := 25) C (v := 5) dX9_pressure_25 (by decide) ?_
      refine J.iload_n (pc := 26) C dX9_pressure_26 rfl 1 rfl ?_
      refine J.imul (pc := 27) C dX9_pressure_27 ?_
      refine J.iadd (pc := 28) C dX9_pressure_28 ?_
      refine J.iload_n (pc := 29) C dX9_pressure_29 rfl 2 rfl ?_
      refine J.iadd (pc := 30) C dX9_pressure_30 ?_
      refine J.iald (pc := 31) C (ok_9_0 hcl hk) hf dX9_pressure_31 (fun hf => ?_)
      refine J.goto (pc := 32) C (tgt := 37) dX9_pressure_32 (by decide) ?_
      exact J.iretP (pc := 37) C hR ((Option.some.inj hf).trans hp) dX9_pressure_37
  · refine J.iconst (pc := 7) C (v := (-1)) dX9_pressure_7 (by decide) ?_
    exact J.iretP (pc := 8) C hR ((Option.some.inj hf).trans hp) dX9_pressure_8
set_option maxHeartbeats 4000000 in
set_option maxRecDepth 100000 in
theorem m_X9_nextCue {l : Launch} {n : Nat} {σ : Mem} {k : Nat} {t0 : Int32} (hf : f_X9_nextCue n σ k = some t0) : Ct l yX9_nextCue cX9_nextCue 2 (some FieldType.int) 1 22 (fun ks => Ok ks k 9) (fun ad => [.ref (ad k)]) σ (fun _ => some (.int t0)) σ := by
  refine Ct.of (plainFor_of_name (by decide)) (fun _ => Nat.le_of_ble_eq_true rfl) ?_
  intro X C _ hk hcl hR
  have C : Cx X RX9 cX9_nextCue 2 (some FieldType.int) 1 22 := C
  have L2 : ∀ (x1 : Int32) (t : Int32), f_X9_nextCue_L2 n σ k x1 = some t → t = t0 → J X 2 [(0, .ref (Xad X k)), (1, .int x1)] [] σ := by
    intro x1 t hf hp
    unfold f_X9_nextCue_L2 at hf
    refine J_iter (JJ := fun (s : Int32) => J X 2 [(0, .ref (Xad X k)), (1, .int s)] [] σ) (Ps := fun t => t = t0) ?_ n x1 t hf hp
    clear hf hp
    intro s t hf hp hq
    obtain ⟨x1, rfl⟩ : ∃ z, z = s := ⟨_, rfl⟩
    have hp := And.intro hp hq
    clear hq
    have hf : f_X9_nextCue_B2 n σ k x1 = some t := hf
    show J X 2 [(0, .ref (Xad X k)), (1, .int x1)] [] σ
    unfold f_X9_nextCue_B2 at hf
    refine J.iload_n (pc := 2) C dX9_nextCue_2 rfl 1 rfl ?_
    refine J.aload_n (pc := 3) C dX9_nextCue_3 rfl 0 rfl ?_
    refine J.getR (pc := 4) C kcX9 hk 0 rfl tw_755 rfl dX9_nextCue_4 ?_
    refine J.sipush (pc := 7) C (v := 940) dX9_nextCue_7 (by decide) ?_
    refine J.iald (pc := 10) C (ok_9_0 hcl hk) hf dX9_nextCue_10 (fun hf => ?_)
    refine J.icmp_ge (pc := 11) C (tgt := 39) dX9_nextCue_11 (by decide) hf (fun hf => ?_) (fun hf => ?_)
    · refine J.bipush (pc := 39) C (v := (-6)) dX9_nextCue_39 (by decide) ?_
      exact J.iretP (pc := 41) C hR ((hp.1 _ (Option.some.inj hf).symm)) dX9_nextCue_41
    · refine J.aload_n (pc := 14) C dX9_nextCue_14 rfl 0 rfl ?_
      refine J.iload_n (pc := 15) C dX9_nextCue_15 rfl 1 rfl ?_
      refine J.iconst (pc := 16) C (v := 0) dX9_nextCue_16 (by decide) ?_
      obtain ⟨r_2, h_1, hf⟩ := bnd_some hf
      refine J.callV (pc := 17) C (m_X9_ofCue h_1) hk wyX9_ofCue tvX9_ofCue_i tvX9_ofCue_s tw_839 kcX9 rfl hk [.int x1, .int 0] [] rfl rfl (Nat.le_of_ble_eq_true rfl) (Nat.le_of_ble_eq_true rfl) (Nat.le_of_ble_eq_true rfl) (stk' := [.int r_2]) rfl dX9_nextCue_17 rfl ?_
      refine J.aload_n (pc := 20) C dX9_nextCue_20 rfl 0 rfl ?_
      refine J.getR (pc := 21) C kcX9 hk 0 rfl tw_755 rfl dX9_nextCue_21 ?_
      refine J.sipush (pc := 24) C (v := 937) dX9_nextCue_24 (by decide) ?_
      refine J.iald (pc := 27) C (ok_9_0 hcl hk) hf dX9_nextCue_27 (fun hf => ?_)
      refine J.icmp_lt (pc := 28) C (tgt := 33) dX9_nextCue_28 (by decide) hf (fun hf => ?_) (fun hf => ?_)
      · obtain ⟨x1_3, hx_x1_3, hf⟩ := nm_some hf
        refine J.iinc (pc := 33) C (v := x1_3) (loc' := [(1, .int x1_3), (0, .ref (Xad X k))]) dX9_nextCue_33 (k := 1) rfl (by rw [hx_x1_3]; rfl) (by decide) rfl ?_
        refine J.goto (pc := 36) C (tgt := 2) dX9_nextCue_36 (by decide) ?_
        exact J.sub (loc' := [(0, .ref (Xad X k)), (1, .int x1_3)]) [1, 0] rfl (hp.2 _ (Option.some.inj hf).symm)
      · refine J.iload_n (pc := 31) C dX9_nextCue_31 rfl 1 rfl ?_
        exact J.iretP (pc := 32) C hR ((hp.1 _ (Option.some.inj hf).symm)) dX9_nextCue_32
  have hp : t0 = t0 := rfl
  show J X 0 [(0, .ref (Xad X k))] [] σ
  unfold f_X9_nextCue at hf
  refine J.iconst (pc := 0) C (v := 0) dX9_nextCue_0 (by decide) ?_
  refine J.istore_n (pc := 1) C (loc' := [(1, .int 0), (0, .ref (Xad X k))]) dX9_nextCue_1 rfl (by decide) rfl ?_
  exact J.sub (loc' := [(0, .ref (Xad X k)), (1, .int 0)]) [1, 0] rfl (L2 0 _ hf hp)
set_option maxHeartbeats 4000000 in
set_option maxRecDepth 100000 in
theorem m_X9_state {l : Launch} {n : Nat} {σ : Mem} {k : Nat} {x1 : Int32} {t0 : Int32} (hf : f_X9_state n σ k x1 = some t0) : Ct l yX9_state cX9_state 2 (some FieldType.int) 2 43 (fun ks => Ok ks k 9) (fun ad => [.ref (ad k), .int x1]) σ (fun _ => some (.int t0)) σ := by
  refine Ct.of (plainFor_of_name (by decide)) (fun _ => Nat.le_of_ble_eq_true rfl) ?_
  intro X C _ hk hcl hR
  have C : Cx X RX9 cX9_state 2 (some FieldType.int) 2 43 := C
  have hp : t0 = t0 := rfl
  show J X 0 [(0, .ref (Xad X k)), (1, .int x1)] [] σ
  unfold f_X9_state at hf
  refine J.iload_n (pc := 0) C dX9_state_0 rfl 1 rfl ?_
  refine J.bipush (pc := 1) C (v := 10) dX9_state_1 (by decide) ?_
  refine J.bipush (pc := 3) C (v := 15) dX9_state_3 (by decide) ?_
  obtain ⟨r_2, h_1, hf⟩ := bnd_some hf
  refine J.callS (pc := 5) C (m_X9_in h_1) trivial wyX9_in tsX9_in tw_791 [.int x1, .int 10, .int 15] [] rfl rfl (Nat.le_of_ble_eq_true rfl) (Nat.le_of_ble_eq_true rfl) (Nat.le_of_ble_eq_true rfl) (stk' := [.int r_2]) rfl dX9_state_5 rfl ?_
  refine J.if_eq (pc := 8) C (tgt := 25) dX9_state_8 (by decide) hf (fun hf => ?_) (fun hf => ?_)
  · refine J.iload_n (pc := 25) C dX9_state_25 rfl 1 rfl ?_
    refine J.tblIn (pc := 26) C dX9_state_26 0 hf (by decide) (by decide) rfl (tgt := 80) (by decide) (fun hf => ?_) (fun hn0 hf => ?_)
    · refine J.aload_n (pc := 80) C dX9_state_80 rfl 0 rfl ?_
      refine J.getR (pc := 81) C kcX9 hk 0 rfl tw_755 rfl dX9_state_81 ?_
      refine J.sipush (pc := 84) C (v := 937) dX9_state_84 (by decide) ?_
      refine J.iald (pc := 87) C (ok_9_0 hcl hk) hf dX9_state_87 (fun hf => ?_)
      exact J.iretP (pc := 88) C hR ((Option.some.inj hf).trans hp) dX9_state_88
    refine J.tblIn (pc := 26) C dX9_state_26 1 hf (by decide) (by decide) rfl (tgt := 89) (by decide) (fun hf => ?_) (fun hn1 hf => ?_)
    · refine J.aload_n (pc := 89) C dX9_state_89 rfl 0 rfl ?_
      refine J.getR (pc := 90) C kcX9 hk 0 rfl tw_755 rfl dX9_state_90 ?_
      refine J.sipush (pc := 93) C (v := 938) dX9_state_93 (by decide) ?_
      refine J.iald (pc := 96) C (ok_9_0 hcl hk) hf dX9_state_96 (fun hf => ?_)
      exact J.iretP (pc := 97) C hR ((Option.some.inj hf).trans hp) dX9_state_97
    refine J.tblIn (pc := 26) C dX9_state_26 2 hf (by decide) (by decide) rfl (tgt := 98) (by decide) (fun hf => ?_) (fun hn2 hf => ?_)
    · refine J.aload_n (pc := 98) C dX9_state_98 rfl 0 rfl ?_
      refine J.getR (pc := 99) C kcX9 hk 0 rfl tw_755 rfl dX9_state_99 ?_
      refine J.sipush (pc := 102) C (v := 940) dX9_state_102 (by decide) ?_
      refine J.iald (pc := 105) C (ok_9_0 hcl hk) hf dX9_state_105 (fun hf => ?_)
      exact J.iretP (pc := 106) C hR ((Option.some.inj hf).trans hp) dX9_state_106
    refine J.tblIn (pc := 26) C dX9_state_26 3 hf (by decide) (by decide) rfl (tgt := 107) (by decide) (fun hf => ?_) (fun hn3 hf => ?_)
    · refine J.aload_n (pc := 107) C dX9_state_107 rfl 0 rfl ?_
      refine J.getR (pc := 108) C kcX9 hk 0 rfl tw_755 rfl dX9_state_108 ?_
      refine J.sipush (pc := 111) C (v := 933) dX9_state_111 (by decide) ?_
      refine J.iald (pc := 114) C (ok_9_0 hcl hk) hf dX9_state_114 (fun hf => ?_)
      exact J.iretP (pc := 115) C hR ((Option.some.inj hf).trans hp) dX9_state_115
    refine J.tblIn (pc := 26) C dX9_state_26 4 hf (by decide) (by decide) rfl (tgt := 116) (by decide) (fun hf => ?_) (fun hn4 hf => ?_)
    · refine J.aload_n (pc := 116) C dX9_state_116 rfl 0 rfl ?_
      refine J.getR (pc := 117) C kcX9 hk 0 rfl tw_755 rfl dX9_state_117 ?_
      refine J.sipush (pc := 120) C (v := 934) dX9_state_120 (by decide) ?_
      refine J.iald (pc := 123) C (ok_9_0 hcl hk) hf dX9_state_123 (fun hf => ?_)
      refine J.sipush (pc := 124) C (v := 1024) dX9_state_124 (by decide) ?_
      refine J.idiv (pc := 127) C dX9_state_127 (by decide) ?_
      exact J.iretP (pc := 128) C hR ((Option.some.inj hf).trans hp) dX9_state_128
    refine J.tblIn (pc := 26) C dX9_state_26 5 hf (by decide) (by decide) rfl (tgt := 129) (by decide) (fun hf => ?_) (fun hn5 hf => ?_)
    · refine J.aload_n (pc := 129) C dX9_state_129 rfl 0 rfl ?_
      refine J.getR (pc := 130) C kcX9 hk 0 rfl tw_755 rfl dX9_state_130 ?_
      refine J.sipush (pc := 133) C (v := 935) dX9_state_133 (by decide) ?_
      refine J.iald (pc := 136) C (ok_9_0 hcl hk) hf dX9_state_136 (fun hf => ?_)
      exact J.iretP (pc := 137) C hR ((Option.some.inj hf).trans hp) dX9_state_137
    refine J.tblIn (pc := 26) C dX9_state_26 6 hf (by decide) (by decide) rfl (tgt := 138) (by decide) (fun hf => ?_) (fun hn6 hf => ?_)
    · refine J.aload_n (pc := 138) C dX9_state_138 rfl 0 rfl ?_
      refine J.getR (pc := 139) C kcX9 hk 0 rfl tw_755 rfl dX9_state_139 ?_
      refine J.sipush (pc := 142) C (v := 936) dX9_state_142 (by decide) ?_
      refine J.iald (pc := 145) C (ok_9_0 hcl hk) hf dX9_state_145 (fun hf => ?_)
      exact J.iretP (pc := 146) C hR ((Option.some.inj hf).trans hp) dX9_state_146
    refine J.tblIn (pc := 26) C dX9_state_26 7 hf (by decide) (by decide) rfl (tgt := 147) (by decide) (fun hf => ?_) (fun hn7 hf => ?_)
    · refine J.aload_n (pc := 147) C dX9_state_147 rfl 0 rfl ?_
      refine J.getR (pc := 148) C kcX9 hk 0 rfl tw_755 rfl dX9_state_148 ?_
      refine J.sipush (pc := 151) C (v := 939) dX9_state_151 (by decide) ?_
      refine J.iald (pc := 154) C (ok_9_0 hcl hk) hf dX9_state_154 (fun hf => ?_)
      exact J.iretP (pc := 155) C hR ((Option.some.inj hf).trans hp) dX9_state_155
    refine J.tblIn (pc := 26) C dX9_state_26 8 hf (by decide) (by decide) rfl (tgt := 156) (by decide) (fun hf => ?_) (fun hn8 hf => ?_)
    · refine J.aload_n (pc := 156) C dX9_state_156 rfl 0 rfl ?_
      obtain ⟨r_4, h_3, hf⟩ := bnd_some hf
      refine J.callV (pc := 157) C (m_X9_nextCue h_3) hk wyX9_nextCue tvX9_nextCue_i tvX9_nextCue_s tw_934 kcX9 rfl hk [] [] rfl rfl (Nat.le_of_ble_eq_true rfl) (Nat.le_of_ble_eq_true rfl) (Nat.le_of_ble_eq_true rfl) (stk' := [.int r_4]) rfl dX9_state_157 rfl ?_
      exact J.iretP (pc := 160) C hR ((Option.some.inj hf).trans hp) dX9_state_160
    refine J.tblIn (pc := 26) C dX9_state_26 9 hf (by decide) (by decide) rfl (tgt := 161) (by decide) (fun hf => ?_) (fun hn9 hf => ?_)
    · refine J.aload_n (pc := 161) C dX9_state_161 rfl 0 rfl ?_
      refine J.getI (pc := 162) C kcX9 hk 5 rfl tw_760 rfl dX9_state_162 ?_
      exact J.iretP (pc := 165) C hR ((Option.some.inj hf).trans hp) dX9_state_165
    refine J.tblOut (pc := 26) C dX9_state_26 (by have q0 := lv_neT hn0 (a := 0) (by decide); have q1 := lv_neT hn1 (a := 1) (by decide); have q2 := lv_neT hn2 (a := 2) (by decide); have q3 := lv_neT hn3 (a := 3) (by decide); have q4 := lv_neT hn4 (a := 4) (by decide); have q5 := lv_neT hn5 (a := 5) (by decide); have q6 := lv_neT hn6 (a := 6) (by decide); have q7 := lv_neT hn7 (a := 7) (by decide); have q8 := lv_neT hn8 (a := 8) (by decide); have q9 := lv_neT hn9 (a := 9) (by decide); omega) (tgt := 166) (by decide) ?_
    refine J.bipush (pc := 166) C (v := (-2)) dX9_state_166 (by decide) ?_
    exact J.iretP (pc := 168) C hR ((Option.some.inj hf).trans hp) dX9_state_168
  · refine J.aload_n (pc := 11) C dX9_state_11 rfl 0 rfl ?_
    refine J.getR (pc := 12) C kcX9 hk 0 rfl tw_755 rfl dX9_state_12 ?_
    refine J.sipush (pc := 15) C (v := 927) dX9_state_15 (by decide) ?_
    refine J.iload_n (pc := 18) C dX9_state_18 rfl 1 rfl ?_
    refine J.iadd (pc := 19) C dX9_state_19 ?_
    refine J.bipush (pc := 20) C (v := 10) dX9_state_20 (by decide) ?_
    refine J.isub (pc := 22) C dX9_state_22 ?_
    refine J.iald (pc := 23) C (ok_9_0 hcl hk) hf dX9_state_23 (fun hf => ?_)
    exact J.iretP (pc := 24) C hR ((Option.some.inj hf).trans hp) dX9_state_24
set_option maxHeartbeats 4000000 in
set_option maxRecDepth 100000 in
theorem m_X9_greatestNow {l : Launch} {n : Nat} {σ : Mem} {k : Nat} {t0 : Int32} (hf : f_X9_greatestNow n σ k = some t0) : Ct l yX9_greatestNow cX9_greatestNow 3 (some FieldType.int) 0 0 (fun ks => Ok ks k 9) (fun ad => [.ref (ad k)]) σ (fun _ => some (.int t0)) σ := by
  refine Ct.of (plainFor_of_name (by decide)) (fun _ => Nat.le_of_ble_eq_true rfl) ?_
  intro X C _ hk hcl hR
  have C : Cx X RX9 cX9_greatestNow 3 (some FieldType.int) 0 0 := C
  have L4 : ∀ (x1 : Int32) (x2 : Int32) (t : Int32), f_X9_greatestNow_L4 n σ k x1 x2 = some t → t = t0 → J X 4 [(0, .ref (Xad X k)), (1, .int x1), (2, .int x2)] [] σ := by
    intro x1 x2 t hf hp
    unfold f_X9_greatestNow_L4 at hf
    refine J_iter (JJ := fun (s : Int32 × Int32) => J X 4 [(0, .ref (Xad X k)), (1, .int (s.1)), (2, .int (s.2))] [] σ) (Ps := fun t => t = t0) ?_ n (x1, x2) t hf hp
    clear hf hp
    intro s t hf hp hq
    obtain ⟨x1, x2⟩ := s
    have hp := And.intro hp hq
    clear hq
    have hf : f_X9_greatestNow_B4 n σ k x1 x2 = some t := hf
    show J X 4 [(0, .ref (Xad X k)), (1, .int x1), (2, .int x2)] [] σ
    unfold f_X9_greatestNow_B4 at hf
    refine J.iload_n (pc := 4) C dX9_greatestNow_4 rfl 2 rfl ?_
    refine J.aload_n (pc := 5) C dX9_greatestNow_5 rfl 0 rfl ?_
    refine J.getR (pc := 6) C kcX9 hk 0 rfl tw_755 rfl dX9_greatestNow_6 ?_
    refine J.sipush (pc := 9) C (v := 938) dX9_greatestNow_9 (by decide) ?_
    refine J.iald (pc := 12) C (ok_9_0 hcl hk) hf dX9_greatestNow_12 (fun hf => ?_)
    refine J.icmp_ge (pc := 13) C (tgt := 55) dX9_greatestNow_13 (by decide) hf (fun hf => ?_) (fun hf => ?_)
    · refine J.iload_n (pc := 55) C dX9_greatestNow_55 rfl 1 rfl ?_
      exact J.iretP (pc := 56) C hR ((hp.1 _ (Option.some.inj hf).symm)) dX9_greatestNow_56
    · refine J.aload_n (pc := 16) C dX9_greatestNow_16 rfl 0 rfl ?_
      refine J.getR (pc := 17) C kcX9 hk 0 rfl tw_755 rfl dX9_greatestNow_17 ?_
      refine J.bipush (pc := 20) C (v := 12) dX9_greatestNow_20 (by decide) ?_
      refine J.iload_n (pc := 22) C dX9_greatestNow_22 rfl 2 rfl ?_
      refine J.imul (pc := 23) C dX9_greatestNow_23 ?_
      refine J.bipush (pc := 24) C (v := 9) dX9_greatestNow_24 (by decide) ?_
      refine J.iadd (pc := 26) C dX9_greatestNow_26 ?_
      refine J.iald (pc := 27) C (ok_9_0 hcl hk) hf dX9_greatestNow_27 (fun hf => ?_)
      refine J.iload_n (pc := 28) C dX9_greatestNow_28 rfl 1 rfl ?_
      refine J.icmp_le (pc := 29) C (tgt := 47) dX9_greatestNow_29 (by decide) hf (fun hf => ?_) (fun hf => ?_)
      · refine J.iload_n (pc := 47) C dX9_greatestNow_47 rfl 1 rfl ?_
        refine J.istore_n (pc := 48) C (loc' := [(1, .int x1), (0, .ref (Xad X k)), (2, .int x2)]) dX9_greatestNow_48 rfl (by decide) rfl ?_
        obtain ⟨x2_1, hx_x2_1, hf⟩ := nm_some hf
        refine J.iinc (pc := 49) C (v := x2_1) (loc' := [(2, .int x2_1), (1, .int x1), (0, .ref (Xad X k))]) dX9_greatestNow_49 (k := 2) rfl (by rw [hx_x2_1]; rfl) (by decide) rfl ?_
        refine J.goto (pc := 52) C (tgt := 4) dX9_greatestNow_52 (by decide) ?_
        exact J.sub (loc' := [(0, .ref (Xad X k)), (1, .int x1), (2, .int x2_1)]) [2, 1, 0] rfl (hp.2 _ (Option.some.inj hf).symm)
      · refine J.aload_n (pc := 32) C dX9_greatestNow_32 rfl 0 rfl ?_
        refine J.getR (pc := 33) C kcX9 hk 0 rfl tw_755 rfl dX9_greatestNow_33 ?_
        refine J.bipush (pc := 36) C (v := 12) dX9_greatestNow_36 (by decide) ?_
        refine J.iload_n (pc := 38) C dX9_greatestNow_38 rfl 2 rfl ?_
        refine J.imul (pc := 39) C dX9_greatestNow_39 ?_
        refine J.bipush (pc := 40) C (v := 9) dX9_greatestNow_40 (by decide) ?_
        refine J.iadd (pc := 42) C dX9_greatestNow_42 ?_
        refine J.iald (pc := 43) C (ok_9_0 hcl hk) hf dX9_greatestNow_43 (fun hf => ?_)
        refine J.goto (pc := 44) C (tgt := 48) dX9_greatestNow_44 (by decide) ?_
        refine J.nmI hf (fun x1_2 hf => ?_)
        refine J.istore_n (pc := 48) C (loc' := [(1, .int x1_2), (0, .ref (Xad X k)), (2, .int x2)]) dX9_greatestNow_48 rfl (by decide) rfl ?_
        obtain ⟨x2_3, hx_x2_3, hf⟩ := nm_some hf
        refine J.iinc (pc := 49) C (v := x2_3) (loc' := [(2, .int x2_3), (1, .int x1_2), (0, .ref (Xad X k))]) dX9_greatestNow_49 (k := 2) rfl (by rw [hx_x2_3]; rfl) (by decide) rfl ?_
        refine J.goto (pc := 52) C (tgt := 4) dX9_greatestNow_52 (by decide) ?_
        exact J.sub (loc' := [(0, .ref (Xad X k)), (1, .int x1_2), (2, .int x2_3)]) [2, 1, 0] rfl (hp.2 _ (Option.some.inj hf).symm)
  have hp : t0 = t0 := rfl
  show J X 0 [(0, .ref (Xad X k))] [] σ
  unfold f_X9_greatestNow at hf
  refine J.iconst (pc := 0) C (v := 0) dX9_greatestNow_0 (by decide) ?_
  refine J.istore_n (pc := 1) C (loc' := [(1, .int 0), (0, .ref (Xad X k))]) dX9_greatestNow_1 rfl (by decide) rfl ?_
  refine J.iconst (pc := 2) C (v := 0) dX9_greatestNow_2 (by decide) ?_
  refine J.istore_n (pc := 3) C (loc' := [(2, .int 0), (1, .int 0), (0, .ref (Xad X k))]) dX9_greatestNow_3 rfl (by decide) rfl ?_
  exact J.sub (loc' := [(0, .ref (Xad X k)), (1, .int 0), (2, .int 0)]) [2, 1, 0] rfl (L4 0 0 _ hf hp)
set_option maxHeartbeats 4000000 in
set_option maxRecDepth 100000 in
theorem m_X9_ahead {l : Launch} {n : Nat} {σ : Mem} {k : Nat} {x1 : Int32} {x2 : Int32} {x3 : Int32} {t0 : (Int32 × Mem)} (hf : f_X9_ahead n σ k x1 x2 x3 = some t0) : Ct l yX9_ahead cX9_ahead 12 (some FieldType.int) 3 68 (fun ks => Ok ks k 9) (fun ad => [.ref (ad k), .int x1, .int x2, .int x3]) σ (fun _ => some (.int t0.1)) t0.2 := by
  refine Ct.of (plainFor_of_name (by decide)) (fun _ => Nat.le_of_ble_eq_true rfl) ?_
  intro X C _ hk hcl hR
  have C : Cx X RX9 cX9_ahead 12 (some FieldType.int) 3 68 := C
  have L169 : ∀ (σ : Mem) (x1 : Int32) (x3 : Int32) (x4 : Int32) (x5 : Int32) (x6 : Int32) (x8 : Int32) (x9 : Int32) (y0 : Int32) (t : ((Int32 × Mem) ⊕ (Mem × Int32 × Int32 × Int32 × Int32 × Int32))), f_X9_ahead_L169 n σ k x1 x3 x4 x5 x6 x8 x9 y0 = some t → ((∀ r1, t = .inl r1 → r1 = t0) ∧ (∀ s1, t = .inr s1 → J X 75 [(0, .ref (Xad X k)), (1, .int x1), (3, .int x3), (4, .int x4), (5, .int (s1.2.1)), (6, .int (s1.2.2.1)), (7, .int (s1.2.2.2.1)), (8, .int (s1.2.2.2.2.1)), (9, .int (s1.2.2.2.2.2))] [] s1.1)) → J X 169 [(0, .ref (Xad X k)), (1, .int x1), (3, .int x3), (4, .int x4), (5, .int x5), (6, .int x6), (8, .int x8), (9, .int x9)] [.int y0] σ := by
    intro σ x1 x3 x4 x5 x6 x8 x9 y0 t hf hp
    unfold f_X9_ahead_L169 at hf
    refine J.istore (pc := 169) C (loc' := [(7, .int y0), (0, .ref (Xad X k)), (1, .int x1), (3, .int x3), (4, .int x4), (5, .int x5), (6, .int x6), (8, .int x8), (9, .int x9)]) dX9_ahead_169 (by decide) rfl ?_
    refine J.aload_n (pc := 171) C dX9_ahead_171 rfl 1 rfl ?_
    obtain ⟨r_19, h_18, hf⟩ := bnd_some hf
    refine J.callV (pc := 172) C (m_X9_greatestNow h_18) hk wyX9_greatestNow tvX9_greatestNow_i tvX9_greatestNow_s tw_946 kcX9 rfl hk [] [] rfl rfl (Nat.le_of_ble_eq_true rfl) (Nat.le_of_ble_eq_true rfl) (Nat.le_of_ble_eq_true rfl) (stk' := [.int r_19]) rfl dX9_ahead_172 rfl ?_
    refine J.istore (pc := 175) C (loc' := [(11, .int r_19), (7, .int y0), (0, .ref (Xad X k)), (1, .int x1), (3, .int x3), (4, .int x4), (5, .int x5), (6, .int x6), (8, .int x8), (9, .int x9)]) dX9_ahead_175 (by decide) rfl ?_
    refine J.iload (pc := 177) C dX9_ahead_177 0 rfl ?_
    refine J.iload (pc := 179) C dX9_ahead_179 8 rfl ?_
    refine J.icmp_le (pc := 181) C (tgt := 189) dX9_ahead_181 (by decide) hf (fun hf => ?_) (fun hf => ?_)
    · refine J.iload (pc := 189) C dX9_ahead_189 8 rfl ?_
      refine J.istore (pc := 191) C (loc' := [(8, .int x8), (11, .int r_19), (7, .int y0), (0, .ref (Xad X k)), (1, .int x1), (3, .int x3), (4, .int x4), (5, .int x5), (6, .int x6), (9, .int x9)]) dX9_ahead_191 (by decide) rfl ?_
      obtain ⟨x9_20, hx_x9_20, hf⟩ := nm_some hf
      refine J.iinc (pc := 193) C (v := x9_20) (loc' := [(9, .int x9_20), (8, .int x8), (11, .int r_19), (7, .int y0), (0, .ref (Xad X k)), (1, .int x1), (3, .int x3), (4, .int x4), (5, .int x5), (6, .int x6)]) dX9_ahead_193 (k := 9) rfl (by rw [hx_x9_20]; rfl) (by decide) rfl ?_
      refine J.goto (pc := 196) C (tgt := 75) dX9_ahead_196 (by decide) ?_
      exact J.sub (loc' := [(0, .ref (Xad X k)), (1, .int x1), (3, .int x3), (4, .int x4), (5, .int x5), (6, .int x6), (7, .int y0), (8, .int x8), (9, .int x9_20)]) [4, 5, 6, 7, 8, 9, 3, 1, 0] rfl (hp.2 _ (Option.some.inj hf).symm)
    · refine J.iload (pc := 184) C dX9_ahead_184 0 rfl ?_
      refine J.goto (pc := 186) C (tgt := 191) dX9_ahead_186 (by decide) ?_
      refine J.istore (pc := 191) C (loc' := [(8, .int r_19), (11, .int r_19), (7, .int y0), (0, .ref (Xad X k)), (1, .int x1), (3, .int x3), (4, .int x4), (5, .int x5), (6, .int x6), (9, .int x9)]) dX9_ahead_191 (by decide) rfl ?_
      obtain ⟨x9_21, hx_x9_21, hf⟩ := nm_some hf
      refine J.iinc (pc := 193) C (v := x9_21) (loc' := [(9, .int x9_21), (8, .int r_19), (11, .int r_19), (7, .int y0), (0, .ref (Xad X k)), (1, .int x1), (3, .int x3), (4, .int x4), (5, .int x5), (6, .int x6)]) dX9_ahead_193 (k := 9) rfl (by rw [hx_x9_21]; rfl) (by decide) rfl ?_
      refine J.goto (pc := 196) C (tgt := 75) dX9_ahead_196 (by decide) ?_
      exact J.sub (loc' := [(0, .ref (Xad X k)), (1, .int x1), (3, .int x3), (4, .int x4), (5, .int x5), (6, .int x6), (7, .int y0), (8, .int r_19), (9, .int x9_21)]) [4, 5, 6, 7, 8, 9, 3, 1, 0] rfl (hp.2 _ (Option.some.inj hf).symm)
  have L167 : ∀ (σ : Mem) (x1 : Int32) (x3 : Int32) (x4 : Int32) (x5 : Int32) (x6 : Int32) (x7 : Int32) (x8 : Int32) (x9 : Int32) (t : ((Int32 × Mem) ⊕ (Mem × Int32 × Int32 × Int32 × Int32 × Int32))), f_X9_ahead_L167 n σ k x1 x3 x4 x5 x6 x7 x8 x9 = some t → ((∀ r1, t = .inl r1 → r1 = t0) ∧ (∀ s1, t = .inr s1 → J X 75 [(0, .ref (Xad X k)), (1, .int x1), (3, .int x3), (4, .int x4), (5, .int (s1.2.1)), (6, .int (s1.2.2.1)), (7, .int (s1.2.2.2.1)), (8, .int (s1.2.2.2.2.1)), (9, .int (s1.2.2.2.2.2))] [] s1.1)) → J X 167 [(0, .ref (Xad X k)), (1, .int x1), (3, .int x3), (4, .int x4), (5, .int x5), (6, .int x6), (7, .int x7), (8, .int x8), (9, .int x9)] [] σ := by
    intro σ x1 x3 x4 x5 x6 x7 x8 x9 t hf hp
    unfold f_X9_ahead_L167 at hf
    refine J.iload (pc := 167) C dX9_ahead_167 6 rfl ?_
    exact J.sub (loc' := [(0, .ref (Xad X k)), (1, .int x1), (3, .int x3), (4, .int x4), (5, .int x5), (6, .int x6), (8, .int x8), (9, .int x9)]) [0, 1, 2, 3, 4, 5, 7, 8] rfl (L169 σ x1 x3 x4 x5 x6 x8 x9 x7 _ hf hp)
  have L124 : ∀ (σ : Mem) (x1 : Int32) (x3 : Int32) (x4 : Int32) (x6 : Int32) (x7 : Int32) (x8 : Int32) (x9 : Int32) (x10 : Int32) (y0 : Int32) (t : ((Int32 × Mem) ⊕ (Mem × Int32 × Int32 × Int32 × Int32 × Int32))), f_X9_ahead_L124 n σ k x1 x3 x4 x6 x7 x8 x9 x10 y0 = some t → ((∀ r1, t = .inl r1 → r1 = t0) ∧ (∀ s1, t = .inr s1 → J X 75 [(0, .ref (Xad X k)), (1, .int x1), (3, .int x3), (4, .int x4), (5, .int (s1.2.1)), (6, .int (s1.2.2.1)), (7, .int (s1.2.2.2.1)), (8, .int (s1.2.2.2.2.1)), (9, .int (s1.2.2.2.2.2))] [] s1.1)) → J X 124 [(0, .ref (Xad X k)), (1, .int x1), (3, .int x3), (4, .int x4), (6, .int x6), (7, .int x7), (8, .int x8), (9, .int x9), (10, .int x10)] [.int y0] σ := by
    intro σ x1 x3 x4 x6 x7 x8 x9 x10 y0 t hf hp
    unfold f_X9_ahead_L124 at hf
    refine J.istore (pc := 124) C (loc' := [(5, .int y0), (0, .ref (Xad X k)), (1, .int x1), (3, .int x3), (4, .int x4), (6, .int x6), (7, .int x7), (8, .int x8), (9, .int x9), (10, .int x10)]) dX9_ahead_124 (by decide) rfl ?_
    refine J.iload (pc := 126) C dX9_ahead_126 5 rfl ?_
    refine J.aload_n (pc := 128) C dX9_ahead_128 rfl 1 rfl ?_
    refine J.getR (pc := 129) C kcX9 hk 0 rfl tw_755 rfl dX9_ahead_129 ?_
    refine J.iload (pc := 132) C dX9_ahead_132 4 rfl ?_
    refine J.iconst (pc := 134) C (v := 4) dX9_ahead_134 (by decide) ?_
    refine J.iadd (pc := 135) C dX9_ahead_135 ?_
    refine J.iald (pc := 136) C (ok_9_0 hcl hk) hf dX9_ahead_136 (fun hf => ?_)
    refine J.iload (pc := 137) C dX9_ahead_137 9 rfl ?_
    refine J.isub (pc := 139) C dX9_ahead_139 ?_
    refine J.iadd (pc := 140) C dX9_ahead_140 ?_
    refine J.nmI hf (fun x6_17 hf => ?_)
    refine J.istore (pc := 141) C (loc' := [(6, .int x6_17), (5, .int y0), (0, .ref (Xad X k)), (1, .int x1), (3, .int x3), (4, .int x4), (7, .int x7), (8, .int x8), (9, .int x9), (10, .int x10)]) dX9_ahead_141 (by decide) rfl ?_
    refine J.iload (pc := 143) C dX9_ahead_143 6 rfl ?_
    refine J.if_ge (pc := 145) C (tgt := 167) dX9_ahead_145 (by decide) hf (fun hf => ?_) (fun hf => ?_)
    · exact J.sub (loc' := [(0, .ref (Xad X k)), (1, .int x1), (3, .int x3), (4, .int x4), (5, .int y0), (6, .int x6_17), (7, .int x7), (8, .int x8), (9, .int x9)]) [2, 3, 4, 5, 1, 0, 6, 7, 8] rfl (L167 σ x1 x3 x4 y0 x6_17 x7 x8 x9 _ hf hp)
    · refine J.aload_n (pc := 148) C dX9_ahead_148 rfl 2 rfl ?_
      refine J.getR (pc := 149) C kcX9 hk 0 rfl tw_755 rfl dX9_ahead_149 ?_
      refine J.iload (pc := 152) C dX9_ahead_152 5 rfl ?_
      refine J.iconst (pc := 154) C (v := 4) dX9_ahead_154 (by decide) ?_
      refine J.iadd (pc := 155) C dX9_ahead_155 ?_
      refine J.iald (pc := 156) C (ok_9_0 hcl hk) hf dX9_ahead_156 (fun hf => ?_)
      refine J.iload (pc := 157) C dX9_ahead_157 9 rfl ?_
      refine J.icmp_le (pc := 159) C (tgt := 167) dX9_ahead_159 (by decide) hf (fun hf => ?_) (fun hf => ?_)
      · exact J.sub (loc' := [(0, .ref (Xad X k)), (1, .int x1), (3, .int x3), (4, .int x4), (5, .int y0), (6, .int x6_17), (7, .int x7), (8, .int x8), (9, .int x9)]) [2, 3, 4, 5, 1, 0, 6, 7, 8] rfl (L167 σ x1 x3 x4 y0 x6_17 x7 x8 x9 _ hf hp)
      · refine J.iload (pc := 162) C dX9_ahead_162 8 rfl ?_
        refine J.goto (pc := 164) C (tgt := 169) dX9_ahead_164 (by decide) ?_
        exact J.sub (loc' := [(0, .ref (Xad X k)), (1, .int x1), (3, .int x3), (4, .int x4), (5, .int y0), (6, .int x6_17), (8, .int x8), (9, .int x9)]) [2, 3, 4, 5, 1, 0, 7, 8] rfl (L169 σ x1 x3 x4 y0 x6_17 x8 x9 x9 _ hf hp)
  have L75 : ∀ (σ : Mem) (x1 : Int32) (x3 : Int32) (x4 : Int32) (x5 : Int32) (x6 : Int32) (x7 : Int32) (x8 : Int32) (x9 : Int32) (t : (Int32 × Mem)), f_X9_ahead_L75 n σ k x1 x3 x4 x5 x6 x7 x8 x9 = some t → t = t0 → J X 75 [(0, .ref (Xad X k)), (1, .int x1), (3, .int x3), (4, .int x4), (5, .int x5), (6, .int x6), (7, .int x7), (8, .int x8), (9, .int x9)] [] σ := by
    intro σ x1 x3 x4 x5 x6 x7 x8 x9 t hf hp
    unfold f_X9_ahead_L75 at hf
    refine J_iter (JJ := fun (s : Mem × Int32 × Int32 × Int32 × Int32 × Int32) => J X 75 [(0, .ref (Xad X k)), (1, .int x1), (3, .int x3), (4, .int x4), (5, .int (s.2.1)), (6, .int (s.2.2.1)), (7, .int (s.2.2.2.1)), (8, .int (s.2.2.2.2.1)), (9, .int (s.2.2.2.2.2))] [] s.1) (Ps := fun t => t = t0) ?_ n (σ, x5, x6, x7, x8, x9) t hf hp
    clear hf hp
    intro s t hf hp hq
    obtain ⟨σ, x5, x6, x7, x8, x9⟩ := s
    have hp := And.intro hp hq
    clear hq
    have hf : f_X9_ahead_B75 n σ k x1 x3 x4 x5 x6 x7 x8 x9 = some t := hf
    show J X 75 [(0, .ref (Xad X k)), (1, .int x1), (3, .int x3), (4, .int x4), (5, .int x5), (6, .int x6), (7, .int x7), (8, .int x8), (9, .int x9)] [] σ
    unfold f_X9_ahead_B75 at hf
    refine J.iload (pc := 75) C dX9_ahead_75 8 rfl ?_
    refine J.iload_n (pc := 77) C dX9_ahead_77 rfl 1 rfl ?_
    refine J.icmp_ge (pc := 78) C (tgt := 199) dX9_ahead_78 (by decide) hf (fun hf => ?_) (fun hf => ?_)
    · refine J.aload_n (pc := 199) C dX9_ahead_199 rfl 0 rfl ?_
      refine J.getR (pc := 200) C kcX9 hk 0 rfl tw_755 rfl dX9_ahead_200 ?_
      refine J.sipush (pc := 203) C (v := 939) dX9_ahead_203 (by decide) ?_
      refine J.iald (pc := 206) C (ok_9_0 hcl hk) hf dX9_ahead_206 (fun hf => ?_)
      refine J.aload_n (pc := 207) C dX9_ahead_207 rfl 0 rfl ?_
      refine J.getR (pc := 208) C kcX9 hk 1 rfl tw_756 rfl dX9_ahead_208 ?_
      refine J.sipush (pc := 211) C (v := 939) dX9_ahead_211 (by decide) ?_
      refine J.iald (pc := 214) C (ok_9_1 hcl hk) hf dX9_ahead_214 (fun hf => ?_)
      refine J.isub (pc := 215) C dX9_ahead_215 ?_
      refine J.nmI hf (fun x9_9 hf => ?_)
      refine J.istore (pc := 216) C (loc' := [(9, .int x9_9), (0, .ref (Xad X k)), (1, .int x1), (3, .int x3), (4, .int x4), (5, .int x5), (6, .int x6), (7, .int x7), (8, .int x8)]) dX9_ahead_216 (by decide) rfl ?_
      refine J.aload_n (pc := 218) C dX9_ahead_218 rfl 1 rfl ?_
      obtain ⟨σ_12, h_10, hf⟩ := bnd_some hf
      refine J.callV (pc := 219) C (m_X9_putBack h_10) hk wyX9_putBack tvX9_putBack_i tvX9_putBack_s tw_950 kcX9 rfl hk [] [] rfl rfl (Nat.le_of_ble_eq_true rfl) (Nat.le_of_ble_eq_true rfl) (Nat.le_of_ble_eq_true rfl) (stk' := []) rfl dX9_ahead_219 rfl ?_
      refine J.iload_n (pc := 222) C dX9_ahead_222 rfl 3 rfl ?_
      refine J.if_ne (pc := 223) C (tgt := 231) dX9_ahead_223 (by decide) hf (fun hf => ?_) (fun hf => ?_)
      · refine J.iload_n (pc := 231) C dX9_ahead_231 rfl 3 rfl ?_
        refine J.iconst (pc := 232) C (v := 1) dX9_ahead_232 (by decide) ?_
        refine J.icmp_ne (pc := 233) C (tgt := 241) dX9_ahead_233 (by decide) hf (fun hf => ?_) (fun hf => ?_)
        · refine J.iload_n (pc := 241) C dX9_ahead_241 rfl 3 rfl ?_
          refine J.iconst (pc := 242) C (v := 2) dX9_ahead_242 (by decide) ?_
          refine J.icmp_ne (pc := 243) C (tgt := 251) dX9_ahead_243 (by decide) hf (fun hf => ?_) (fun hf => ?_)
          · refine J.iload_n (pc := 251) C dX9_ahead_251 rfl 3 rfl ?_
            refine J.iconst (pc := 252) C (v := 3) dX9_ahead_252 (by decide) ?_
            refine J.icmp_ne (pc := 253) C (tgt := 261) dX9_ahead_253 (by decide) hf (fun hf => ?_) (fun hf => ?_)
            · refine J.iload (pc := 261) C dX9_ahead_261 8 rfl ?_
              exact J.iretM (pc := 263) C hR ((hp.1 _ (Option.some.inj hf).symm)) dX9_ahead_263
            · refine J.iload (pc := 256) C dX9_ahead_256 0 rfl ?_
              refine J.goto (pc := 258) C (tgt := 263) dX9_ahead_258 (by decide) ?_
              exact J.iretM (pc := 263) C hR ((hp.1 _ (Option.some.inj hf).symm)) dX9_ahead_263
          · refine J.iload (pc := 246) C dX9_ahead_246 7 rfl ?_
            refine J.goto (pc := 248) C (tgt := 263) dX9_ahead_248 (by decide) ?_
            exact J.iretM (pc := 263) C hR ((hp.1 _ (Option.some.inj hf).symm)) dX9_ahead_263
        · refine J.iload (pc := 236) C dX9_ahead_236 6 rfl ?_
          refine J.goto (pc := 238) C (tgt := 263) dX9_ahead_238 (by decide) ?_
          exact J.iretM (pc := 263) C hR ((hp.1 _ (Option.some.inj hf).symm)) dX9_ahead_263
      · refine J.iload (pc := 226) C dX9_ahead_226 5 rfl ?_
        refine J.goto (pc := 228) C (tgt := 263) dX9_ahead_228 (by decide) ?_
        exact J.iretM (pc := 263) C hR ((hp.1 _ (Option.some.inj hf).symm)) dX9_ahead_263
    · refine J.aload_n (pc := 81) C dX9_ahead_81 rfl 0 rfl ?_
      refine J.getR (pc := 82) C kcX9 hk 0 rfl tw_755 rfl dX9_ahead_82 ?_
      refine J.iload (pc := 85) C dX9_ahead_85 3 rfl ?_
      refine J.iconst (pc := 87) C (v := 4) dX9_ahead_87 (by decide) ?_
      refine J.iadd (pc := 88) C dX9_ahead_88 ?_
      refine J.iald (pc := 89) C (ok_9_0 hcl hk) hf dX9_ahead_89 (fun hf => ?_)
      refine J.nmI hf (fun x10_13 hf => ?_)
      refine J.istore (pc := 90) C (loc' := [(10, .int x10_13), (0, .ref (Xad X k)), (1, .int x1), (3, .int x3), (4, .int x4), (5, .int x5), (6, .int x6), (7, .int x7), (8, .int x8), (9, .int x9)]) dX9_ahead_90 (by decide) rfl ?_
      refine J.aload_n (pc := 92) C dX9_ahead_92 rfl 1 rfl ?_
      obtain ⟨σ_16, h_14, hf⟩ := bnd_some hf
      refine J.callV (pc := 93) C (m_X9_makeTick h_14) hk wyX9_makeTick tvX9_makeTick_i tvX9_makeTick_s tw_885 kcX9 rfl hk [] [] rfl rfl (Nat.le_of_ble_eq_true rfl) (Nat.le_of_ble_eq_true rfl) (Nat.le_of_ble_eq_true rfl) (stk' := []) rfl dX9_ahead_93 rfl ?_
      refine J.aload_n (pc := 96) C dX9_ahead_96 rfl 1 rfl ?_
      refine J.getR (pc := 97) C kcX9 hk 0 rfl tw_755 rfl dX9_ahead_97 ?_
      refine J.iload (pc := 100) C dX9_ahead_100 4 rfl ?_
      refine J.iconst (pc := 102) C (v := 3) dX9_ahead_102 (by decide) ?_
      refine J.iadd (pc := 103) C dX9_ahead_103 ?_
      refine J.iald (pc := 104) C (ok_9_0 hcl hk) hf dX9_ahead_104 (fun hf => ?_)
      refine J.iload (pc := 105) C dX9_ahead_105 5 rfl ?_
      refine J.icmp_le (pc := 107) C (tgt := 122) dX9_ahead_107 (by decide) hf (fun hf => ?_) (fun hf => ?_)
      · refine J.iload (pc := 122) C dX9_ahead_122 5 rfl ?_
        exact J.sub (loc' := [(0, .ref (Xad X k)), (1, .int x1), (3, .int x3), (4, .int x4), (6, .int x6), (7, .int x7), (8, .int x8), (9, .int x9), (10, .int x10_13)]) [1, 2, 3, 4, 6, 7, 8, 9, 0] rfl (L124 σ_16 x1 x3 x4 x6 x7 x8 x9 x10_13 x5 _ hf hp)
      · refine J.aload_n (pc := 110) C dX9_ahead_110 rfl 1 rfl ?_
        refine J.getR (pc := 111) C kcX9 hk 0 rfl tw_755 rfl dX9_ahead_111 ?_
        refine J.iload (pc := 114) C dX9_ahead_114 4 rfl ?_
        refine J.iconst (pc := 116) C (v := 3) dX9_ahead_116 (by decide) ?_
        refine J.iadd (pc := 117) C dX9_ahead_117 ?_
        refine J.iald (pc := 118) C (ok_9_0 hcl hk) hf dX9_ahead_118 (fun hf => ?_)
        refine J.goto (pc := 119) C (tgt := 124) dX9_ahead_119 (by decide) ?_
        exact J.sub (loc' := [(0, .ref (Xad X k)), (1, .int x1), (3, .int x3), (4, .int x4), (6, .int x6), (7, .int x7), (8, .int x8), (9, .int x9), (10, .int x10_13)]) [1, 2, 3, 4, 6, 7, 8, 9, 0] rfl (L124 σ_16 x1 x3 x4 x6 x7 x8 x9 x10_13 (σ_16 (ptr k 0) (ix (x4 + 3))) _ hf hp)
  have L55 : ∀ (σ : Mem) (x1 : Int32) (x3 : Int32) (y0 : Int32) (y1 : Int32) (y2 : Int32) (t : (Int32 × Mem)), f_X9_ahead_L55 n σ k x1 x3 y0 y1 y2 = some t → t = t0 → J X 55 [(0, .ref (Xad X k)), (1, .int x1), (3, .int x3)] [.int y0, .int y1, .int y2] σ := by
    intro σ x1 x3 y0 y1 y2 t hf hp
    unfold f_X9_ahead_L55 at hf
    refine J.imul (pc := 55) C dX9_ahead_55 ?_
    refine J.iadd (pc := 56) C dX9_ahead_56 ?_
    refine J.nmI hf (fun x4_8 hf => ?_)
    refine J.istore (pc := 57) C (loc' := [(4, .int x4_8), (0, .ref (Xad X k)), (1, .int x1), (3, .int x3)]) dX9_ahead_57 (by decide) rfl ?_
    refine J.iconst (pc := 59) C (v := 0) dX9_ahead_59 (by decide) ?_
    refine J.istore (pc := 60) C (loc' := [(5, .int 0), (4, .int x4_8), (0, .ref (Xad X k)), (1, .int x1), (3, .int x3)]) dX9_ahead_60 (by decide) rfl ?_
    refine J.iconst (pc := 62) C (v := 0) dX9_ahead_62 (by decide) ?_
    refine J.istore (pc := 63) C (loc' := [(6, .int 0), (5, .int 0), (4, .int x4_8), (0, .ref (Xad X k)), (1, .int x1), (3, .int x3)]) dX9_ahead_63 (by decide) rfl ?_
    refine J.bipush (pc := 65) C (v := (-6)) dX9_ahead_65 (by decide) ?_
    refine J.istore (pc := 67) C (loc' := [(7, .int (-6)), (6, .int 0), (5, .int 0), (4, .int x4_8), (0, .ref (Xad X k)), (1, .int x1), (3, .int x3)]) dX9_ahead_67 (by decide) rfl ?_
    refine J.iconst (pc := 69) C (v := 0) dX9_ahead_69 (by decide) ?_
    refine J.istore (pc := 70) C (loc' := [(8, .int 0), (7, .int (-6)), (6, .int 0), (5, .int 0), (4, .int x4_8), (0, .ref (Xad X k)), (1, .int x1), (3, .int x3)]) dX9_ahead_70 (by decide) rfl ?_
    refine J.iconst (pc := 72) C (v := 0) dX9_ahead_72 (by decide) ?_
    refine J.istore (pc := 73) C (loc' := [(9, .int 0), (8, .int 0), (7, .int (-6)), (6, .int 0), (5, .int 0), (4, .int x4_8), (0, .ref (Xad X k)), (1, .int x1), (3, .int x3)]) dX9_ahead_73 (by decide) rfl ?_
    exact J.sub (loc' := [(0, .ref (Xad X k)), (1, .int x1), (3, .int x3), (4, .int x4_8), (5, .int 0), (6, .int 0), (7, .int (-6)), (8, .int 0), (9, .int 0)]) [6, 7, 8, 5, 4, 3, 2, 1, 0] rfl (L75 σ x1 x3 x4_8 0 0 (-6) 0 0 _ hf hp)
  have L37 : ∀ (σ : Mem) (x1 : Int32) (x2 : Int32) (x3 : Int32) (t : (Int32 × Mem)), f_X9_ahead_L37 n σ k x1 x2 x3 = some t → t = t0 → J X 37 [(0, .ref (Xad X k)), (1, .int x1), (2, .int x2), (3, .int x3)] [] σ := by
    intro σ x1 x2 x3 t hf hp
    unfold f_X9_ahead_L37 at hf
    refine J.aload_n (pc := 37) C dX9_ahead_37 rfl 0 rfl ?_
    obtain ⟨σ_7, h_5, hf⟩ := bnd_some hf
    refine J.callV (pc := 38) C (m_X9_putAside h_5) hk wyX9_putAside tvX9_putAside_i tvX9_putAside_s tw_942 kcX9 rfl hk [] [] rfl rfl (Nat.le_of_ble_eq_true rfl) (Nat.le_of_ble_eq_true rfl) (Nat.le_of_ble_eq_true rfl) (stk' := []) rfl dX9_ahead_38 rfl ?_
    refine J.sipush (pc := 41) C (v := 912) dX9_ahead_41 (by decide) ?_
    refine J.iconst (pc := 44) C (v := 5) dX9_ahead_44 (by decide) ?_
    refine J.iload_n (pc := 45) C dX9_ahead_45 rfl 3 rfl ?_
    refine J.iconst (pc := 46) C (v := 3) dX9_ahead_46 (by decide) ?_
    refine J.icmp_ge (pc := 47) C (tgt := 54) dX9_ahead_47 (by decide) hf (fun hf => ?_) (fun hf => ?_)
    · refine J.iconst (pc := 54) C (v := 0) dX9_ahead_54 (by decide) ?_
      exact J.sub (loc' := [(0, .ref (Xad X k)), (1, .int x1), (3, .int x3)]) [0, 1, 3] rfl (L55 σ_7 x1 x3 0 5 912 _ hf hp)
    · refine J.iload_n (pc := 50) C dX9_ahead_50 rfl 2 rfl ?_
      refine J.goto (pc := 51) C (tgt := 55) dX9_ahead_51 (by decide) ?_
      exact J.sub (loc' := [(0, .ref (Xad X k)), (1, .int x1), (3, .int x3)]) [0, 1, 3] rfl (L55 σ_7 x1 x3 x2 5 912 _ hf hp)
  have hp : t0 = t0 := rfl
  show J X 0 [(0, .ref (Xad X k)), (1, .int x1), (2, .int x2), (3, .int x3)] [] σ
  unfold f_X9_ahead at hf
  refine J.iload_n (pc := 0) C dX9_ahead_0 rfl 1 rfl ?_
  refine J.iconst (pc := 1) C (v := 1) dX9_ahead_1 (by decide) ?_
  refine J.sipush (pc := 2) C (v := 1000) dX9_ahead_2 (by decide) ?_
  obtain ⟨r_2, h_1, hf⟩ := bnd_some hf
  refine J.callS (pc := 5) C (m_X9_in h_1) trivial wyX9_in tsX9_in tw_791 [.int x1, .int 1, .int 1000] [] rfl rfl (Nat.le_of_ble_eq_true rfl) (Nat.le_of_ble_eq_true rfl) (Nat.le_of_ble_eq_true rfl) (stk' := [.int r_2]) rfl dX9_ahead_5 rfl ?_
  refine J.if_eq (pc := 8) C (tgt := 20) dX9_ahead_8 (by decide) hf (fun hf => ?_) (fun hf => ?_)
  · refine J.bipush (pc := 20) C (v := (-2)) dX9_ahead_20 (by decide) ?_
    exact J.iretM (pc := 22) C hR ((Option.some.inj hf).trans hp) dX9_ahead_22
  · refine J.iload_n (pc := 11) C dX9_ahead_11 rfl 3 rfl ?_
    refine J.iconst (pc := 12) C (v := 0) dX9_ahead_12 (by decide) ?_
    refine J.iconst (pc := 13) C (v := 4) dX9_ahead_13 (by decide) ?_
    obtain ⟨r_4, h_3, hf⟩ := bnd_some hf
    refine J.callS (pc := 14) C (m_X9_in h_3) trivial wyX9_in tsX9_in tw_791 [.int x3, .int 0, .int 4] [] rfl rfl (Nat.le_of_ble_eq_true rfl) (Nat.le_of_ble_eq_true rfl) (Nat.le_of_ble_eq_true rfl) (stk' := [.int r_4]) rfl dX9_ahead_14 rfl ?_
    refine J.if_ne (pc := 17) C (tgt := 23) dX9_ahead_17 (by decide) hf (fun hf => ?_) (fun hf => ?_)
    · refine J.iload_n (pc := 23) C dX9_ahead_23 rfl 3 rfl ?_
      refine J.iconst (pc := 24) C (v := 3) dX9_ahead_24 (by decide) ?_
      refine J.icmp_ge (pc := 25) C (tgt := 37) dX9_ahead_25 (by decide) hf (fun hf => ?_) (fun hf => ?_)
      · exact J.sub (loc' := [(0, .ref (Xad X k)), (1, .int x1), (2, .int x2), (3, .int x3)]) [0, 1, 2, 3] rfl (L37 σ x1 x2 x3 _ hf hp)
      · refine J.iload_n (pc := 28) C dX9_ahead_28 rfl 2 rfl ?_
        obtain ⟨r_23, h_22, hf⟩ := bnd_some hf
        refine J.callS (pc := 29) C (m_X9_isPump h_22) trivial wyX9_isPump tsX9_isPump tw_813 [.int x2] [] rfl rfl (Nat.le_of_ble_eq_true rfl) (Nat.le_of_ble_eq_true rfl) (Nat.le_of_ble_eq_true rfl) (stk' := [.int r_23]) rfl dX9_ahead_29 rfl ?_
        refine J.if_ne (pc := 32) C (tgt := 37) dX9_ahead_32 (by decide) hf (fun hf => ?_) (fun hf => ?_)
        · exact J.sub (loc' := [(0, .ref (Xad X k)), (1, .int x1), (2, .int x2), (3, .int x3)]) [0, 1, 2, 3] rfl (L37 σ x1 x2 x3 _ hf hp)
        · refine J.iconst (pc := 35) C (v := (-1)) dX9_ahead_35 (by decide) ?_
          exact J.iretM (pc := 36) C hR ((Option.some.inj hf).trans hp) dX9_ahead_36
    · refine J.bipush (pc := 20) C (v := (-2)) dX9_ahead_20 (by decide) ?_
      exact J.iretM (pc := 22) C hR ((Option.some.inj hf).trans hp) dX9_ahead_22
set_option maxHeartbeats 4000000 in
set_option maxRecDepth 100000 in
theorem m_X9_shorts {l : Launch} {n : Nat} {σ : Mem} {k : Nat} {t0 : Int32} (hf : f_X9_shorts n σ k = some t0) : Ct l yX9_shorts cX9_shorts 3 (some FieldType.int) 0 0 (fun ks => Ok ks k 9) (fun ad => [.ref (ad k)]) σ (fun _ => some (.int t0)) σ := by
  refine Ct.of (plainFor_of_name (by decide)) (fun _ => Nat.le_of_ble_eq_true rfl) ?_
  intro X C _ hk hcl hR
  have C : Cx X RX9 cX9_shorts 3 (some FieldType.int) 0 0 := C
  have L4 : ∀ (x1 : Int32) (x2 : Int32) (t : Int32), f_X9_shorts_L4 n σ k x1 x2 = some t → t = t0 → J X 4 [(0, .ref (Xad X k)), (1, .int x1), (2, .int x2)] [] σ := by
    intro x1 x2 t hf hp
    unfold f_X9_shorts_L4 at hf
    refine J_iter (JJ := fun (s : Int32 × Int32) => J X 4 [(0, .ref (Xad X k)), (1, .int (s.1)), (2, .int (s.2))] [] σ) (Ps := fun t => t = t0) ?_ n (x1, x2) t hf hp
    clear hf hp
    intro s t hf hp hq
    obtain ⟨x1, x2⟩ := s
    have hp := And.intro hp hq
    clear hq
    have hf : f_X9_shorts_B4 n σ k x1 x2 = some t := hf
    show J X 4 [(0, .ref (Xad X k)), (1, .int x1), (2, .int x2)] [] σ
    unfold f_X9_shorts_B4 at hf
    refine J.iload_n (pc := 4) C dX9_shorts_4 rfl 2 rfl ?_
    refine J.iconst (pc := 5) C (v := 3) dX9_shorts_5 (by decide) ?_
    refine J.icmp_ge (pc := 6) C (tgt := 32) dX9_shorts_6 (by decide) hf (fun hf => ?_) (fun hf => ?_)
    · refine J.iload_n (pc := 32) C dX9_shorts_32 rfl 1 rfl ?_
      exact J.iretP (pc := 33) C hR ((hp.1 _ (Option.some.inj hf).symm)) dX9_shorts_33
    · refine J.iload_n (pc := 9) C dX9_shorts_9 rfl 1 rfl ?_
      refine J.aload_n (pc := 10) C dX9_shorts_10 rfl 0 rfl ?_
      refine J.getR (pc := 11) C kcX9 hk 0 rfl tw_755 rfl dX9_shorts_11 ?_
      refine J.sipush (pc := 14) C (v := 912) dX9_shorts_14 (by decide) ?_
      refine J.iconst (pc := 17) C (v := 5) dX9_shorts_17 (by decide) ?_
      refine J.iload_n (pc := 18) C dX9_shorts_18 rfl 2 rfl ?_
      refine J.imul (pc := 19) C dX9_shorts_19 ?_
      refine J.iadd (pc := 20) C dX9_shorts_20 ?_
      refine J.iconst (pc := 21) C (v := 4) dX9_shorts_21 (by decide) ?_
      refine J.iadd (pc := 22) C dX9_shorts_22 ?_
      refine J.iald (pc := 23) C (ok_9_0 hcl hk) hf dX9_shorts_23 (fun hf => ?_)
      refine J.iadd (pc := 24) C dX9_shorts_24 ?_
      refine J.nmI hf (fun x1_1 hf => ?_)
      refine J.istore_n (pc := 25) C (loc' := [(1, .int x1_1), (0, .ref (Xad X k)), (2, .int x2)]) dX9_shorts_25 rfl (by decide) rfl ?_
      obtain ⟨x2_2, hx_x2_2, hf⟩ := nm_some hf
      refine J.iinc (pc := 26) C (v := x2_2) (loc' := [(2, .int x2_2), (1, .int x1_1), (0, .ref (Xad X k))]) dX9_shorts_26 (k := 2) rfl (by rw [hx_x2_2]; rfl) (by decide) rfl ?_
      refine J.goto (pc := 29) C (tgt := 4) dX9_shorts_29 (by decide) ?_
      exact J.sub (loc' := [(0, .ref (Xad X k)), (1, .int x1_1), (2, .int x2_2)]) [2, 1, 0] rfl (hp.2 _ (Option.some.inj hf).symm)
  have hp : t0 = t0 := rfl
  show J X 0 [(0, .ref (Xad X k))] [] σ
  unfold f_X9_shorts at hf
  refine J.iconst (pc := 0) C (v := 0) dX9_shorts_0 (by decide) ?_
  refine J.istore_n (pc := 1) C (loc' := [(1, .int 0), (0, .ref (Xad X k))]) dX9_shorts_1 rfl (by decide) rfl ?_
  refine J.iconst (pc := 2) C (v := 0) dX9_shorts_2 (by decide) ?_
  refine J.istore_n (pc := 3) C (loc' := [(2, .int 0), (1, .int 0), (0, .ref (Xad X k))]) dX9_shorts_3 rfl (by decide) rfl ?_
  exact J.sub (loc' := [(0, .ref (Xad X k)), (1, .int 0), (2, .int 0)]) [2, 1, 0] rfl (L4 0 0 _ hf hp)
set_option maxHeartbeats 4000000 in
set_option maxRecDepth 100000 in
theorem m_X9_isEnough {l : Launch} {n : Nat} {σ : Mem} {k : Nat} {x1 : Int32} {t0 : (Int32 × Mem)} (hf : f_X9_isEnough n σ k x1 = some t0) : Ct l yX9_isEnough cX9_isEnough 4 (some FieldType.boolean) 3 68 (fun ks => Ok ks k 9) (fun ad => [.ref (ad k), .int x1]) σ (fun _ => some (.int t0.1)) t0.2 := by
  refine Ct.of (plainFor_of_name (by decide)) (fun _ => Nat.le_of_ble_eq_true rfl) ?_
  intro X C _ hk hcl hR
  have C : Cx X RX9 cX9_isEnough 4 (some FieldType.boolean) 3 68 := C
  have L30 : ∀ (σ : Mem) (x2 : Int32) (t : (Int32 × Mem)), f_X9_isEnough_L30 n σ k x2 = some t → t = t0 → J X 30 [(0, .ref (Xad X k)), (2, .int x2)] [] σ := by
    intro σ x2 t hf hp
    unfold f_X9_isEnough_L30 at hf
    refine J.aload_n (pc := 30) C dX9_isEnough_30 rfl 0 rfl ?_
    obtain ⟨r_4, h_3, hf⟩ := bnd_some hf
    refine J.callV (pc := 31) C (m_X9_shorts h_3) hk wyX9_shorts tvX9_shorts_i tvX9_shorts_s tw_962 kcX9 rfl hk [] [] rfl rfl (Nat.le_of_ble_eq_true rfl) (Nat.le_of_ble_eq_true rfl) (Nat.le_of_ble_eq_true rfl) (stk' := [.int r_4]) rfl dX9_isEnough_31 rfl ?_
    refine J.iload_n (pc := 34) C dX9_isEnough_34 rfl 1 rfl ?_
    refine J.icmp_ne (pc := 35) C (tgt := 42) dX9_isEnough_35 (by decide) hf (fun hf => ?_) (fun hf => ?_)
    · refine J.iconst (pc := 42) C (v := 0) dX9_isEnough_42 (by decide) ?_
      exact J.zretM (pc := 43) C rfl hR ((Option.some.inj hf).trans hp) dX9_isEnough_43
    · refine J.iconst (pc := 38) C (v := 1) dX9_isEnough_38 (by decide) ?_
      refine J.goto (pc := 39) C (tgt := 43) dX9_isEnough_39 (by decide) ?_
      exact J.zretM (pc := 43) C rfl hR ((Option.some.inj hf).trans hp) dX9_isEnough_43
  have L7 : ∀ (σ : Mem) (x1 : Int32) (x2 : Int32) (x3 : Int32) (t : (Int32 × Mem)), f_X9_isEnough_L7 n σ k x1 x2 x3 = some t → t = t0 → J X 7 [(0, .ref (Xad X k)), (1, .int x1), (2, .int x2), (3, .int x3)] [] σ := by
    intro σ x1 x2 x3 t hf hp
    unfold f_X9_isEnough_L7 at hf
    refine J_iter (JJ := fun (s : Mem × Int32) => J X 7 [(0, .ref (Xad X k)), (1, .int x1), (2, .int x2), (3, .int (s.2))] [] s.1) (Ps := fun t => t = t0) ?_ n (σ, x3) t hf hp
    clear hf hp
    intro s t hf hp hq
    obtain ⟨σ, x3⟩ := s
    have hp := And.intro hp hq
    clear hq
    have hf : f_X9_isEnough_B7 n σ k x1 x2 x3 = some t := hf
    show J X 7 [(0, .ref (Xad X k)), (1, .int x1), (2, .int x2), (3, .int x3)] [] σ
    unfold f_X9_isEnough_B7 at hf
    refine J.iload_n (pc := 7) C dX9_isEnough_7 rfl 3 rfl ?_
    refine J.iload_n (pc := 8) C dX9_isEnough_8 rfl 1 rfl ?_
    refine J.icmp_ge (pc := 9) C (tgt := 30) dX9_isEnough_9 (by decide) hf (fun hf => ?_) (fun hf => ?_)
    · obtain ⟨t0, hf, he⟩ := exi_some hf
      have hp := hp.1 _ he
      exact J.sub (loc' := [(0, .ref (Xad X k)), (2, .int x2)]) [0, 2] rfl (L30 σ x2 _ hf hp)
    · refine J.aload_n (pc := 12) C dX9_isEnough_12 rfl 0 rfl ?_
      obtain ⟨r_6, h_5, hf⟩ := bnd_some hf
      refine J.callV (pc := 13) C (m_X9_shorts h_5) hk wyX9_shorts tvX9_shorts_i tvX9_shorts_s tw_962 kcX9 rfl hk [] [] rfl rfl (Nat.le_of_ble_eq_true rfl) (Nat.le_of_ble_eq_true rfl) (Nat.le_of_ble_eq_true rfl) (stk' := [.int r_6]) rfl dX9_isEnough_13 rfl ?_
      refine J.iload_n (pc := 16) C dX9_isEnough_16 rfl 2 rfl ?_
      refine J.icmp_ne (pc := 17) C (tgt := 30) dX9_isEnough_17 (by decide) hf (fun hf => ?_) (fun hf => ?_)
      · obtain ⟨t0, hf, he⟩ := exi_some hf
        have hp := hp.1 _ he
        exact J.sub (loc' := [(0, .ref (Xad X k)), (2, .int x2)]) [0, 2] rfl (L30 σ x2 _ hf hp)
      · refine J.aload_n (pc := 20) C dX9_isEnough_20 rfl 0 rfl ?_
        obtain ⟨σ_9, h_7, hf⟩ := bnd_some hf
        refine J.callV (pc := 21) C (m_X9_makeTick h_7) hk wyX9_makeTick tvX9_makeTick_i tvX9_makeTick_s tw_885 kcX9 rfl hk [] [] rfl rfl (Nat.le_of_ble_eq_true rfl) (Nat.le_of_ble_eq_true rfl) (Nat.le_of_ble_eq_true rfl) (stk' := []) rfl dX9_isEnough_21 rfl ?_
        obtain ⟨x3_10, hx_x3_10, hf⟩ := nm_some hf
        refine J.iinc (pc := 24) C (v := x3_10) (loc' := [(3, .int x3_10), (0, .ref (Xad X k)), (1, .int x1), (2, .int x2)]) dX9_isEnough_24 (k := 3) rfl (by rw [hx_x3_10]; rfl) (by decide) rfl ?_
        refine J.goto (pc := 27) C (tgt := 7) dX9_isEnough_27 (by decide) ?_
        exact J.sub (loc' := [(0, .ref (Xad X k)), (1, .int x1), (2, .int x2), (3, .int x3_10)]) [1, 2, 3, 0] rfl (hp.2 _ (Option.some.inj hf).symm)
  have hp : t0 = t0 := rfl
  show J X 0 [(0, .ref (Xad X k)), (1, .int x1)] [] σ
  unfold f_X9_isEnough at hf
  refine J.aload_n (pc := 0) C dX9_isEnough_0 rfl 0 rfl ?_
  obtain ⟨r_2, h_1, hf⟩ := bnd_some hf
  refine J.callV (pc := 1) C (m_X9_shorts h_1) hk wyX9_shorts tvX9_shorts_i tvX9_shorts_s tw_962 kcX9 rfl hk [] [] rfl rfl (Nat.le_of_ble_eq_true rfl) (Nat.le_of_ble_eq_true rfl) (Nat.le_of_ble_eq_true rfl) (stk' := [.int r_2]) rfl dX9_isEnough_1 rfl ?_
  refine J.istore_n (pc := 4) C (loc' := [(2, .int r_2), (0, .ref (Xad X k)), (1, .int x1)]) dX9_isEnough_4 rfl (by decide) rfl ?_
  refine J.iconst (pc := 5) C (v := 0) dX9_isEnough_5 (by decide) ?_
  refine J.istore_n (pc := 6) C (loc' := [(3, .int 0), (2, .int r_2), (0, .ref (Xad X k)), (1, .int x1)]) dX9_isEnough_6 rfl (by decide) rfl ?_
  exact J.sub (loc' := [(0, .ref (Xad X k)), (1, .int x1), (2, .int r_2), (3, .int 0)]) [2, 3, 1, 0] rfl (L7 σ x1 r_2 0 _ hf hp)
set_option maxHeartbeats 4000000 in
set_option maxRecDepth 100000 in
theorem m_X9_delay {l : Launch} {n : Nat} {σ : Mem} {k : Nat} {x1 : Int32} {x2 : Int32} {x3 : Int32} {t0 : (Int32 × Mem)} (hf : f_X9_delay n σ k x1 x2 x3 = some t0) : Ct l yX9_delay cX9_delay 7 (some FieldType.int) 4 91 (fun ks => Ok ks k 9) (fun ad => [.ref (ad k), .int x1, .int x2, .int x3]) σ (fun _ => some (.int t0.1)) t0.2 := by
  refine Ct.of (plainFor_of_name (by decide)) (fun _ => Nat.le_of_ble_eq_true rfl) ?_
  intro X C _ hk hcl hR
  have C : Cx X RX9 cX9_delay 7 (some FieldType.int) 4 91 := C
  have L94 : ∀ (σ : Mem) (x1 : Int32) (x2 : Int32) (x3 : Int32) (x5 : Int32) (y0 : Int32) (t : ((Int32 × Mem) ⊕ (Mem × Int32 × Int32))), f_X9_delay_L94 n σ k x1 x2 x3 x5 y0 = some t → ((∀ r1, t = .inl r1 → r1 = t0) ∧ (∀ s1, t = .inr s1 → J X 45 [(0, .ref (Xad X k)), (1, .int x1), (2, .int x2), (3, .int x3), (4, .int (s1.2.1)), (5, .int (s1.2.2))] [] s1.1)) → J X 94 [(0, .ref (Xad X k)), (1, .int x1), (2, .int x2), (3, .int x3), (5, .int x5)] [.int y0] σ := by
    intro σ x1 x2 x3 x5 y0 t hf hp
    unfold f_X9_delay_L94 at hf
    refine J.istore (pc := 94) C (loc' := [(4, .int y0), (0, .ref (Xad X k)), (1, .int x1), (2, .int x2), (3, .int x3), (5, .int x5)]) dX9_delay_94 (by decide) rfl ?_
    refine J.aload_n (pc := 96) C dX9_delay_96 rfl 1 rfl ?_
    obtain ⟨σ_21, h_19, hf⟩ := bnd_some hf
    refine J.callV (pc := 97) C (m_X9_putBack h_19) hk wyX9_putBack tvX9_putBack_i tvX9_putBack_s tw_950 kcX9 rfl hk [] [] rfl rfl (Nat.le_of_ble_eq_true rfl) (Nat.le_of_ble_eq_true rfl) (Nat.le_of_ble_eq_true rfl) (stk' := []) rfl dX9_delay_97 rfl ?_
    obtain ⟨x5_22, hx_x5_22, hf⟩ := nm_some hf
    refine J.iinc (pc := 100) C (v := x5_22) (loc' := [(5, .int x5_22), (4, .int y0), (0, .ref (Xad X k)), (1, .int x1), (2, .int x2), (3, .int x3)]) dX9_delay_100 (k := 5) rfl (by rw [hx_x5_22]; rfl) (by decide) rfl ?_
    refine J.goto (pc := 103) C (tgt := 45) dX9_delay_103 (by decide) ?_
    exact J.sub (loc' := [(0, .ref (Xad X k)), (1, .int x1), (2, .int x2), (3, .int x3), (4, .int y0), (5, .int x5_22)]) [2, 3, 4, 5, 1, 0] rfl (hp.2 _ (Option.some.inj hf).symm)
  have L45 : ∀ (σ : Mem) (x1 : Int32) (x2 : Int32) (x3 : Int32) (x4 : Int32) (x5 : Int32) (t : (Int32 × Mem)), f_X9_delay_L45 n σ k x1 x2 x3 x4 x5 = some t → t = t0 → J X 45 [(0, .ref (Xad X k)), (1, .int x1), (2, .int x2), (3, .int x3), (4, .int x4), (5, .int x5)] [] σ := by
    intro σ x1 x2 x3 x4 x5 t hf hp
    unfold f_X9_delay_L45 at hf
    refine J_iter (JJ := fun (s : Mem × Int32 × Int32) => J X 45 [(0, .ref (Xad X k)), (1, .int x1), (2, .int x2), (3, .int x3), (4, .int (s.2.1)), (5, .int (s.2.2))] [] s.1) (Ps := fun t => t = t0) ?_ n (σ, x4, x5) t hf hp
    clear hf hp
    intro s t hf hp hq
    obtain ⟨σ, x4, x5⟩ := s
    have hp := And.intro hp hq
    clear hq
    have hf : f_X9_delay_B45 n σ k x1 x2 x3 x4 x5 = some t := hf
    show J X 45 [(0, .ref (Xad X k)), (1, .int x1), (2, .int x2), (3, .int x3), (4, .int x4), (5, .int x5)] [] σ
    unfold f_X9_delay_B45 at hf
    refine J.iload (pc := 45) C dX9_delay_45 5 rfl ?_
    refine J.iload_n (pc := 47) C dX9_delay_47 rfl 2 rfl ?_
    refine J.icmp_gt (pc := 48) C (tgt := 106) dX9_delay_48 (by decide) hf (fun hf => ?_) (fun hf => ?_)
    · refine J.iload (pc := 106) C dX9_delay_106 4 rfl ?_
      exact J.iretM (pc := 108) C hR ((hp.1 _ (Option.some.inj hf).symm)) dX9_delay_108
    · refine J.iload (pc := 51) C dX9_delay_51 4 rfl ?_
      refine J.if_ge (pc := 53) C (tgt := 106) dX9_delay_53 (by decide) hf (fun hf => ?_) (fun hf => ?_)
      · refine J.iload (pc := 106) C dX9_delay_106 4 rfl ?_
        exact J.iretM (pc := 108) C hR ((hp.1 _ (Option.some.inj hf).symm)) dX9_delay_108
      · refine J.aload_n (pc := 56) C dX9_delay_56 rfl 0 rfl ?_
        refine J.iload_n (pc := 57) C dX9_delay_57 rfl 1 rfl ?_
        refine J.iconst (pc := 58) C (v := 0) dX9_delay_58 (by decide) ?_
        obtain ⟨r_11, h_10, hf⟩ := bnd_some hf
        refine J.callV (pc := 59) C (m_X9_ofCue h_10) hk wyX9_ofCue tvX9_ofCue_i tvX9_ofCue_s tw_839 kcX9 rfl hk [.int x1, .int 0] [] rfl rfl (Nat.le_of_ble_eq_true rfl) (Nat.le_of_ble_eq_true rfl) (Nat.le_of_ble_eq_true rfl) (stk' := [.int r_11]) rfl dX9_delay_59 rfl ?_
        refine J.iload (pc := 62) C dX9_delay_62 5 rfl ?_
        refine J.iadd (pc := 64) C dX9_delay_64 ?_
        refine J.ldc (pc := 65) C (v := 100000) dX9_delay_65 tw_831 ?_
        refine J.icmp_gt (pc := 67) C (tgt := 100) dX9_delay_67 (by decide) hf (fun hf => ?_) (fun hf => ?_)
        · obtain ⟨x5_12, hx_x5_12, hf⟩ := nm_some hf
          refine J.iinc (pc := 100) C (v := x5_12) (loc' := [(5, .int x5_12), (0, .ref (Xad X k)), (1, .int x1), (2, .int x2), (3, .int x3), (4, .int x4)]) dX9_delay_100 (k := 5) rfl (by rw [hx_x5_12]; rfl) (by decide) rfl ?_
          refine J.goto (pc := 103) C (tgt := 45) dX9_delay_103 (by decide) ?_
          exact J.sub (loc' := [(0, .ref (Xad X k)), (1, .int x1), (2, .int x2), (3, .int x3), (4, .int x4), (5, .int x5_12)]) [1, 2, 3, 4, 5, 0] rfl (hp.2 _ (Option.some.inj hf).symm)
        · refine J.aload_n (pc := 70) C dX9_delay_70 rfl 0 rfl ?_
          refine J.iload_n (pc := 71) C dX9_delay_71 rfl 1 rfl ?_
          refine J.iload (pc := 72) C dX9_delay_72 5 rfl ?_
          obtain ⟨r_14, σ_15, h_13, hf⟩ := bnd2_some hf
          refine J.callV (pc := 74) C (m_X9_shift h_13) hk wyX9_shift tvX9_shift_i tvX9_shift_s tw_864 kcX9 rfl hk [.int x1, .int x5] [] rfl rfl (Nat.le_of_ble_eq_true rfl) (Nat.le_of_ble_eq_true rfl) (Nat.le_of_ble_eq_true rfl) (stk' := [.int r_14]) rfl dX9_delay_74 rfl ?_
          refine J.istore (pc := 77) C (loc' := [(6, .int r_14), (0, .ref (Xad X k)), (1, .int x1), (2, .int x2), (3, .int x3), (4, .int x4), (5, .int x5)]) dX9_delay_77 (by decide) rfl ?_
          refine J.aload_n (pc := 79) C dX9_delay_79 rfl 1 rfl ?_
          refine J.iload_n (pc := 80) C dX9_delay_80 rfl 4 rfl ?_
          obtain ⟨r_17, σ_18, h_16, hf⟩ := bnd2_some hf
          refine J.callV (pc := 81) C (m_X9_isEnough h_16) hk wyX9_isEnough tvX9_isEnough_i tvX9_isEnough_s tw_958 kcX9 rfl hk [.int x3] [] rfl rfl (Nat.le_of_ble_eq_true rfl) (Nat.le_of_ble_eq_true rfl) (Nat.le_of_ble_eq_true rfl) (stk' := [.int r_17]) rfl dX9_delay_81 rfl ?_
          refine J.if_eq (pc := 84) C (tgt := 92) dX9_delay_84 (by decide) hf (fun hf => ?_) (fun hf => ?_)
          · refine J.iload (pc := 92) C dX9_delay_92 5 rfl ?_
            exact J.sub (loc' := [(0, .ref (Xad X k)), (1, .int x1), (2, .int x2), (3, .int x3), (5, .int x5)]) [1, 2, 3, 4, 6] rfl (L94 σ_18 x1 x2 x3 x5 x4 _ hf hp)
          · refine J.iload (pc := 87) C dX9_delay_87 6 rfl ?_
            refine J.goto (pc := 89) C (tgt := 94) dX9_delay_89 (by decide) ?_
            exact J.sub (loc' := [(0, .ref (Xad X k)), (1, .int x1), (2, .int x2), (3, .int x3), (5, .int x5)]) [1, 2, 3, 4, 6] rfl (L94 σ_18 x1 x2 x3 x5 x5 _ hf hp)
  have hp : t0 = t0 := rfl
  show J X 0 [(0, .ref (Xad X k)), (1, .int x1), (2, .int x2), (3, .int x3)] [] σ
  unfold f_X9_delay at hf
  refine J.aload_n (pc := 0) C dX9_delay_0 rfl 0 rfl ?_
  refine J.iload_n (pc := 1) C dX9_delay_1 rfl 1 rfl ?_
  obtain ⟨r_2, h_1, hf⟩ := bnd_some hf
  refine J.callV (pc := 2) C (m_X9_isCue h_1) hk wyX9_isCue tvX9_isCue_i tvX9_isCue_s tw_851 kcX9 rfl hk [.int x1] [] rfl rfl (Nat.le_of_ble_eq_true rfl) (Nat.le_of_ble_eq_true rfl) (Nat.le_of_ble_eq_true rfl) (stk' := [.int r_2]) rfl dX9_delay_2 rfl ?_
  refine J.if_ne (pc := 5) C (tgt := 10) dX9_delay_5 (by decide) hf (fun hf => ?_) (fun hf => ?_)
  · refine J.iload_n (pc := 10) C dX9_delay_10 rfl 2 rfl ?_
    refine J.iconst (pc := 11) C (v := 0) dX9_delay_11 (by decide) ?_
    refine J.bipush (pc := 12) C (v := 100) dX9_delay_12 (by decide) ?_
    obtain ⟨r_4, h_3, hf⟩ := bnd_some hf
    refine J.callS (pc := 14) C (m_X9_in h_3) trivial wyX9_in tsX9_in tw_791 [.int x2, .int 0, .int 100] [] rfl rfl (Nat.le_of_ble_eq_true rfl) (Nat.le_of_ble_eq_true rfl) (Nat.le_of_ble_eq_true rfl) (stk' := [.int r_4]) rfl dX9_delay_14 rfl ?_
    refine J.if_eq (pc := 17) C (tgt := 31) dX9_delay_17 (by decide) hf (fun hf => ?_) (fun hf => ?_)
    · refine J.bipush (pc := 31) C (v := (-2)) dX9_delay_31 (by decide) ?_
      exact J.iretM (pc := 33) C hR ((Option.some.inj hf).trans hp) dX9_delay_33
    · refine J.iload_n (pc := 20) C dX9_delay_20 rfl 3 rfl ?_
      refine J.iconst (pc := 21) C (v := 1) dX9_delay_21 (by decide) ?_
      refine J.sipush (pc := 22) C (v := 300) dX9_delay_22 (by decide) ?_
      obtain ⟨r_6, h_5, hf⟩ := bnd_some hf
      refine J.callS (pc := 25) C (m_X9_in h_5) trivial wyX9_in tsX9_in tw_791 [.int x3, .int 1, .int 300] [] rfl rfl (Nat.le_of_ble_eq_true rfl) (Nat.le_of_ble_eq_true rfl) (Nat.le_of_ble_eq_true rfl) (stk' := [.int r_6]) rfl dX9_delay_25 rfl ?_
      refine J.if_ne (pc := 28) C (tgt := 34) dX9_delay_28 (by decide) hf (fun hf => ?_) (fun hf => ?_)
      · refine J.aload_n (pc := 34) C dX9_delay_34 rfl 0 rfl ?_
        obtain ⟨σ_9, h_7, hf⟩ := bnd_some hf
        refine J.callV (pc := 35) C (m_X9_putAside h_7) hk wyX9_putAside tvX9_putAside_i tvX9_putAside_s tw_942 kcX9 rfl hk [] [] rfl rfl (Nat.le_of_ble_eq_true rfl) (Nat.le_of_ble_eq_true rfl) (Nat.le_of_ble_eq_true rfl) (stk' := []) rfl dX9_delay_35 rfl ?_
        refine J.bipush (pc := 38) C (v := (-6)) dX9_delay_38 (by decide) ?_
        refine J.istore (pc := 40) C (loc' := [(4, .int (-6)), (0, .ref (Xad X k)), (1, .int x1), (2, .int x2), (3, .int x3)]) dX9_delay_40 (by decide) rfl ?_
        refine J.iconst (pc := 42) C (v := 0) dX9_delay_42 (by decide) ?_
        refine J.istore (pc := 43) C (loc' := [(5, .int 0), (4, .int (-6)), (0, .ref (Xad X k)), (1, .int x1), (2, .int x2), (3, .int x3)]) dX9_delay_43 (by decide) rfl ?_
        exact J.sub (loc' := [(0, .ref (Xad X k)), (1, .int x1), (2, .int x2), (3, .int x3), (4, .int (-6)), (5, .int 0)]) [2, 3, 4, 5, 1, 0] rfl (L45 σ_9 x1 x2 x3 (-6) 0 _ hf hp)
      · refine J.bipush (pc := 31) C (v := (-2)) dX9_delay_31 (by decide) ?_
        exact J.iretM (pc := 33) C hR ((Option.some.inj hf).trans hp) dX9_delay_33
  · refine J.iconst (pc := 8) C (v := (-1)) dX9_delay_8 (by decide) ?_
    exact J.iretM (pc := 9) C hR ((Option.some.inj hf).trans hp) dX9_delay_9
set_option maxHeartbeats 4000000 in
set_option maxRecDepth 100000 in
theorem m_X9_staysDry {l : Launch} {n : Nat} {σ : Mem} {k : Nat} {x1 : Int32} {t0 : (Int32 × Mem)} (hf : f_X9_staysDry n σ k x1 = some t0) : Ct l yX9_staysDry cX9_staysDry 4 (some FieldType.boolean) 3 68 (fun ks => Ok ks k 9) (fun ad => [.ref (ad k), .int x1]) σ (fun _ => some (.int t0.1)) t0.2 := by
  refine Ct.of (plainFor_of_name (by decide)) (fun _ => Nat.le_of_ble_eq_true rfl) ?_
  intro X C _ hk hcl hR
  have C : Cx X RX9 cX9_staysDry 4 (some FieldType.boolean) 3 68 := C
  have L38 : ∀ (σ : Mem) (x2 : Int32) (t : (Int32 × Mem)), f_X9_staysDry_L38 n σ k x2 = some t → t = t0 → J X 38 [(0, .ref (Xad X k)), (2, .int x2)] [] σ := by
    intro σ x2 t hf hp
    unfold f_X9_staysDry_L38 at hf
    refine J.aload_n (pc := 38) C dX9_staysDry_38 rfl 0 rfl ?_
    refine J.getR (pc := 39) C kcX9 hk 0 rfl tw_755 rfl dX9_staysDry_39 ?_
    refine J.sipush (pc := 42) C (v := 939) dX9_staysDry_42 (by decide) ?_
    refine J.iald (pc := 45) C (ok_9_0 hcl hk) hf dX9_staysDry_45 (fun hf => ?_)
    refine J.iload_n (pc := 46) C dX9_staysDry_46 rfl 1 rfl ?_
    refine J.icmp_ne (pc := 47) C (tgt := 54) dX9_staysDry_47 (by decide) hf (fun hf => ?_) (fun hf => ?_)
    · refine J.iconst (pc := 54) C (v := 0) dX9_staysDry_54 (by decide) ?_
      exact J.zretM (pc := 55) C rfl hR ((Option.some.inj hf).trans hp) dX9_staysDry_55
    · refine J.iconst (pc := 50) C (v := 1) dX9_staysDry_50 (by decide) ?_
      refine J.goto (pc := 51) C (tgt := 55) dX9_staysDry_51 (by decide) ?_
      exact J.zretM (pc := 55) C rfl hR ((Option.some.inj hf).trans hp) dX9_staysDry_55
  have L11 : ∀ (σ : Mem) (x1 : Int32) (x2 : Int32) (x3 : Int32) (t : (Int32 × Mem)), f_X9_staysDry_L11 n σ k x1 x2 x3 = some t → t = t0 → J X 11 [(0, .ref (Xad X k)), (1, .int x1), (2, .int x2), (3, .int x3)] [] σ := by
    intro σ x1 x2 x3 t hf hp
    unfold f_X9_staysDry_L11 at hf
    refine J_iter (JJ := fun (s : Mem × Int32) => J X 11 [(0, .ref (Xad X k)), (1, .int x1), (2, .int x2), (3, .int (s.2))] [] s.1) (Ps := fun t => t = t0) ?_ n (σ, x3) t hf hp
    clear hf hp
    intro s t hf hp hq
    obtain ⟨σ, x3⟩ := s
    have hp := And.intro hp hq
    clear hq
    have hf : f_X9_staysDry_B11 n σ k x1 x2 x3 = some t := hf
    show J X 11 [(0, .ref (Xad X k)), (1, .int x1), (2, .int x2), (3, .int x3)] [] σ
    unfold f_X9_staysDry_B11 at hf
    refine J.iload_n (pc := 11) C dX9_staysDry_11 rfl 3 rfl ?_
    refine J.iload_n (pc := 12) C dX9_staysDry_12 rfl 1 rfl ?_
    refine J.icmp_ge (pc := 13) C (tgt := 38) dX9_staysDry_13 (by decide) hf (fun hf => ?_) (fun hf => ?_)
    · obtain ⟨t0, hf, he⟩ := exi_some hf
      have hp := hp.1 _ he
      exact J.sub (loc' := [(0, .ref (Xad X k)), (2, .int x2)]) [0, 2] rfl (L38 σ x2 _ hf hp)
    · refine J.aload_n (pc := 16) C dX9_staysDry_16 rfl 0 rfl ?_
      refine J.getR (pc := 17) C kcX9 hk 0 rfl tw_755 rfl dX9_staysDry_17 ?_
      refine J.sipush (pc := 20) C (v := 939) dX9_staysDry_20 (by decide) ?_
      refine J.iald (pc := 23) C (ok_9_0 hcl hk) hf dX9_staysDry_23 (fun hf => ?_)
      refine J.iload_n (pc := 24) C dX9_staysDry_24 rfl 2 rfl ?_
      refine J.icmp_ne (pc := 25) C (tgt := 38) dX9_staysDry_25 (by decide) hf (fun hf => ?_) (fun hf => ?_)
      · obtain ⟨t0, hf, he⟩ := exi_some hf
        have hp := hp.1 _ he
        exact J.sub (loc' := [(0, .ref (Xad X k)), (2, .int x2)]) [0, 2] rfl (L38 σ x2 _ hf hp)
      · refine J.aload_n (pc := 28) C dX9_staysDry_28 rfl 0 rfl ?_
        obtain ⟨σ_4, h_2, hf⟩ := bnd_some hf
        refine J.callV (pc := 29) C (m_X9_makeTick h_2) hk wyX9_makeTick tvX9_makeTick_i tvX9_makeTick_s tw_885 kcX9 rfl hk [] [] rfl rfl (Nat.le_of_ble_eq_true rfl) (Nat.le_of_ble_eq_true rfl) (Nat.le_of_ble_eq_true rfl) (stk' := []) rfl dX9_staysDry_29 rfl ?_
        obtain ⟨x3_5, hx_x3_5, hf⟩ := nm_some hf
        refine J.iinc (pc := 32) C (v := x3_5) (loc' := [(3, .int x3_5), (0, .ref (Xad X k)), (1, .int x1), (2, .int x2)]) dX9_staysDry_32 (k := 3) rfl (by rw [hx_x3_5]; rfl) (by decide) rfl ?_
        refine J.goto (pc := 35) C (tgt := 11) dX9_staysDry_35 (by decide) ?_
        exact J.sub (loc' := [(0, .ref (Xad X k)), (1, .int x1), (2, .int x2), (3, .int x3_5)]) [1, 2, 3, 0] rfl (hp.2 _ (Option.some.inj hf).symm)
  have hp : t0 = t0 := rfl
  show J X 0 [(0, .ref (Xad X k)), (1, .int x1)] [] σ
  unfold f_X9_staysDry at hf
  refine J.aload_n (pc := 0) C dX9_staysDry_0 rfl 0 rfl ?_
  refine J.getR (pc := 1) C kcX9 hk 0 rfl tw_755 rfl dX9_staysDry_1 ?_
  refine J.sipush (pc := 4) C (v := 939) dX9_staysDry_4 (by decide) ?_
  refine J.iald (pc := 7) C (ok_9_0 hcl hk) hf dX9_staysDry_7 (fun hf => ?_)
  refine J.nmI hf (fun x2_1 hf => ?_)
  refine J.istore_n (pc := 8) C (loc' := [(2, .int x2_1), (0, .ref (Xad X k)), (1, .int x1)]) dX9_staysDry_8 rfl (by decide) rfl ?_
  refine J.iconst (pc := 9) C (v := 0) dX9_staysDry_9 (by decide) ?_
  refine J.istore_n (pc := 10) C (loc' := [(3, .int 0), (2, .int x2_1), (0, .ref (Xad X k)), (1, .int x1)]) dX9_staysDry_10 rfl (by decide) rfl ?_
  exact J.sub (loc' := [(0, .ref (Xad X k)), (1, .int x1), (2, .int x2_1), (3, .int 0)]) [2, 3, 1, 0] rfl (L11 σ x1 x2_1 0 _ hf hp)
set_option maxHeartbeats 4000000 in
set_option maxRecDepth 100000 in
theorem m_X9_safeCut {l : Launch} {n : Nat} {σ : Mem} {k : Nat} {x1 : Int32} {t0 : (Int32 × Mem)} (hf : f_X9_safeCut n σ k x1 = some t0) : Ct l yX9_safeCut cX9_safeCut 4 (some FieldType.int) 4 91 (fun ks => Ok ks k 9) (fun ad => [.ref (ad k), .int x1]) σ (fun _ => some (.int t0.1)) t0.2 := by
  refine Ct.of (plainFor_of_name (by decide)) (fun _ => Nat.le_of_ble_eq_true rfl) ?_
  intro X C _ hk hcl hR
  have C : Cx X RX9 cX9_safeCut 4 (some FieldType.int) 4 91 := C
  have L54 : ∀ (σ : Mem) (x1 : Int32) (x3 : Int32) (y0 : Int32) (t : ((Int32 × Mem) ⊕ (Mem × Int32 × Int32))), f_X9_safeCut_L54 n σ k x1 x3 y0 = some t → ((∀ r1, t = .inl r1 → r1 = t0) ∧ (∀ s1, t = .inr s1 → J X 24 [(0, .ref (Xad X k)), (1, .int x1), (2, .int (s1.2.1)), (3, .int (s1.2.2))] [] s1.1)) → J X 54 [(0, .ref (Xad X k)), (1, .int x1), (3, .int x3)] [.int y0] σ := by
    intro σ x1 x3 y0 t hf hp
    unfold f_X9_safeCut_L54 at hf
    refine J.istore_n (pc := 54) C (loc' := [(2, .int y0), (0, .ref (Xad X k)), (1, .int x1), (3, .int x3)]) dX9_safeCut_54 rfl (by decide) rfl ?_
    refine J.aload_n (pc := 55) C dX9_safeCut_55 rfl 1 rfl ?_
    obtain ⟨σ_12, h_10, hf⟩ := bnd_some hf
    refine J.callV (pc := 56) C (m_X9_putBack h_10) hk wyX9_putBack tvX9_putBack_i tvX9_putBack_s tw_950 kcX9 rfl hk [] [] rfl rfl (Nat.le_of_ble_eq_true rfl) (Nat.le_of_ble_eq_true rfl) (Nat.le_of_ble_eq_true rfl) (stk' := []) rfl dX9_safeCut_56 rfl ?_
    obtain ⟨x3_13, hx_x3_13, hf⟩ := nm_some hf
    refine J.iinc (pc := 59) C (v := x3_13) (loc' := [(3, .int x3_13), (2, .int y0), (0, .ref (Xad X k)), (1, .int x1)]) dX9_safeCut_59 (k := 3) rfl (by rw [hx_x3_13]; rfl) (by decide) rfl ?_
    refine J.goto (pc := 62) C (tgt := 24) dX9_safeCut_62 (by decide) ?_
    exact J.sub (loc' := [(0, .ref (Xad X k)), (1, .int x1), (2, .int y0), (3, .int x3_13)]) [2, 3, 1, 0] rfl (hp.2 _ (Option.some.inj hf).symm)
  have L24 : ∀ (σ : Mem) (x1 : Int32) (x2 : Int32) (x3 : Int32) (t : (Int32 × Mem)), f_X9_safeCut_L24 n σ k x1 x2 x3 = some t → t = t0 → J X 24 [(0, .ref (Xad X k)), (1, .int x1), (2, .int x2), (3, .int x3)] [] σ := by
    intro σ x1 x2 x3 t hf hp
    unfold f_X9_safeCut_L24 at hf
    refine J_iter (JJ := fun (s : Mem × Int32 × Int32) => J X 24 [(0, .ref (Xad X k)), (1, .int x1), (2, .int (s.2.1)), (3, .int (s.2.2))] [] s.1) (Ps := fun t => t = t0) ?_ n (σ, x2, x3) t hf hp
    clear hf hp
    intro s t hf hp hq
    obtain ⟨σ, x2, x3⟩ := s
    have hp := And.intro hp hq
    clear hq
    have hf : f_X9_safeCut_B24 n σ k x1 x2 x3 = some t := hf
    show J X 24 [(0, .ref (Xad X k)), (1, .int x1), (2, .int x2), (3, .int x3)] [] σ
    unfold f_X9_safeCut_B24 at hf
    refine J.iload_n (pc := 24) C dX9_safeCut_24 rfl 3 rfl ?_
    refine J.if_lt (pc := 25) C (tgt := 65) dX9_safeCut_25 (by decide) hf (fun hf => ?_) (fun hf => ?_)
    · refine J.iload_n (pc := 65) C dX9_safeCut_65 rfl 2 rfl ?_
      exact J.iretM (pc := 66) C hR ((hp.1 _ (Option.some.inj hf).symm)) dX9_safeCut_66
    · refine J.iload_n (pc := 28) C dX9_safeCut_28 rfl 2 rfl ?_
      refine J.if_ge (pc := 29) C (tgt := 65) dX9_safeCut_29 (by decide) hf (fun hf => ?_) (fun hf => ?_)
      · refine J.iload_n (pc := 65) C dX9_safeCut_65 rfl 2 rfl ?_
        exact J.iretM (pc := 66) C hR ((hp.1 _ (Option.some.inj hf).symm)) dX9_safeCut_66
      · refine J.aload_n (pc := 32) C dX9_safeCut_32 rfl 0 rfl ?_
        refine J.getR (pc := 33) C kcX9 hk 0 rfl tw_755 rfl dX9_safeCut_33 ?_
        refine J.sipush (pc := 36) C (v := 930) dX9_safeCut_36 (by decide) ?_
        refine J.iload_n (pc := 39) C dX9_safeCut_39 rfl 3 rfl ?_
        refine J.iastM (pc := 40) C (ok_9_0 hcl hk) hf dX9_safeCut_40 (fun σ_6 hf => ?_)
        refine J.aload_n (pc := 41) C dX9_safeCut_41 rfl 0 rfl ?_
        refine J.iload_n (pc := 42) C dX9_safeCut_42 rfl 1 rfl ?_
        obtain ⟨r_8, σ_9, h_7, hf⟩ := bnd2_some hf
        refine J.callV (pc := 43) C (m_X9_staysDry h_7) hk wyX9_staysDry tvX9_staysDry_i tvX9_staysDry_s tw_970 kcX9 rfl hk [.int x1] [] rfl rfl (Nat.le_of_ble_eq_true rfl) (Nat.le_of_ble_eq_true rfl) (Nat.le_of_ble_eq_true rfl) (stk' := [.int r_8]) rfl dX9_safeCut_43 rfl ?_
        refine J.if_eq (pc := 46) C (tgt := 53) dX9_safeCut_46 (by decide) hf (fun hf => ?_) (fun hf => ?_)
        · refine J.iload_n (pc := 53) C dX9_safeCut_53 rfl 2 rfl ?_
          exact J.sub (loc' := [(0, .ref (Xad X k)), (1, .int x1), (3, .int x3)]) [0, 1, 3] rfl (L54 σ_9 x1 x3 x2 _ hf hp)
        · refine J.iload_n (pc := 49) C dX9_safeCut_49 rfl 3 rfl ?_
          refine J.goto (pc := 50) C (tgt := 54) dX9_safeCut_50 (by decide) ?_
          exact J.sub (loc' := [(0, .ref (Xad X k)), (1, .int x1), (3, .int x3)]) [0, 1, 3] rfl (L54 σ_9 x1 x3 x3 _ hf hp)
  have hp : t0 = t0 := rfl
  show J X 0 [(0, .ref (Xad X k)), (1, .int x1)] [] σ
  unfold f_X9_safeCut at hf
  refine J.iload_n (pc := 0) C dX9_safeCut_0 rfl 1 rfl ?_
  refine J.iconst (pc := 1) C (v := 1) dX9_safeCut_1 (by decide) ?_
  refine J.bipush (pc := 2) C (v := 100) dX9_safeCut_2 (by decide) ?_
  obtain ⟨r_2, h_1, hf⟩ := bnd_some hf
  refine J.callS (pc := 4) C (m_X9_in h_1) trivial wyX9_in tsX9_in tw_791 [.int x1, .int 1, .int 100] [] rfl rfl (Nat.le_of_ble_eq_true rfl) (Nat.le_of_ble_eq_true rfl) (Nat.le_of_ble_eq_true rfl) (stk' := [.int r_2]) rfl dX9_safeCut_4 rfl ?_
  refine J.if_ne (pc := 7) C (tgt := 13) dX9_safeCut_7 (by decide) hf (fun hf => ?_) (fun hf => ?_)
  · refine J.aload_n (pc := 13) C dX9_safeCut_13 rfl 0 rfl ?_
    obtain ⟨σ_5, h_3, hf⟩ := bnd_some hf
    refine J.callV (pc := 14) C (m_X9_putAside h_3) hk wyX9_putAside tvX9_putAside_i tvX9_putAside_s tw_942 kcX9 rfl hk [] [] rfl rfl (Nat.le_of_ble_eq_true rfl) (Nat.le_of_ble_eq_true rfl) (Nat.le_of_ble_eq_true rfl) (stk' := []) rfl dX9_safeCut_14 rfl ?_
    refine J.bipush (pc := 17) C (v := (-6)) dX9_safeCut_17 (by decide) ?_
    refine J.istore_n (pc := 19) C (loc' := [(2, .int (-6)), (0, .ref (Xad X k)), (1, .int x1)]) dX9_safeCut_19 rfl (by decide) rfl ?_
    refine J.sipush (pc := 20) C (v := 1000) dX9_safeCut_20 (by decide) ?_
    refine J.istore_n (pc := 23) C (loc' := [(3, .int 1000), (2, .int (-6)), (0, .ref (Xad X k)), (1, .int x1)]) dX9_safeCut_23 rfl (by decide) rfl ?_
    exact J.sub (loc' := [(0, .ref (Xad X k)), (1, .int x1), (2, .int (-6)), (3, .int 1000)]) [2, 3, 1, 0] rfl (L24 σ_5 x1 (-6) 1000 _ hf hp)
  · refine J.bipush (pc := 10) C (v := (-2)) dX9_safeCut_10 (by decide) ?_
    exact J.iretM (pc := 12) C hR ((Option.some.inj hf).trans hp) dX9_safeCut_12
set_option maxHeartbeats 4000000 in
set_option maxRecDepth 100000 in
theorem m_X9_say {l : Launch} {σ : Mem} {k : Nat} {x1 : Int32} {t0 : (Int32 × Mem)} (hf : f_X9_say σ k x1 = some t0) : Ct l yX9_say cX9_say 2 (some FieldType.int) 1 22 (fun ks => Ok ks k 9) (fun ad => [.ref (ad k), .int x1]) σ (fun _ => some (.int t0.1)) t0.2 := by
  refine Ct.of (plainFor_of_name (by decide)) (fun _ => Nat.le_of_ble_eq_true rfl) ?_
  intro X C _ hk hcl hR
  have C : Cx X RX9 cX9_say 2 (some FieldType.int) 1 22 := C
  have hp : t0 = t0 := rfl
  show J X 0 [(0, .ref (Xad X k)), (1, .int x1)] [] σ
  unfold f_X9_say at hf
  refine J.iload_n (pc := 0) C dX9_say_0 rfl 1 rfl ?_
  refine J.bipush (pc := 1) C (v := 33) dX9_say_1 (by decide) ?_
  refine J.bipush (pc := 3) C (v := 126) dX9_say_3 (by decide) ?_
  obtain ⟨r_2, h_1, hf⟩ := bnd_some hf
  refine J.callS (pc := 5) C (m_X9_in h_1) trivial wyX9_in tsX9_in tw_791 [.int x1, .int 33, .int 126] [] rfl rfl (Nat.le_of_ble_eq_true rfl) (Nat.le_of_ble_eq_true rfl) (Nat.le_of_ble_eq_true rfl) (stk' := [.int r_2]) rfl dX9_say_5 rfl ?_
  refine J.if_ne (pc := 8) C (tgt := 14) dX9_say_8 (by decide) hf (fun hf => ?_) (fun hf => ?_)
  · refine J.aload_n (pc := 14) C dX9_say_14 rfl 0 rfl ?_
    refine J.getI (pc := 15) C kcX9 hk 5 rfl tw_760 rfl dX9_say_15 ?_
    refine J.bipush (pc := 18) C (v := 80) dX9_say_18 (by decide) ?_
    refine J.icmp_ne (pc := 20) C (tgt := 26) dX9_say_20 (by decide) hf (fun hf => ?_) (fun hf => ?_)
    · refine J.aload_n (pc := 26) C dX9_say_26 rfl 0 rfl ?_
      refine J.getR (pc := 27) C kcX9 hk 4 rfl tw_759 rfl dX9_say_27 ?_
      refine J.aload_n (pc := 30) C dX9_say_30 rfl 0 rfl ?_
      refine J.getI (pc := 31) C kcX9 hk 5 rfl tw_760 rfl dX9_say_31 ?_
      refine J.iload_n (pc := 34) C dX9_say_34 rfl 1 rfl ?_
      refine J.iastM (pc := 35) C (ok_9_4 hcl hk) hf dX9_say_35 (fun σ_3 hf => ?_)
      refine J.aload_n (pc := 36) C dX9_say_36 rfl 0 rfl ?_
      refine J.dup (pc := 37) C dX9_say_37 rfl ?_
      refine J.getI (pc := 38) C kcX9 hk 5 rfl tw_760 rfl dX9_say_38 ?_
      refine J.iconst (pc := 41) C (v := 1) dX9_say_41 (by decide) ?_
      refine J.iadd (pc := 42) C dX9_say_42 ?_
      refine J.putM (pc := 43) C kcX9 hk 5 rfl tw_760 rfl rfl rfl rfl hf dX9_say_43 (fun σ_4 hf => ?_)
      refine J.aload_n (pc := 46) C dX9_say_46 rfl 0 rfl ?_
      refine J.getI (pc := 47) C kcX9 hk 5 rfl tw_760 rfl dX9_say_47 ?_
      exact J.iretM (pc := 50) C hR ((Option.some.inj hf).trans hp) dX9_say_50
    · refine J.bipush (pc := 23) C (v := (-4)) dX9_say_23 (by decide) ?_
      exact J.iretM (pc := 25) C hR ((Option.some.inj hf).trans hp) dX9_say_25
  · refine J.bipush (pc := 11) C (v := (-2)) dX9_say_11 (by decide) ?_
    exact J.iretM (pc := 13) C hR ((Option.some.inj hf).trans hp) dX9_say_13
set_option maxHeartbeats 4000000 in
set_option maxRecDepth 100000 in
theorem m_X9_wipe {l : Launch} {σ : Mem} {k : Nat} {t0 : (Int32 × Mem)} (hf : f_X9_wipe σ k = some t0) : Ct l yX9_wipe cX9_wipe 2 (some FieldType.int) 0 0 (fun ks => Ok ks k 9) (fun ad => [.ref (ad k)]) σ (fun _ => some (.int t0.1)) t0.2 := by
  refine Ct.of (plainFor_of_name (by decide)) (fun _ => Nat.le_of_ble_eq_true rfl) ?_
  intro X C _ hk hcl hR
  have C : Cx X RX9 cX9_wipe 2 (some FieldType.int) 0 0 := C
  have hp : t0 = t0 := rfl
  show J X 0 [(0, .ref (Xad X k))] [] σ
  unfold f_X9_wipe at hf
  refine J.aload_n (pc := 0) C dX9_wipe_0 rfl 0 rfl ?_
  refine J.getI (pc := 1) C kcX9 hk 5 rfl tw_760 rfl dX9_wipe_1 ?_
  refine J.nmI hf (fun x1_1 hf => ?_)
  refine J.istore_n (pc := 4) C (loc' := [(1, .int x1_1), (0, .ref (Xad X k))]) dX9_wipe_4 rfl (by decide) rfl ?_
  refine J.aload_n (pc := 5) C dX9_wipe_5 rfl 1 rfl ?_
  refine J.iconst (pc := 6) C (v := 0) dX9_wipe_6 (by decide) ?_
  refine J.putM (pc := 7) C kcX9 hk 5 rfl tw_760 rfl rfl rfl rfl hf dX9_wipe_7 (fun σ_2 hf => ?_)
  refine J.iload_n (pc := 10) C dX9_wipe_10 rfl 0 rfl ?_
  exact J.iretM (pc := 11) C hR ((Option.some.inj hf).trans hp) dX9_wipe_11
set_option maxHeartbeats 4000000 in
set_option maxRecDepth 100000 in
theorem m_X9_next {l : Launch} {σ : Mem} {k : Nat} {t0 : Int32} (hf : f_X9_next σ k = some t0) : Ct l yX9_next cX9_next 1 (some FieldType.int) 0 0 (fun ks => Ok ks k 9) (fun ad => [.ref (ad k)]) σ (fun _ => some (.int t0)) σ := by
  refine Ct.of (plainFor_of_name (by decide)) (fun _ => Nat.le_of_ble_eq_true rfl) ?_
  intro X C _ hk hcl hR
  have C : Cx X RX9 cX9_next 1 (some FieldType.int) 0 0 := C
  have hp : t0 = t0 := rfl
  show J X 0 [(0, .ref (Xad X k))] [] σ
  unfold f_X9_next at hf
  refine J.aload_n (pc := 0) C dX9_next_0 rfl 0 rfl ?_
  refine J.getI (pc := 1) C kcX9 hk 6 rfl tw_761 rfl dX9_next_1 ?_
  refine J.aload_n (pc := 4) C dX9_next_4 rfl 0 rfl ?_
  refine J.getI (pc := 5) C kcX9 hk 5 rfl tw_760 rfl dX9_next_5 ?_
  refine J.icmp_ge (pc := 8) C (tgt := 23) dX9_next_8 (by decide) hf (fun hf => ?_) (fun hf => ?_)
  · refine J.iconst (pc := 23) C (v := 0) dX9_next_23 (by decide) ?_
    exact J.iretP (pc := 24) C hR ((Option.some.inj hf).trans hp) dX9_next_24
  · refine J.aload_n (pc := 11) C dX9_next_11 rfl 0 rfl ?_
    refine J.getR (pc := 12) C kcX9 hk 4 rfl tw_759 rfl dX9_next_12 ?_
    refine J.aload_n (pc := 15) C dX9_next_15 rfl 0 rfl ?_
    refine J.getI (pc := 16) C kcX9 hk 6 rfl tw_761 rfl dX9_next_16 ?_
    refine J.iald (pc := 19) C (ok_9_4 hcl hk) hf dX9_next_19 (fun hf => ?_)
    refine J.goto (pc := 20) C (tgt := 24) dX9_next_20 (by decide) ?_
    exact J.iretP (pc := 24) C hR ((Option.some.inj hf).trans hp) dX9_next_24
set_option maxHeartbeats 4000000 in
set_option maxRecDepth 100000 in
theorem m_X9_takeNumber {l : Launch} {n : Nat} {σ : Mem} {k : Nat} {x1 : Int32} {t0 : (Int32 × Mem)} (hf : f_X9_takeNumber n σ k x1 = some t0) : Ct l yX9_takeNumber cX9_takeNumber 4 (some FieldType.int) 1 22 (fun ks => Ok ks k 9) (fun ad => [.ref (ad k), .int x1]) σ (fun _ => some (.int t0.1)) t0.2 := by
  refine Ct.of (plainFor_of_name (by decide)) (fun _ => Nat.le_of_ble_eq_true rfl) ?_
  intro X C _ hk hcl hR
  have C : Cx X RX9 cX9_takeNumber 4 (some FieldType.int) 1 22 := C
  have L45 : ∀ (σ : Mem) (x1 : Int32) (x2 : Int32) (x3 : Int32) (t : (Int32 × Mem)), f_X9_takeNumber_L45 n σ k x1 x2 x3 = some t → t = t0 → J X 45 [(0, .ref (Xad X k)), (1, .int x1), (2, .int x2), (3, .int x3)] [] σ := by
    intro σ x1 x2 x3 t hf hp
    unfold f_X9_takeNumber_L45 at hf
    refine J_iter (JJ := fun (s : Mem × Int32 × Int32) => J X 45 [(0, .ref (Xad X k)), (1, .int x1), (2, .int (s.2.1)), (3, .int (s.2.2))] [] s.1) (Ps := fun t => t = t0) ?_ n (σ, x2, x3) t hf hp
    clear hf hp
    intro s t hf hp hq
    obtain ⟨σ, x2, x3⟩ := s
    have hp := And.intro hp hq
    clear hq
    have hf : f_X9_takeNumber_B45 n σ k x1 x2 x3 = some t := hf
    show J X 45 [(0, .ref (Xad X k)), (1, .int x1), (2, .int x2), (3, .int x3)] [] σ
    unfold f_X9_takeNumber_B45 at hf
    refine J.iload_n (pc := 45) C dX9_takeNumber_45 rfl 3 rfl ?_
    refine J.if_eq (pc := 46) C (tgt := 115) dX9_takeNumber_46 (by decide) hf (fun hf => ?_) (fun hf => ?_)
    · refine J.iload_n (pc := 115) C dX9_takeNumber_115 rfl 2 rfl ?_
      exact J.iretM (pc := 116) C hR ((hp.1 _ (Option.some.inj hf).symm)) dX9_takeNumber_116
    · refine J.bipush (pc := 49) C (v := 10) dX9_takeNumber_49 (by decide) ?_
      refine J.iload_n (pc := 51) C dX9_takeNumber_51 rfl 2 rfl ?_
      refine J.imul (pc := 52) C dX9_takeNumber_52 ?_
      refine J.aload_n (pc := 53) C dX9_takeNumber_53 rfl 0 rfl ?_
      obtain ⟨r_3, h_2, hf⟩ := bnd_some hf
      refine J.callV (pc := 54) C (m_X9_next h_2) hk wyX9_next tvX9_next_i tvX9_next_s tw_994 kcX9 rfl hk [] [.int (10 * x2)] rfl rfl (Nat.le_of_ble_eq_true rfl) (Nat.le_of_ble_eq_true rfl) (Nat.le_of_ble_eq_true rfl) (stk' := [.int r_3, .int (10 * x2)]) rfl dX9_takeNumber_54 rfl ?_
      refine J.iadd (pc := 57) C dX9_takeNumber_57 ?_
      refine J.bipush (pc := 58) C (v := 48) dX9_takeNumber_58 (by decide) ?_
      refine J.isub (pc := 60) C dX9_takeNumber_60 ?_
      refine J.nmI hf (fun x2_4 hf => ?_)
      refine J.istore_n (pc := 61) C (loc' := [(2, .int x2_4), (0, .ref (Xad X k)), (1, .int x1), (3, .int x3)]) dX9_takeNumber_61 rfl (by decide) rfl ?_
      refine J.aload_n (pc := 62) C dX9_takeNumber_62 rfl 1 rfl ?_
      refine J.dup (pc := 63) C dX9_takeNumber_63 rfl ?_
      refine J.getI (pc := 64) C kcX9 hk 6 rfl tw_761 rfl dX9_takeNumber_64 ?_
      refine J.iconst (pc := 67) C (v := 1) dX9_takeNumber_67 (by decide) ?_
      refine J.iadd (pc := 68) C dX9_takeNumber_68 ?_
      refine J.putM (pc := 69) C kcX9 hk 6 rfl tw_761 rfl rfl rfl rfl hf dX9_takeNumber_69 (fun σ_5 hf => ?_)
      refine J.iload_n (pc := 72) C dX9_takeNumber_72 rfl 0 rfl ?_
      refine J.if_le (pc := 73) C (tgt := 110) dX9_takeNumber_73 (by decide) hf (fun hf => ?_) (fun hf => ?_)
      · refine J.iconst (pc := 110) C (v := 0) dX9_takeNumber_110 (by decide) ?_
        refine J.istore_n (pc := 111) C (loc' := [(3, .int 0), (2, .int x2_4), (0, .ref (Xad X k)), (1, .int x1)]) dX9_takeNumber_111 rfl (by decide) rfl ?_
        refine J.goto (pc := 112) C (tgt := 45) dX9_takeNumber_112 (by decide) ?_
        exact J.sub (loc' := [(0, .ref (Xad X k)), (1, .int x1), (2, .int x2_4), (3, .int 0)]) [2, 3, 1, 0] rfl (hp.2 _ (Option.some.inj hf).symm)
      · refine J.aload_n (pc := 76) C dX9_takeNumber_76 rfl 1 rfl ?_
        obtain ⟨r_7, h_6, hf⟩ := bnd_some hf
        refine J.callV (pc := 77) C (m_X9_next h_6) hk wyX9_next tvX9_next_i tvX9_next_s tw_994 kcX9 rfl hk [] [] rfl rfl (Nat.le_of_ble_eq_true rfl) (Nat.le_of_ble_eq_true rfl) (Nat.le_of_ble_eq_true rfl) (stk' := [.int r_7]) rfl dX9_takeNumber_77 rfl ?_
        refine J.bipush (pc := 80) C (v := 48) dX9_takeNumber_80 (by decide) ?_
        refine J.bipush (pc := 82) C (v := 57) dX9_takeNumber_82 (by decide) ?_
        obtain ⟨r_9, h_8, hf⟩ := bnd_some hf
        refine J.callS (pc := 84) C (m_X9_in h_8) trivial wyX9_in tsX9_in tw_791 [.int r_7, .int 48, .int 57] [] rfl rfl (Nat.le_of_ble_eq_true rfl) (Nat.le_of_ble_eq_true rfl) (Nat.le_of_ble_eq_true rfl) (stk' := [.int r_9]) rfl dX9_takeNumber_84 rfl ?_
        refine J.if_eq (pc := 87) C (tgt := 110) dX9_takeNumber_87 (by decide) hf (fun hf => ?_) (fun hf => ?_)
        · refine J.iconst (pc := 110) C (v := 0) dX9_takeNumber_110 (by decide) ?_
          refine J.istore_n (pc := 111) C (loc' := [(3, .int 0), (2, .int x2_4), (0, .ref (Xad X k)), (1, .int x1)]) dX9_takeNumber_111 rfl (by decide) rfl ?_
          refine J.goto (pc := 112) C (tgt := 45) dX9_takeNumber_112 (by decide) ?_
          exact J.sub (loc' := [(0, .ref (Xad X k)), (1, .int x1), (2, .int x2_4), (3, .int 0)]) [2, 3, 1, 0] rfl (hp.2 _ (Option.some.inj hf).symm)
        · refine J.bipush (pc := 90) C (v := 10) dX9_takeNumber_90 (by decide) ?_
          refine J.iload_n (pc := 92) C dX9_takeNumber_92 rfl 0 rfl ?_
          refine J.imul (pc := 93) C dX9_takeNumber_93 ?_
          refine J.aload_n (pc := 94) C dX9_takeNumber_94 rfl 1 rfl ?_
          obtain ⟨r_11, h_10, hf⟩ := bnd_some hf
          refine J.callV (pc := 95) C (m_X9_next h_10) hk wyX9_next tvX9_next_i tvX9_next_s tw_994 kcX9 rfl hk [] [.int (10 * x2_4)] rfl rfl (Nat.le_of_ble_eq_true rfl) (Nat.le_of_ble_eq_true rfl) (Nat.le_of_ble_eq_true rfl) (stk' := [.int r_11, .int (10 * x2_4)]) rfl dX9_takeNumber_95 rfl ?_
          refine J.iadd (pc := 98) C dX9_takeNumber_98 ?_
          refine J.bipush (pc := 99) C (v := 48) dX9_takeNumber_99 (by decide) ?_
          refine J.isub (pc := 101) C dX9_takeNumber_101 ?_
          refine J.iload_n (pc := 102) C dX9_takeNumber_102 rfl 2 rfl ?_
          refine J.icmp_gt (pc := 103) C (tgt := 110) dX9_takeNumber_103 (by decide) hf (fun hf => ?_) (fun hf => ?_)
          · refine J.iconst (pc := 110) C (v := 0) dX9_takeNumber_110 (by decide) ?_
            refine J.istore_n (pc := 111) C (loc' := [(3, .int 0), (2, .int x2_4), (0, .ref (Xad X k)), (1, .int x1)]) dX9_takeNumber_111 rfl (by decide) rfl ?_
            refine J.goto (pc := 112) C (tgt := 45) dX9_takeNumber_112 (by decide) ?_
            exact J.sub (loc' := [(0, .ref (Xad X k)), (1, .int x1), (2, .int x2_4), (3, .int 0)]) [2, 3, 1, 0] rfl (hp.2 _ (Option.some.inj hf).symm)
          · refine J.iconst (pc := 106) C (v := 1) dX9_takeNumber_106 (by decide) ?_
            refine J.goto (pc := 107) C (tgt := 111) dX9_takeNumber_107 (by decide) ?_
            refine J.istore_n (pc := 111) C (loc' := [(3, .int 1), (2, .int x2_4), (0, .ref (Xad X k)), (1, .int x1)]) dX9_takeNumber_111 rfl (by decide) rfl ?_
            refine J.goto (pc := 112) C (tgt := 45) dX9_takeNumber_112 (by decide) ?_
            exact J.sub (loc' := [(0, .ref (Xad X k)), (1, .int x1), (2, .int x2_4), (3, .int 1)]) [2, 3, 1, 0] rfl (hp.2 _ (Option.some.inj hf).symm)
  have L44 : ∀ (σ : Mem) (x1 : Int32) (x2 : Int32) (y0 : Int32) (t : (Int32 × Mem)), f_X9_takeNumber_L44 n σ k x1 x2 y0 = some t → t = t0 → J X 44 [(0, .ref (Xad X k)), (1, .int x1), (2, .int x2)] [.int y0] σ := by
    intro σ x1 x2 y0 t hf hp
    unfold f_X9_takeNumber_L44 at hf
    refine J.istore_n (pc := 44) C (loc' := [(3, .int y0), (0, .ref (Xad X k)), (1, .int x1), (2, .int x2)]) dX9_takeNumber_44 rfl (by decide) rfl ?_
    exact J.sub (loc' := [(0, .ref (Xad X k)), (1, .int x1), (2, .int x2), (3, .int y0)]) [1, 2, 3, 0] rfl (L45 σ x1 x2 y0 _ hf hp)
  have L27 : ∀ (σ : Mem) (x1 : Int32) (y0 : Int32) (t : (Int32 × Mem)), f_X9_takeNumber_L27 n σ k x1 y0 = some t → t = t0 → J X 27 [(0, .ref (Xad X k)), (1, .int x1)] [.int y0, .ref (Xad X k)] σ := by
    intro σ x1 y0 t hf hp
    unfold f_X9_takeNumber_L27 at hf
    obtain ⟨hbit, hf⟩ := chk_some hf
    refine J.putM (pc := 27) C kcX9 hk 7 rfl tw_762 rfl rfl (bit_nar hbit) (bit_fit hbit) hf dX9_takeNumber_27 (fun σ_1 hf => ?_)
    refine J.iconst (pc := 30) C (v := 0) dX9_takeNumber_30 (by decide) ?_
    refine J.istore_n (pc := 31) C (loc' := [(2, .int 0), (0, .ref (Xad X k)), (1, .int x1)]) dX9_takeNumber_31 rfl (by decide) rfl ?_
    refine J.aload_n (pc := 32) C dX9_takeNumber_32 rfl 1 rfl ?_
    refine J.getI (pc := 33) C kcX9 hk 7 rfl tw_762 rfl dX9_takeNumber_33 ?_
    refine J.if_ne (pc := 36) C (tgt := 43) dX9_takeNumber_36 (by decide) hf (fun hf => ?_) (fun hf => ?_)
    · refine J.iconst (pc := 43) C (v := 0) dX9_takeNumber_43 (by decide) ?_
      exact J.sub (loc' := [(0, .ref (Xad X k)), (1, .int x1), (2, .int 0)]) [1, 2, 0] rfl (L44 σ_1 x1 0 0 _ hf hp)
    · refine J.iconst (pc := 39) C (v := 1) dX9_takeNumber_39 (by decide) ?_
      refine J.goto (pc := 40) C (tgt := 44) dX9_takeNumber_40 (by decide) ?_
      exact J.sub (loc' := [(0, .ref (Xad X k)), (1, .int x1), (2, .int 0)]) [1, 2, 0] rfl (L44 σ_1 x1 0 1 _ hf hp)
  have L22 : ∀ (σ : Mem) (x1 : Int32) (t : (Int32 × Mem)), f_X9_takeNumber_L22 n σ k x1 = some t → t = t0 → J X 22 [(0, .ref (Xad X k)), (1, .int x1)] [.ref (Xad X k)] σ := by
    intro σ x1 t hf hp
    unfold f_X9_takeNumber_L22 at hf
    refine J.iconst (pc := 22) C (v := 1) dX9_takeNumber_22 (by decide) ?_
    refine J.goto (pc := 23) C (tgt := 27) dX9_takeNumber_23 (by decide) ?_
    exact J.sub (loc' := [(0, .ref (Xad X k)), (1, .int x1)]) [0, 1] rfl (L27 σ x1 1 _ hf hp)
  have hp : t0 = t0 := rfl
  show J X 0 [(0, .ref (Xad X k)), (1, .int x1)] [] σ
  unfold f_X9_takeNumber at hf
  refine J.aload_n (pc := 0) C dX9_takeNumber_0 rfl 0 rfl ?_
  refine J.aload_n (pc := 1) C dX9_takeNumber_1 rfl 0 rfl ?_
  refine J.getI (pc := 2) C kcX9 hk 7 rfl tw_762 rfl dX9_takeNumber_2 ?_
  refine J.if_ne (pc := 5) C (tgt := 22) dX9_takeNumber_5 (by decide) hf (fun hf => ?_) (fun hf => ?_)
  · exact J.sub (loc' := [(0, .ref (Xad X k)), (1, .int x1)]) [0, 1] rfl (L22 σ x1 _ hf hp)
  · refine J.aload_n (pc := 8) C dX9_takeNumber_8 rfl 0 rfl ?_
    obtain ⟨r_13, h_12, hf⟩ := bnd_some hf
    refine J.callV (pc := 9) C (m_X9_next h_12) hk wyX9_next tvX9_next_i tvX9_next_s tw_994 kcX9 rfl hk [] [.ref (Xad X k)] rfl rfl (Nat.le_of_ble_eq_true rfl) (Nat.le_of_ble_eq_true rfl) (Nat.le_of_ble_eq_true rfl) (stk' := [.int r_13, .ref (Xad X k)]) rfl dX9_takeNumber_9 rfl ?_
    refine J.bipush (pc := 12) C (v := 48) dX9_takeNumber_12 (by decide) ?_
    refine J.bipush (pc := 14) C (v := 57) dX9_takeNumber_14 (by decide) ?_
    obtain ⟨r_15, h_14, hf⟩ := bnd_some hf
    refine J.callS (pc := 16) C (m_X9_in h_14) trivial wyX9_in tsX9_in tw_791 [.int r_13, .int 48, .int 57] [.ref (Xad X k)] rfl rfl (Nat.le_of_ble_eq_true rfl) (Nat.le_of_ble_eq_true rfl) (Nat.le_of_ble_eq_true rfl) (stk' := [.int r_15, .ref (Xad X k)]) rfl dX9_takeNumber_16 rfl ?_
    refine J.if_ne (pc := 19) C (tgt := 26) dX9_takeNumber_19 (by decide) hf (fun hf => ?_) (fun hf => ?_)
    · refine J.iconst (pc := 26) C (v := 0) dX9_takeNumber_26 (by decide) ?_
      exact J.sub (loc' := [(0, .ref (Xad X k)), (1, .int x1)]) [0, 1] rfl (L27 σ x1 0 _ hf hp)
    · exact J.sub (loc' := [(0, .ref (Xad X k)), (1, .int x1)]) [0, 1] rfl (L22 σ x1 _ hf hp)
set_option maxHeartbeats 4000000 in
set_option maxRecDepth 100000 in
theorem m_X9_need {l : Launch} {σ : Mem} {k : Nat} {x1 : Int32} {t0 : Mem} (hf : f_X9_need σ k x1 = some t0) : Ct l yX9_need cX9_need 2 none 1 20 (fun ks => Ok ks k 9) (fun ad => [.ref (ad k), .int x1]) σ (fun _ => none) t0 := by
  refine Ct.of (plainFor_of_name (by decide)) (fun _ => Nat.le_of_ble_eq_true rfl) ?_
  intro X C _ hk hcl hR
  have C : Cx X RX9 cX9_need 2 none 1 20 := C
  have L41 : ∀ (σ : Mem) (y0 : Int32) (y1 : Int32) (t : Mem), f_X9_need_L41 σ k y0 y1 = some t → t = t0 → J X 41 [] [.int y0, .int y1, .ref (Xad X k)] σ := by
    intro σ y0 y1 t hf hp
    unfold f_X9_need_L41 at hf
    refine J.iadd (pc := 41) C dX9_need_41 ?_
    refine J.putM (pc := 42) C kcX9 hk 6 rfl tw_761 rfl rfl rfl rfl hf dX9_need_42 (fun σ_2 hf => ?_)
    exact J.vretM (pc := 45) C hR ((Option.some.inj hf).trans hp) dX9_need_45
  have L21 : ∀ (σ : Mem) (y0 : Int32) (t : Mem), f_X9_need_L21 σ k y0 = some t → t = t0 → J X 21 [(0, .ref (Xad X k))] [.int y0, .ref (Xad X k)] σ := by
    intro σ y0 t hf hp
    unfold f_X9_need_L21 at hf
    obtain ⟨hbit, hf⟩ := chk_some hf
    refine J.putM (pc := 21) C kcX9 hk 7 rfl tw_762 rfl rfl (bit_nar hbit) (bit_fit hbit) hf dX9_need_21 (fun σ_1 hf => ?_)
    refine J.aload_n (pc := 24) C dX9_need_24 rfl 0 rfl ?_
    refine J.dup (pc := 25) C dX9_need_25 rfl ?_
    refine J.getI (pc := 26) C kcX9 hk 6 rfl tw_761 rfl dX9_need_26 ?_
    refine J.aload_n (pc := 29) C dX9_need_29 rfl 0 rfl ?_
    refine J.getI (pc := 30) C kcX9 hk 7 rfl tw_762 rfl dX9_need_30 ?_
    refine J.if_eq (pc := 33) C (tgt := 40) dX9_need_33 (by decide) hf (fun hf => ?_) (fun hf => ?_)
    · refine J.iconst (pc := 40) C (v := 1) dX9_need_40 (by decide) ?_
      exact J.sub (loc' := []) [] rfl (L41 σ_1 1 (σ_1 k 6) _ hf hp)
    · refine J.iconst (pc := 36) C (v := 0) dX9_need_36 (by decide) ?_
      refine J.goto (pc := 37) C (tgt := 41) dX9_need_37 (by decide) ?_
      exact J.sub (loc' := []) [] rfl (L41 σ_1 0 (σ_1 k 6) _ hf hp)
  have L16 : ∀ (σ : Mem) (t : Mem), f_X9_need_L16 σ k = some t → t = t0 → J X 16 [(0, .ref (Xad X k))] [.ref (Xad X k)] σ := by
    intro σ t hf hp
    unfold f_X9_need_L16 at hf
    refine J.iconst (pc := 16) C (v := 1) dX9_need_16 (by decide) ?_
    refine J.goto (pc := 17) C (tgt := 21) dX9_need_17 (by decide) ?_
    exact J.sub (loc' := [(0, .ref (Xad X k))]) [0] rfl (L21 σ 1 _ hf hp)
  have hp : t0 = t0 := rfl
  show J X 0 [(0, .ref (Xad X k)), (1, .int x1)] [] σ
  unfold f_X9_need at hf
  refine J.aload_n (pc := 0) C dX9_need_0 rfl 0 rfl ?_
  refine J.aload_n (pc := 1) C dX9_need_1 rfl 0 rfl ?_
  refine J.getI (pc := 2) C kcX9 hk 7 rfl tw_762 rfl dX9_need_2 ?_
  refine J.if_ne (pc := 5) C (tgt := 16) dX9_need_5 (by decide) hf (fun hf => ?_) (fun hf => ?_)
  · exact J.sub (loc' := [(0, .ref (Xad X k))]) [0] rfl (L16 σ _ hf hp)
  · refine J.aload_n (pc := 8) C dX9_need_8 rfl 0 rfl ?_
    obtain ⟨r_4, h_3, hf⟩ := bnd_some hf
    refine J.callV (pc := 9) C (m_X9_next h_3) hk wyX9_next tvX9_next_i tvX9_next_s tw_994 kcX9 rfl hk [] [.ref (Xad X k)] rfl rfl (Nat.le_of_ble_eq_true rfl) (Nat.le_of_ble_eq_true rfl) (Nat.le_of_ble_eq_true rfl) (stk' := [.int r_4, .ref (Xad X k)]) rfl dX9_need_9 rfl ?_
    refine J.iload_n (pc := 12) C dX9_need_12 rfl 1 rfl ?_
    refine J.icmp_eq (pc := 13) C (tgt := 20) dX9_need_13 (by decide) hf (fun hf => ?_) (fun hf => ?_)
    · refine J.iconst (pc := 20) C (v := 0) dX9_need_20 (by decide) ?_
      exact J.sub (loc' := [(0, .ref (Xad X k))]) [0] rfl (L21 σ 0 _ hf hp)
    · exact J.sub (loc' := [(0, .ref (Xad X k))]) [0] rfl (L16 σ _ hf hp)
set_option maxHeartbeats 4000000 in
set_option maxRecDepth 100000 in
theorem m_X9_takeSet {l : Launch} {n : Nat} {σ : Mem} {k : Nat} {t0 : (Int32 × Mem)} (hf : f_X9_takeSet n σ k = some t0) : Ct l yX9_takeSet cX9_takeSet 2 (some FieldType.int) 1 22 (fun ks => Ok ks k 9) (fun ad => [.ref (ad k)]) σ (fun _ => some (.int t0.1)) t0.2 := by
  refine Ct.of (plainFor_of_name (by decide)) (fun _ => Nat.le_of_ble_eq_true rfl) ?_
  intro X C _ hk hcl hR
  have C : Cx X RX9 cX9_takeSet 2 (some FieldType.int) 1 22 := C
  have L32 : ∀ (σ : Mem) (x1 : Int32) (t : (Int32 × Mem)), f_X9_takeSet_L32 n σ k x1 = some t → t = t0 → J X 32 [(0, .ref (Xad X k)), (1, .int x1)] [] σ := by
    intro σ x1 t hf hp
    unfold f_X9_takeSet_L32 at hf
    refine J_iter (JJ := fun (s : Mem × Int32) => J X 32 [(0, .ref (Xad X k)), (1, .int (s.2))] [] s.1) (Ps := fun t => t = t0) ?_ n (σ, x1) t hf hp
    clear hf hp
    intro s t hf hp hq
    obtain ⟨σ, x1⟩ := s
    have hp := And.intro hp hq
    clear hq
    have hf : f_X9_takeSet_B32 n σ k x1 = some t := hf
    show J X 32 [(0, .ref (Xad X k)), (1, .int x1)] [] σ
    unfold f_X9_takeSet_B32 at hf
    refine J.aload_n (pc := 32) C dX9_takeSet_32 rfl 0 rfl ?_
    refine J.getI (pc := 33) C kcX9 hk 7 rfl tw_762 rfl dX9_takeSet_33 ?_
    refine J.if_ne (pc := 36) C (tgt := 91) dX9_takeSet_36 (by decide) hf (fun hf => ?_) (fun hf => ?_)
    · refine J.iload_n (pc := 91) C dX9_takeSet_91 rfl 1 rfl ?_
      exact J.iretM (pc := 92) C hR ((hp.1 _ (Option.some.inj hf).symm)) dX9_takeSet_92
    · refine J.aload_n (pc := 39) C dX9_takeSet_39 rfl 0 rfl ?_
      obtain ⟨r_3, h_2, hf⟩ := bnd_some hf
      refine J.callV (pc := 40) C (m_X9_next h_2) hk wyX9_next tvX9_next_i tvX9_next_s tw_994 kcX9 rfl hk [] [] rfl rfl (Nat.le_of_ble_eq_true rfl) (Nat.le_of_ble_eq_true rfl) (Nat.le_of_ble_eq_true rfl) (stk' := [.int r_3]) rfl dX9_takeSet_40 rfl ?_
      refine J.bipush (pc := 43) C (v := 97) dX9_takeSet_43 (by decide) ?_
      refine J.bipush (pc := 45) C (v := 108) dX9_takeSet_45 (by decide) ?_
      obtain ⟨r_5, h_4, hf⟩ := bnd_some hf
      refine J.callS (pc := 47) C (m_X9_in h_4) trivial wyX9_in tsX9_in tw_791 [.int r_3, .int 97, .int 108] [] rfl rfl (Nat.le_of_ble_eq_true rfl) (Nat.le_of_ble_eq_true rfl) (Nat.le_of_ble_eq_true rfl) (stk' := [.int r_5]) rfl dX9_takeSet_47 rfl ?_
      refine J.if_eq (pc := 50) C (tgt := 91) dX9_takeSet_50 (by decide) hf (fun hf => ?_) (fun hf => ?_)
      · refine J.iload_n (pc := 91) C dX9_takeSet_91 rfl 1 rfl ?_
        exact J.iretM (pc := 92) C hR ((hp.1 _ (Option.some.inj hf).symm)) dX9_takeSet_92
      · refine J.iconst (pc := 53) C (v := 1) dX9_takeSet_53 (by decide) ?_
        refine J.aload_n (pc := 54) C dX9_takeSet_54 rfl 0 rfl ?_
        obtain ⟨r_7, h_6, hf⟩ := bnd_some hf
        refine J.callV (pc := 55) C (m_X9_next h_6) hk wyX9_next tvX9_next_i tvX9_next_s tw_994 kcX9 rfl hk [] [.int 1] rfl rfl (Nat.le_of_ble_eq_true rfl) (Nat.le_of_ble_eq_true rfl) (Nat.le_of_ble_eq_true rfl) (stk' := [.int r_7, .int 1]) rfl dX9_takeSet_55 rfl ?_
        refine J.bipush (pc := 58) C (v := 97) dX9_takeSet_58 (by decide) ?_
        refine J.isub (pc := 60) C dX9_takeSet_60 ?_
        refine J.ishl (pc := 61) C dX9_takeSet_61 ?_
        refine J.iload_n (pc := 62) C dX9_takeSet_62 rfl 1 rfl ?_
        refine J.icmp_le (pc := 63) C (tgt := 91) dX9_takeSet_63 (by decide) hf (fun hf => ?_) (fun hf => ?_)
        · refine J.iload_n (pc := 91) C dX9_takeSet_91 rfl 1 rfl ?_
          exact J.iretM (pc := 92) C hR ((hp.1 _ (Option.some.inj hf).symm)) dX9_takeSet_92
        · refine J.iload_n (pc := 66) C dX9_takeSet_66 rfl 1 rfl ?_
          refine J.iconst (pc := 67) C (v := 1) dX9_takeSet_67 (by decide) ?_
          refine J.aload_n (pc := 68) C dX9_takeSet_68 rfl 0 rfl ?_
          obtain ⟨r_9, h_8, hf⟩ := bnd_some hf
          refine J.callV (pc := 69) C (m_X9_next h_8) hk wyX9_next tvX9_next_i tvX9_next_s tw_994 kcX9 rfl hk [] [.int 1, .int x1] rfl rfl (Nat.le_of_ble_eq_true rfl) (Nat.le_of_ble_eq_true rfl) (Nat.le_of_ble_eq_true rfl) (stk' := [.int r_9, .int 1, .int x1]) rfl dX9_takeSet_69 rfl ?_
          refine J.bipush (pc := 72) C (v := 97) dX9_takeSet_72 (by decide) ?_
          refine J.isub (pc := 74) C dX9_takeSet_74 ?_
          refine J.ishl (pc := 75) C dX9_takeSet_75 ?_
          refine J.ior (pc := 76) C dX9_takeSet_76 ?_
          refine J.nmI hf (fun x1_10 hf => ?_)
          refine J.istore_n (pc := 77) C (loc' := [(1, .int x1_10), (0, .ref (Xad X k))]) dX9_takeSet_77 rfl (by decide) rfl ?_
          refine J.aload_n (pc := 78) C dX9_takeSet_78 rfl 1 rfl ?_
          refine J.dup (pc := 79) C dX9_takeSet_79 rfl ?_
          refine J.getI (pc := 80) C kcX9 hk 6 rfl tw_761 rfl dX9_takeSet_80 ?_
          refine J.iconst (pc := 83) C (v := 1) dX9_takeSet_83 (by decide) ?_
          refine J.iadd (pc := 84) C dX9_takeSet_84 ?_
          refine J.putM (pc := 85) C kcX9 hk 6 rfl tw_761 rfl rfl rfl rfl hf dX9_takeSet_85 (fun σ_11 hf => ?_)
          refine J.goto (pc := 88) C (tgt := 32) dX9_takeSet_88 (by decide) ?_
          exact J.sub (loc' := [(0, .ref (Xad X k)), (1, .int x1_10)]) [1, 0] rfl (hp.2 _ (Option.some.inj hf).symm)
  have L29 : ∀ (σ : Mem) (x1 : Int32) (y0 : Int32) (t : (Int32 × Mem)), f_X9_takeSet_L29 n σ k x1 y0 = some t → t = t0 → J X 29 [(0, .ref (Xad X k)), (1, .int x1)] [.int y0, .ref (Xad X k)] σ := by
    intro σ x1 y0 t hf hp
    unfold f_X9_takeSet_L29 at hf
    obtain ⟨hbit, hf⟩ := chk_some hf
    refine J.putM (pc := 29) C kcX9 hk 7 rfl tw_762 rfl rfl (bit_nar hbit) (bit_fit hbit) hf dX9_takeSet_29 (fun σ_1 hf => ?_)
    exact J.sub (loc' := [(0, .ref (Xad X k)), (1, .int x1)]) [0, 1] rfl (L32 σ_1 x1 _ hf hp)
  have L24 : ∀ (σ : Mem) (x1 : Int32) (t : (Int32 × Mem)), f_X9_takeSet_L24 n σ k x1 = some t → t = t0 → J X 24 [(0, .ref (Xad X k)), (1, .int x1)] [.ref (Xad X k)] σ := by
    intro σ x1 t hf hp
    unfold f_X9_takeSet_L24 at hf
    refine J.iconst (pc := 24) C (v := 1) dX9_takeSet_24 (by decide) ?_
    refine J.goto (pc := 25) C (tgt := 29) dX9_takeSet_25 (by decide) ?_
    exact J.sub (loc' := [(0, .ref (Xad X k)), (1, .int x1)]) [0, 1] rfl (L29 σ x1 1 _ hf hp)
  have hp : t0 = t0 := rfl
  show J X 0 [(0, .ref (Xad X k))] [] σ
  unfold f_X9_takeSet at hf
  refine J.iconst (pc := 0) C (v := 0) dX9_takeSet_0 (by decide) ?_
  refine J.istore_n (pc := 1) C (loc' := [(1, .int 0), (0, .ref (Xad X k))]) dX9_takeSet_1 rfl (by decide) rfl ?_
  refine J.aload_n (pc := 2) C dX9_takeSet_2 rfl 1 rfl ?_
  refine J.aload_n (pc := 3) C dX9_takeSet_3 rfl 1 rfl ?_
  refine J.getI (pc := 4) C kcX9 hk 7 rfl tw_762 rfl dX9_takeSet_4 ?_
  refine J.if_ne (pc := 7) C (tgt := 24) dX9_takeSet_7 (by decide) hf (fun hf => ?_) (fun hf => ?_)
  · exact J.sub (loc' := [(0, .ref (Xad X k)), (1, .int 0)]) [1, 0] rfl (L24 σ 0 _ hf hp)
  · refine J.aload_n (pc := 10) C dX9_takeSet_10 rfl 1 rfl ?_
    obtain ⟨r_13, h_12, hf⟩ := bnd_some hf
    refine J.callV (pc := 11) C (m_X9_next h_12) hk wyX9_next tvX9_next_i tvX9_next_s tw_994 kcX9 rfl hk [] [.ref (Xad X k)] rfl rfl (Nat.le_of_ble_eq_true rfl) (Nat.le_of_ble_eq_true rfl) (Nat.le_of_ble_eq_true rfl) (stk' := [.int r_13, .ref (Xad X k)]) rfl dX9_takeSet_11 rfl ?_
    refine J.bipush (pc := 14) C (v := 97) dX9_takeSet_14 (by decide) ?_
    refine J.bipush (pc := 16) C (v := 108) dX9_takeSet_16 (by decide) ?_
    obtain ⟨r_15, h_14, hf⟩ := bnd_some hf
    refine J.callS (pc := 18) C (m_X9_in h_14) trivial wyX9_in tsX9_in tw_791 [.int r_13, .int 97, .int 108] [.ref (Xad X k)] rfl rfl (Nat.le_of_ble_eq_true rfl) (Nat.le_of_ble_eq_true rfl) (Nat.le_of_ble_eq_true rfl) (stk' := [.int r_15, .ref (Xad X k)]) rfl dX9_takeSet_18 rfl ?_
    refine J.if_ne (pc := 21) C (tgt := 28) dX9_takeSet_21 (by decide) hf (fun hf => ?_) (fun hf => ?_)
    · refine J.iconst (pc := 28) C (v := 0) dX9_takeSet_28 (by decide) ?_
      exact J.sub (loc' := [(0, .ref (Xad X k)), (1, .int 0)]) [1, 0] rfl (L29 σ 0 0 _ hf hp)
    · exact J.sub (loc' := [(0, .ref (Xad X k)), (1, .int 0)]) [1, 0] rfl (L24 σ 0 _ hf hp)
set_option maxHeartbeats 4000000 in
set_option maxRecDepth 100000 in
theorem m_X9_takeCue {l : Launch} {n : Nat} {σ : Mem} {k : Nat} {t0 : Mem} (hf : f_X9_takeCue n σ k = some t0) : Ct l yX9_takeCue cX9_takeCue 2 none 2 45 (fun ks => Ok ks k 9) (fun ad => [.ref (ad k)]) σ (fun _ => none) t0 := by
  refine Ct.of (plainFor_of_name (by decide)) (fun _ => Nat.le_of_ble_eq_true rfl) ?_
  intro X C _ hk hcl hR
  have C : Cx X RX9 cX9_takeCue 2 none 2 45 := C
  have hp : t0 = t0 := rfl
  show J X 0 [(0, .ref (Xad X k))] [] σ
  unfold f_X9_takeCue at hf
  refine J.iconst (pc := 0) C (v := 3) dX9_takeCue_0 (by decide) ?_
  refine J.aload_n (pc := 1) C dX9_takeCue_1 rfl 0 rfl ?_
  refine J.getI (pc := 2) C kcX9 hk 9 rfl tw_764 rfl dX9_takeCue_2 ?_
  refine J.imul (pc := 5) C dX9_takeCue_5 ?_
  refine J.nmI hf (fun x1_1 hf => ?_)
  refine J.istore_n (pc := 6) C (loc' := [(1, .int x1_1), (0, .ref (Xad X k))]) dX9_takeCue_6 rfl (by decide) rfl ?_
  refine J.aload_n (pc := 7) C dX9_takeCue_7 rfl 1 rfl ?_
  refine J.getR (pc := 8) C kcX9 hk 8 rfl tw_763 rfl dX9_takeCue_8 ?_
  refine J.iload_n (pc := 11) C dX9_takeCue_11 rfl 0 rfl ?_
  refine J.aload_n (pc := 12) C dX9_takeCue_12 rfl 1 rfl ?_
  refine J.sipush (pc := 13) C (v := 9999) dX9_takeCue_13 (by decide) ?_
  obtain ⟨r_3, σ_4, h_2, hf⟩ := bnd2_some hf
  refine J.callV (pc := 16) C (m_X9_takeNumber h_2) hk wyX9_takeNumber tvX9_takeNumber_i tvX9_takeNumber_s tw_990 kcX9 rfl hk [.int 9999] [.int x1_1, .ref (Xad X (ptr k 8))] rfl rfl (Nat.le_of_ble_eq_true rfl) (Nat.le_of_ble_eq_true rfl) (Nat.le_of_ble_eq_true rfl) (stk' := [.int r_3, .int x1_1, .ref (Xad X (ptr k 8))]) rfl dX9_takeCue_16 rfl ?_
  refine J.iastM (pc := 19) C (ok_9_8 hcl hk) hf dX9_takeCue_19 (fun σ_5 hf => ?_)
  refine J.aload_n (pc := 20) C dX9_takeCue_20 rfl 1 rfl ?_
  refine J.bipush (pc := 21) C (v := 58) dX9_takeCue_21 (by decide) ?_
  obtain ⟨σ_8, h_6, hf⟩ := bnd_some hf
  refine J.callV (pc := 23) C (m_X9_need h_6) hk wyX9_need tvX9_need_i tvX9_need_s tw_998 kcX9 rfl hk [.int 58] [] rfl rfl (Nat.le_of_ble_eq_true rfl) (Nat.le_of_ble_eq_true rfl) (Nat.le_of_ble_eq_true rfl) (stk' := []) rfl dX9_takeCue_23 rfl ?_
  refine J.aload_n (pc := 26) C dX9_takeCue_26 rfl 1 rfl ?_
  refine J.getR (pc := 27) C kcX9 hk 8 rfl tw_763 rfl dX9_takeCue_27 ?_
  refine J.iload_n (pc := 30) C dX9_takeCue_30 rfl 0 rfl ?_
  refine J.iconst (pc := 31) C (v := 1) dX9_takeCue_31 (by decide) ?_
  refine J.iadd (pc := 32) C dX9_takeCue_32 ?_
  refine J.aload_n (pc := 33) C dX9_takeCue_33 rfl 1 rfl ?_
  obtain ⟨r_10, σ_11, h_9, hf⟩ := bnd2_some hf
  refine J.callV (pc := 34) C (m_X9_takeSet h_9) hk wyX9_takeSet tvX9_takeSet_i tvX9_takeSet_s tw_1002 kcX9 rfl hk [] [.int (x1_1 + 1), .ref (Xad X (ptr k 8))] rfl rfl (Nat.le_of_ble_eq_true rfl) (Nat.le_of_ble_eq_true rfl) (Nat.le_of_ble_eq_true rfl) (stk' := [.int r_10, .int (x1_1 + 1), .ref (Xad X (ptr k 8))]) rfl dX9_takeCue_34 rfl ?_
  refine J.iastM (pc := 37) C (ok_9_8 hcl hk) hf dX9_takeCue_37 (fun σ_12 hf => ?_)
  refine J.aload_n (pc := 38) C dX9_takeCue_38 rfl 1 rfl ?_
  refine J.bipush (pc := 39) C (v := 61) dX9_takeCue_39 (by decide) ?_
  obtain ⟨σ_15, h_13, hf⟩ := bnd_some hf
  refine J.callV (pc := 41) C (m_X9_need h_13) hk wyX9_need tvX9_need_i tvX9_need_s tw_998 kcX9 rfl hk [.int 61] [] rfl rfl (Nat.le_of_ble_eq_true rfl) (Nat.le_of_ble_eq_true rfl) (Nat.le_of_ble_eq_true rfl) (stk' := []) rfl dX9_takeCue_41 rfl ?_
  refine J.aload_n (pc := 44) C dX9_takeCue_44 rfl 1 rfl ?_
  refine J.getR (pc := 45) C kcX9 hk 8 rfl tw_763 rfl dX9_takeCue_45 ?_
  refine J.iload_n (pc := 48) C dX9_takeCue_48 rfl 0 rfl ?_
  refine J.iconst (pc := 49) C (v := 2) dX9_takeCue_49 (by decide) ?_
  refine J.iadd (pc := 50) C dX9_takeCue_50 ?_
  refine J.aload_n (pc := 51) C dX9_takeCue_51 rfl 1 rfl ?_
  refine J.sipush (pc := 52) C (v := 1000) dX9_takeCue_52 (by decide) ?_
  obtain ⟨r_17, σ_18, h_16, hf⟩ := bnd2_some hf
  refine J.callV (pc := 55) C (m_X9_takeNumber h_16) hk wyX9_takeNumber tvX9_takeNumber_i tvX9_takeNumber_s tw_990 kcX9 rfl hk [.int 1000] [.int (x1_1 + 2), .ref (Xad X (ptr k 8))] rfl rfl (Nat.le_of_ble_eq_true rfl) (Nat.le_of_ble_eq_true rfl) (Nat.le_of_ble_eq_true rfl) (stk' := [.int r_17, .int (x1_1 + 2), .ref (Xad X (ptr k 8))]) rfl dX9_takeCue_55 rfl ?_
  refine J.iastM (pc := 58) C (ok_9_8 hcl hk) hf dX9_takeCue_58 (fun σ_19 hf => ?_)
  refine J.aload_n (pc := 59) C dX9_takeCue_59 rfl 1 rfl ?_
  refine J.dup (pc := 60) C dX9_takeCue_60 rfl ?_
  refine J.getI (pc := 61) C kcX9 hk 9 rfl tw_764 rfl dX9_takeCue_61 ?_
  refine J.iconst (pc := 64) C (v := 1) dX9_takeCue_64 (by decide) ?_
  refine J.iadd (pc := 65) C dX9_takeCue_65 ?_
  refine J.putM (pc := 66) C kcX9 hk 9 rfl tw_764 rfl rfl rfl rfl hf dX9_takeCue_66 (fun σ_20 hf => ?_)
  exact J.vretM (pc := 69) C hR ((Option.some.inj hf).trans hp) dX9_takeCue_69
set_option maxHeartbeats 4000000 in
set_option maxRecDepth 100000 in
theorem m_X9_fault {l : Launch} {n : Nat} {σ : Mem} {k : Nat} {t0 : (Int32 × Mem)} (hf : f_X9_fault n σ k = some t0) : Ct l yX9_fault cX9_fault 1 (some FieldType.int) 3 66 (fun ks => Ok ks k 9) (fun ad => [.ref (ad k)]) σ (fun _ => some (.int t0.1)) t0.2 := by
  refine Ct.of (plainFor_of_name (by decide)) (fun _ => Nat.le_of_ble_eq_true rfl) ?_
  intro X C _ hk hcl hR
  have C : Cx X RX9 cX9_fault 1 (some FieldType.int) 3 66 := C
  have L70 : ∀ (σ : Mem) (t : (Int32 × Mem)), f_X9_fault_L70 n σ k = some t → t = t0 → J X 70 [(0, .ref (Xad X k))] [] σ := by
    intro σ t hf hp
    unfold f_X9_fault_L70 at hf
    refine J.aload_n (pc := 70) C dX9_fault_70 rfl 0 rfl ?_
    refine J.getI (pc := 71) C kcX9 hk 6 rfl tw_761 rfl dX9_fault_71 ?_
    refine J.goto (pc := 74) C (tgt := 79) dX9_fault_74 (by decide) ?_
    exact J.iretM (pc := 79) C hR ((Option.some.inj hf).trans hp) dX9_fault_79
  have L52 : ∀ (σ : Mem) (t : (Int32 × Mem)), f_X9_fault_L52 n σ k = some t → t = t0 → J X 52 [(0, .ref (Xad X k))] [] σ := by
    intro σ t hf hp
    unfold f_X9_fault_L52 at hf
    refine J.aload_n (pc := 52) C dX9_fault_52 rfl 0 rfl ?_
    refine J.getI (pc := 53) C kcX9 hk 7 rfl tw_762 rfl dX9_fault_53 ?_
    refine J.if_ne (pc := 56) C (tgt := 70) dX9_fault_56 (by decide) hf (fun hf => ?_) (fun hf => ?_)
    · exact J.sub (loc' := [(0, .ref (Xad X k))]) [0] rfl (L70 σ _ hf hp)
    · refine J.aload_n (pc := 59) C dX9_fault_59 rfl 0 rfl ?_
      refine J.getI (pc := 60) C kcX9 hk 6 rfl tw_761 rfl dX9_fault_60 ?_
      refine J.aload_n (pc := 63) C dX9_fault_63 rfl 0 rfl ?_
      refine J.getI (pc := 64) C kcX9 hk 5 rfl tw_760 rfl dX9_fault_64 ?_
      refine J.icmp_ge (pc := 67) C (tgt := 77) dX9_fault_67 (by decide) hf (fun hf => ?_) (fun hf => ?_)
      · refine J.bipush (pc := 77) C (v := (-6)) dX9_fault_77 (by decide) ?_
        exact J.iretM (pc := 79) C hR ((Option.some.inj hf).trans hp) dX9_fault_79
      · exact J.sub (loc' := [(0, .ref (Xad X k))]) [0] rfl (L70 σ _ hf hp)
  have L19 : ∀ (σ : Mem) (t : (Int32 × Mem)), f_X9_fault_L19 n σ k = some t → t = t0 → J X 19 [(0, .ref (Xad X k))] [] σ := by
    intro σ t hf hp
    unfold f_X9_fault_L19 at hf
    refine J_iter (JJ := fun (s : Mem) => J X 19 [(0, .ref (Xad X k))] [] s) (Ps := fun t => t = t0) ?_ n σ t hf hp
    clear hf hp
    intro s t hf hp hq
    obtain ⟨σ, rfl⟩ : ∃ z, z = s := ⟨_, rfl⟩
    have hp := And.intro hp hq
    clear hq
    have hf : f_X9_fault_B19 n σ k = some t := hf
    show J X 19 [(0, .ref (Xad X k))] [] σ
    unfold f_X9_fault_B19 at hf
    refine J.aload_n (pc := 19) C dX9_fault_19 rfl 0 rfl ?_
    refine J.getI (pc := 20) C kcX9 hk 7 rfl tw_762 rfl dX9_fault_20 ?_
    refine J.if_ne (pc := 23) C (tgt := 52) dX9_fault_23 (by decide) hf (fun hf => ?_) (fun hf => ?_)
    · obtain ⟨t0, hf, he⟩ := exi_some hf
      have hp := hp.1 _ he
      exact J.sub (loc' := [(0, .ref (Xad X k))]) [0] rfl (L52 σ _ hf hp)
    · refine J.aload_n (pc := 26) C dX9_fault_26 rfl 0 rfl ?_
      obtain ⟨r_8, h_7, hf⟩ := bnd_some hf
      refine J.callV (pc := 27) C (m_X9_next h_7) hk wyX9_next tvX9_next_i tvX9_next_s tw_994 kcX9 rfl hk [] [] rfl rfl (Nat.le_of_ble_eq_true rfl) (Nat.le_of_ble_eq_true rfl) (Nat.le_of_ble_eq_true rfl) (stk' := [.int r_8]) rfl dX9_fault_27 rfl ?_
      refine J.bipush (pc := 30) C (v := 44) dX9_fault_30 (by decide) ?_
      refine J.icmp_ne (pc := 32) C (tgt := 52) dX9_fault_32 (by decide) hf (fun hf => ?_) (fun hf => ?_)
      · obtain ⟨t0, hf, he⟩ := exi_some hf
        have hp := hp.1 _ he
        exact J.sub (loc' := [(0, .ref (Xad X k))]) [0] rfl (L52 σ _ hf hp)
      · refine J.aload_n (pc := 35) C dX9_fault_35 rfl 0 rfl ?_
        refine J.dup (pc := 36) C dX9_fault_36 rfl ?_
        refine J.getI (pc := 37) C kcX9 hk 6 rfl tw_761 rfl dX9_fault_37 ?_
        refine J.iconst (pc := 40) C (v := 1) dX9_fault_40 (by decide) ?_
        refine J.iadd (pc := 41) C dX9_fault_41 ?_
        refine J.putM (pc := 42) C kcX9 hk 6 rfl tw_761 rfl rfl rfl rfl hf dX9_fault_42 (fun σ_9 hf => ?_)
        refine J.aload_n (pc := 45) C dX9_fault_45 rfl 0 rfl ?_
        obtain ⟨σ_12, h_10, hf⟩ := bnd_some hf
        refine J.callV (pc := 46) C (m_X9_takeCue h_10) hk wyX9_takeCue tvX9_takeCue_i tvX9_takeCue_s tw_986 kcX9 rfl hk [] [] rfl rfl (Nat.le_of_ble_eq_true rfl) (Nat.le_of_ble_eq_true rfl) (Nat.le_of_ble_eq_true rfl) (stk' := []) rfl dX9_fault_46 rfl ?_
        refine J.goto (pc := 49) C (tgt := 19) dX9_fault_49 (by decide) ?_
        exact J.sub (loc' := [(0, .ref (Xad X k))]) [0] rfl (hp.2 _ (Option.some.inj hf).symm)
  have hp : t0 = t0 := rfl
  show J X 0 [(0, .ref (Xad X k))] [] σ
  unfold f_X9_fault at hf
  refine J.aload_n (pc := 0) C dX9_fault_0 rfl 0 rfl ?_
  refine J.iconst (pc := 1) C (v := 0) dX9_fault_1 (by decide) ?_
  refine J.putM (pc := 2) C kcX9 hk 6 rfl tw_761 rfl rfl rfl rfl hf dX9_fault_2 (fun σ_1 hf => ?_)
  refine J.aload_n (pc := 5) C dX9_fault_5 rfl 0 rfl ?_
  refine J.iconst (pc := 6) C (v := 0) dX9_fault_6 (by decide) ?_
  refine J.putM (pc := 7) C kcX9 hk 7 rfl tw_762 rfl rfl rfl rfl hf dX9_fault_7 (fun σ_2 hf => ?_)
  refine J.aload_n (pc := 10) C dX9_fault_10 rfl 0 rfl ?_
  refine J.iconst (pc := 11) C (v := 0) dX9_fault_11 (by decide) ?_
  refine J.putM (pc := 12) C kcX9 hk 9 rfl tw_764 rfl rfl rfl rfl hf dX9_fault_12 (fun σ_3 hf => ?_)
  refine J.aload_n (pc := 15) C dX9_fault_15 rfl 0 rfl ?_
  obtain ⟨σ_6, h_4, hf⟩ := bnd_some hf
  refine J.callV (pc := 16) C (m_X9_takeCue h_4) hk wyX9_takeCue tvX9_takeCue_i tvX9_takeCue_s tw_986 kcX9 rfl hk [] [] rfl rfl (Nat.le_of_ble_eq_true rfl) (Nat.le_of_ble_eq_true rfl) (Nat.le_of_ble_eq_true rfl) (stk' := []) rfl dX9_fault_16 rfl ?_
  exact J.sub (loc' := [(0, .ref (Xad X k))]) [0] rfl (L19 σ_6 _ hf hp)
set_option maxHeartbeats 4000000 in
set_option maxRecDepth 100000 in
theorem m_X9_read {l : Launch} {n : Nat} {σ : Mem} {k : Nat} {x1 : Int32} {t0 : (Int32 × Mem)} (hf : f_X9_read n σ k x1 = some t0) : Ct l yX9_read cX9_read 4 (some FieldType.int) 4 86 (fun ks => Ok ks k 9) (fun ad => [.ref (ad k), .int x1]) σ (fun _ => some (.int t0.1)) t0.2 := by
  refine Ct.of (plainFor_of_name (by decide)) (fun _ => Nat.le_of_ble_eq_true rfl) ?_
  intro X C _ hk hcl hR
  have C : Cx X RX9 cX9_read 4 (some FieldType.int) 4 86 := C
  have L48 : ∀ (σ : Mem) (x1 : Int32) (x2 : Int32) (t : (Int32 × Mem)), f_X9_read_L48 n σ k x1 x2 = some t → t = t0 → J X 48 [(0, .ref (Xad X k)), (1, .int x1), (2, .int x2)] [] σ := by
    intro σ x1 x2 t hf hp
    unfold f_X9_read_L48 at hf
    refine J_iter (JJ := fun (s : Mem × Int32) => J X 48 [(0, .ref (Xad X k)), (1, .int x1), (2, .int (s.2))] [] s.1) (Ps := fun t => t = t0) ?_ n (σ, x2) t hf hp
    clear hf hp
    intro s t hf hp hq
    obtain ⟨σ, x2⟩ := s
    have hp := And.intro hp hq
    clear hq
    have hf : f_X9_read_B48 n σ k x1 x2 = some t := hf
    show J X 48 [(0, .ref (Xad X k)), (1, .int x1), (2, .int x2)] [] σ
    unfold f_X9_read_B48 at hf
    refine J.iload_n (pc := 48) C dX9_read_48 rfl 2 rfl ?_
    refine J.aload_n (pc := 49) C dX9_read_49 rfl 0 rfl ?_
    refine J.getI (pc := 50) C kcX9 hk 9 rfl tw_764 rfl dX9_read_50 ?_
    refine J.icmp_ge (pc := 53) C (tgt := 97) dX9_read_53 (by decide) hf (fun hf => ?_) (fun hf => ?_)
    · refine J.aload_n (pc := 97) C dX9_read_97 rfl 0 rfl ?_
      refine J.iconst (pc := 98) C (v := 0) dX9_read_98 (by decide) ?_
      refine J.putM (pc := 99) C kcX9 hk 5 rfl tw_760 rfl rfl rfl rfl hf dX9_read_99 (fun σ_6 hf => ?_)
      refine J.aload_n (pc := 102) C dX9_read_102 rfl 0 rfl ?_
      refine J.getI (pc := 103) C kcX9 hk 9 rfl tw_764 rfl dX9_read_103 ?_
      exact J.iretM (pc := 106) C hR ((hp.1 _ (Option.some.inj hf).symm)) dX9_read_106
    · refine J.aload_n (pc := 56) C dX9_read_56 rfl 0 rfl ?_
      refine J.aload_n (pc := 57) C dX9_read_57 rfl 0 rfl ?_
      refine J.getR (pc := 58) C kcX9 hk 8 rfl tw_763 rfl dX9_read_58 ?_
      refine J.iconst (pc := 61) C (v := 3) dX9_read_61 (by decide) ?_
      refine J.iload_n (pc := 62) C dX9_read_62 rfl 2 rfl ?_
      refine J.imul (pc := 63) C dX9_read_63 ?_
      refine J.iald (pc := 64) C (ok_9_8 hcl hk) hf dX9_read_64 (fun hf => ?_)
      refine J.iload_n (pc := 65) C dX9_read_65 rfl 1 rfl ?_
      refine J.iadd (pc := 66) C dX9_read_66 ?_
      refine J.aload_n (pc := 67) C dX9_read_67 rfl 0 rfl ?_
      refine J.getR (pc := 68) C kcX9 hk 8 rfl tw_763 rfl dX9_read_68 ?_
      refine J.iconst (pc := 71) C (v := 3) dX9_read_71 (by decide) ?_
      refine J.iload_n (pc := 72) C dX9_read_72 rfl 2 rfl ?_
      refine J.imul (pc := 73) C dX9_read_73 ?_
      refine J.iconst (pc := 74) C (v := 1) dX9_read_74 (by decide) ?_
      refine J.iadd (pc := 75) C dX9_read_75 ?_
      refine J.iald (pc := 76) C (ok_9_8 hcl hk) hf dX9_read_76 (fun hf => ?_)
      refine J.aload_n (pc := 77) C dX9_read_77 rfl 0 rfl ?_
      refine J.getR (pc := 78) C kcX9 hk 8 rfl tw_763 rfl dX9_read_78 ?_
      refine J.iconst (pc := 81) C (v := 3) dX9_read_81 (by decide) ?_
      refine J.iload_n (pc := 82) C dX9_read_82 rfl 2 rfl ?_
      refine J.imul (pc := 83) C dX9_read_83 ?_
      refine J.iconst (pc := 84) C (v := 2) dX9_read_84 (by decide) ?_
      refine J.iadd (pc := 85) C dX9_read_85 ?_
      refine J.iald (pc := 86) C (ok_9_8 hcl hk) hf dX9_read_86 (fun hf => ?_)
      obtain ⟨r_8, σ_9, h_7, hf⟩ := bnd2_some hf
      refine J.callV (pc := 87) C (m_X9_insert h_7) hk wyX9_insert tvX9_insert_i tvX9_insert_s tw_835 kcX9 rfl hk [.int ((σ (ptr k 8) (ix (3 * x2))) + x1), .int (σ (ptr k 8) (ix ((3 * x2) + 1))), .int (σ (ptr k 8) (ix ((3 * x2) + 2)))] [] rfl rfl (Nat.le_of_ble_eq_true rfl) (Nat.le_of_ble_eq_true rfl) (Nat.le_of_ble_eq_true rfl) (stk' := [.int r_8]) rfl dX9_read_87 rfl ?_
      refine J.istore_n (pc := 90) C (loc' := [(3, .int r_8), (0, .ref (Xad X k)), (1, .int x1), (2, .int x2)]) dX9_read_90 rfl (by decide) rfl ?_
      obtain ⟨x2_10, hx_x2_10, hf⟩ := nm_some hf
      refine J.iinc (pc := 91) C (v := x2_10) (loc' := [(2, .int x2_10), (3, .int r_8), (0, .ref (Xad X k)), (1, .int x1)]) dX9_read_91 (k := 3) rfl (by rw [hx_x2_10]; rfl) (by decide) rfl ?_
      refine J.goto (pc := 94) C (tgt := 48) dX9_read_94 (by decide) ?_
      exact J.sub (loc' := [(0, .ref (Xad X k)), (1, .int x1), (2, .int x2_10)]) [2, 3, 0] rfl (hp.2 _ (Option.some.inj hf).symm)
  have hp : t0 = t0 := rfl
  show J X 0 [(0, .ref (Xad X k)), (1, .int x1)] [] σ
  unfold f_X9_read at hf
  refine J.aload_n (pc := 0) C dX9_read_0 rfl 0 rfl ?_
  obtain ⟨r_2, σ_3, h_1, hf⟩ := bnd2_some hf
  refine J.callV (pc := 1) C (m_X9_fault h_1) hk wyX9_fault tvX9_fault_i tvX9_fault_s tw_1010 kcX9 rfl hk [] [] rfl rfl (Nat.le_of_ble_eq_true rfl) (Nat.le_of_ble_eq_true rfl) (Nat.le_of_ble_eq_true rfl) (stk' := [.int r_2]) rfl dX9_read_1 rfl ?_
  refine J.bipush (pc := 4) C (v := (-6)) dX9_read_4 (by decide) ?_
  refine J.icmp_eq (pc := 6) C (tgt := 12) dX9_read_6 (by decide) hf (fun hf => ?_) (fun hf => ?_)
  · refine J.iload_n (pc := 12) C dX9_read_12 rfl 1 rfl ?_
    refine J.iconst (pc := 13) C (v := 0) dX9_read_13 (by decide) ?_
    refine J.ldc (pc := 14) C (v := 90000) dX9_read_14 tw_1011 ?_
    obtain ⟨r_5, h_4, hf⟩ := bnd_some hf
    refine J.callS (pc := 16) C (m_X9_in h_4) trivial wyX9_in tsX9_in tw_791 [.int x1, .int 0, .int 90000] [] rfl rfl (Nat.le_of_ble_eq_true rfl) (Nat.le_of_ble_eq_true rfl) (Nat.le_of_ble_eq_true rfl) (stk' := [.int r_5]) rfl dX9_read_16 rfl ?_
    refine J.if_ne (pc := 19) C (tgt := 25) dX9_read_19 (by decide) hf (fun hf => ?_) (fun hf => ?_)
    · refine J.aload_n (pc := 25) C dX9_read_25 rfl 0 rfl ?_
      refine J.getR (pc := 26) C kcX9 hk 0 rfl tw_755 rfl dX9_read_26 ?_
      refine J.sipush (pc := 29) C (v := 940) dX9_read_29 (by decide) ?_
      refine J.iald (pc := 32) C (ok_9_0 hcl hk) hf dX9_read_32 (fun hf => ?_)
      refine J.aload_n (pc := 33) C dX9_read_33 rfl 0 rfl ?_
      refine J.getI (pc := 34) C kcX9 hk 9 rfl tw_764 rfl dX9_read_34 ?_
      refine J.iadd (pc := 37) C dX9_read_37 ?_
      refine J.bipush (pc := 38) C (v := 60) dX9_read_38 (by decide) ?_
      refine J.icmp_le (pc := 40) C (tgt := 46) dX9_read_40 (by decide) hf (fun hf => ?_) (fun hf => ?_)
      · refine J.iconst (pc := 46) C (v := 0) dX9_read_46 (by decide) ?_
        refine J.istore_n (pc := 47) C (loc' := [(2, .int 0), (0, .ref (Xad X k)), (1, .int x1)]) dX9_read_47 rfl (by decide) rfl ?_
        exact J.sub (loc' := [(0, .ref (Xad X k)), (1, .int x1), (2, .int 0)]) [1, 2, 0] rfl (L48 σ_3 x1 0 _ hf hp)
      · refine J.bipush (pc := 43) C (v := (-4)) dX9_read_43 (by decide) ?_
        exact J.iretM (pc := 45) C hR ((Option.some.inj hf).trans hp) dX9_read_45
    · refine J.bipush (pc := 22) C (v := (-2)) dX9_read_22 (by decide) ?_
      exact J.iretM (pc := 24) C hR ((Option.some.inj hf).trans hp) dX9_read_24
  · refine J.bipush (pc := 9) C (v := (-3)) dX9_read_9 (by decide) ?_
    exact J.iretM (pc := 11) C hR ((Option.some.inj hf).trans hp) dX9_read_11
set_option maxHeartbeats 4000000 in
set_option maxRecDepth 100000 in
theorem m_X9_save {l : Launch} {n : Nat} {σ : Mem} {k : Nat} {x1 : Int32} {t0 : (Int32 × Mem)} (hf : f_X9_save n σ k x1 = some t0) : Ct l yX9_save cX9_save 3 (some FieldType.int) 1 22 (fun ks => Ok ks k 9) (fun ad => [.ref (ad k), .int x1]) σ (fun _ => some (.int t0.1)) t0.2 := by
  refine Ct.of (plainFor_of_name (by decide)) (fun _ => Nat.le_of_ble_eq_true rfl) ?_
  intro X C _ hk hcl hR
  have C : Cx X RX9 cX9_save 3 (some FieldType.int) 1 22 := C
  have L14 : ∀ (σ : Mem) (x1 : Int32) (x2 : Int32) (t : (Int32 × Mem)), f_X9_save_L14 n σ k x1 x2 = some t → t = t0 → J X 14 [(0, .ref (Xad X k)), (1, .int x1), (2, .int x2)] [] σ := by
    intro σ x1 x2 t hf hp
    unfold f_X9_save_L14 at hf
    refine J_iter (JJ := fun (s : Mem × Int32) => J X 14 [(0, .ref (Xad X k)), (1, .int x1), (2, .int (s.2))] [] s.1) (Ps := fun t => t = t0) ?_ n (σ, x2) t hf hp
    clear hf hp
    intro s t hf hp hq
    obtain ⟨σ, x2⟩ := s
    have hp := And.intro hp hq
    clear hq
    have hf : f_X9_save_B14 n σ k x1 x2 = some t := hf
    show J X 14 [(0, .ref (Xad X k)), (1, .int x1), (2, .int x2)] [] σ
    unfold f_X9_save_B14 at hf
    refine J.iload_n (pc := 14) C dX9_save_14 rfl 2 rfl ?_
    refine J.sipush (pc := 15) C (v := 1121) dX9_save_15 (by decide) ?_
    refine J.icmp_ge (pc := 18) C (tgt := 45) dX9_save_18 (by decide) hf (fun hf => ?_) (fun hf => ?_)
    · refine J.aload_n (pc := 45) C dX9_save_45 rfl 0 rfl ?_
      refine J.getR (pc := 46) C kcX9 hk 3 rfl tw_758 rfl dX9_save_46 ?_
      refine J.iload_n (pc := 49) C dX9_save_49 rfl 1 rfl ?_
      refine J.iconst (pc := 50) C (v := 1) dX9_save_50 (by decide) ?_
      refine J.zastM (pc := 51) C (ok_9_3 hcl hk) hf dX9_save_51 (fun σ_3 hf => ?_)
      refine J.aload_n (pc := 52) C dX9_save_52 rfl 0 rfl ?_
      refine J.getR (pc := 53) C kcX9 hk 0 rfl tw_755 rfl dX9_save_53 ?_
      refine J.sipush (pc := 56) C (v := 937) dX9_save_56 (by decide) ?_
      refine J.iald (pc := 59) C (ok_9_0 hcl hk) hf dX9_save_59 (fun hf => ?_)
      exact J.iretM (pc := 60) C hR ((hp.1 _ (Option.some.inj hf).symm)) dX9_save_60
    · refine J.aload_n (pc := 21) C dX9_save_21 rfl 0 rfl ?_
      refine J.getR (pc := 22) C kcX9 hk 2 rfl tw_757 rfl dX9_save_22 ?_
      refine J.sipush (pc := 25) C (v := 1121) dX9_save_25 (by decide) ?_
      refine J.iload_n (pc := 28) C dX9_save_28 rfl 1 rfl ?_
      refine J.imul (pc := 29) C dX9_save_29 ?_
      refine J.iload_n (pc := 30) C dX9_save_30 rfl 2 rfl ?_
      refine J.iadd (pc := 31) C dX9_save_31 ?_
      refine J.aload_n (pc := 32) C dX9_save_32 rfl 0 rfl ?_
      refine J.getR (pc := 33) C kcX9 hk 0 rfl tw_755 rfl dX9_save_33 ?_
      refine J.iload_n (pc := 36) C dX9_save_36 rfl 2 rfl ?_
      refine J.iald (pc := 37) C (ok_9_0 hcl hk) hf dX9_save_37 (fun hf => ?_)
      refine J.iastM (pc := 38) C (ok_9_2 hcl hk) hf dX9_save_38 (fun σ_4 hf => ?_)
      obtain ⟨x2_5, hx_x2_5, hf⟩ := nm_some hf
      refine J.iinc (pc := 39) C (v := x2_5) (loc' := [(2, .int x2_5), (0, .ref (Xad X k)), (1, .int x1)]) dX9_save_39 (k := 2) rfl (by rw [hx_x2_5]; rfl) (by decide) rfl ?_
      refine J.goto (pc := 42) C (tgt := 14) dX9_save_42 (by decide) ?_
      exact J.sub (loc' := [(0, .ref (Xad X k)), (1, .int x1), (2, .int x2_5)]) [1, 2, 0] rfl (hp.2 _ (Option.some.inj hf).symm)
  have hp : t0 = t0 := rfl
  show J X 0 [(0, .ref (Xad X k)), (1, .int x1)] [] σ
  unfold f_X9_save at hf
  refine J.iload_n (pc := 0) C dX9_save_0 rfl 1 rfl ?_
  refine J.iconst (pc := 1) C (v := 0) dX9_save_1 (by decide) ?_
  refine J.iconst (pc := 2) C (v := 1) dX9_save_2 (by decide) ?_
  obtain ⟨r_2, h_1, hf⟩ := bnd_some hf
  refine J.callS (pc := 3) C (m_X9_in h_1) trivial wyX9_in tsX9_in tw_791 [.int x1, .int 0, .int 1] [] rfl rfl (Nat.le_of_ble_eq_true rfl) (Nat.le_of_ble_eq_true rfl) (Nat.le_of_ble_eq_true rfl) (stk' := [.int r_2]) rfl dX9_save_3 rfl ?_
  refine J.if_ne (pc := 6) C (tgt := 12) dX9_save_6 (by decide) hf (fun hf => ?_) (fun hf => ?_)
  · refine J.iconst (pc := 12) C (v := 0) dX9_save_12 (by decide) ?_
    refine J.istore_n (pc := 13) C (loc' := [(2, .int 0), (0, .ref (Xad X k)), (1, .int x1)]) dX9_save_13 rfl (by decide) rfl ?_
    exact J.sub (loc' := [(0, .ref (Xad X k)), (1, .int x1), (2, .int 0)]) [1, 2, 0] rfl (L14 σ x1 0 _ hf hp)
  · refine J.bipush (pc := 9) C (v := (-2)) dX9_save_9 (by decide) ?_
    exact J.iretM (pc := 11) C hR ((Option.some.inj hf).trans hp) dX9_save_11
set_option maxHeartbeats 4000000 in
set_option maxRecDepth 100000 in
theorem m_X9_restore {l : Launch} {n : Nat} {σ : Mem} {k : Nat} {x1 : Int32} {t0 : (Int32 × Mem)} (hf : f_X9_restore n σ k x1 = some t0) : Ct l yX9_restore cX9_restore 3 (some FieldType.int) 1 22 (fun ks => Ok ks k 9) (fun ad => [.ref (ad k), .int x1]) σ (fun _ => some (.int t0.1)) t0.2 := by
  refine Ct.of (plainFor_of_name (by decide)) (fun _ => Nat.le_of_ble_eq_true rfl) ?_
  intro X C _ hk hcl hR
  have C : Cx X RX9 cX9_restore 3 (some FieldType.int) 1 22 := C
  have L26 : ∀ (σ : Mem) (x1 : Int32) (x2 : Int32) (t : (Int32 × Mem)), f_X9_restore_L26 n σ k x1 x2 = some t → t = t0 → J X 26 [(0, .ref (Xad X k)), (1, .int x1), (2, .int x2)] [] σ := by
    intro σ x1 x2 t hf hp
    unfold f_X9_restore_L26 at hf
    refine J_iter (JJ := fun (s : Mem × Int32) => J X 26 [(0, .ref (Xad X k)), (1, .int x1), (2, .int (s.2))] [] s.1) (Ps := fun t => t = t0) ?_ n (σ, x2) t hf hp
    clear hf hp
    intro s t hf hp hq
    obtain ⟨σ, x2⟩ := s
    have hp := And.intro hp hq
    clear hq
    have hf : f_X9_restore_B26 n σ k x1 x2 = some t := hf
    show J X 26 [(0, .ref (Xad X k)), (1, .int x1), (2, .int x2)] [] σ
    unfold f_X9_restore_B26 at hf
    refine J.iload_n (pc := 26) C dX9_restore_26 rfl 2 rfl ?_
    refine J.sipush (pc := 27) C (v := 1121) dX9_restore_27 (by decide) ?_
    refine J.icmp_ge (pc := 30) C (tgt := 57) dX9_restore_30 (by decide) hf (fun hf => ?_) (fun hf => ?_)
    · refine J.aload_n (pc := 57) C dX9_restore_57 rfl 0 rfl ?_
      refine J.getR (pc := 58) C kcX9 hk 0 rfl tw_755 rfl dX9_restore_58 ?_
      refine J.sipush (pc := 61) C (v := 937) dX9_restore_61 (by decide) ?_
      refine J.iald (pc := 64) C (ok_9_0 hcl hk) hf dX9_restore_64 (fun hf => ?_)
      exact J.iretM (pc := 65) C hR ((hp.1 _ (Option.some.inj hf).symm)) dX9_restore_65
    · refine J.aload_n (pc := 33) C dX9_restore_33 rfl 0 rfl ?_
      refine J.getR (pc := 34) C kcX9 hk 0 rfl tw_755 rfl dX9_restore_34 ?_
      refine J.iload_n (pc := 37) C dX9_restore_37 rfl 2 rfl ?_
      refine J.aload_n (pc := 38) C dX9_restore_38 rfl 0 rfl ?_
      refine J.getR (pc := 39) C kcX9 hk 2 rfl tw_757 rfl dX9_restore_39 ?_
      refine J.sipush (pc := 42) C (v := 1121) dX9_restore_42 (by decide) ?_
      refine J.iload_n (pc := 45) C dX9_restore_45 rfl 1 rfl ?_
      refine J.imul (pc := 46) C dX9_restore_46 ?_
      refine J.iload_n (pc := 47) C dX9_restore_47 rfl 2 rfl ?_
      refine J.iadd (pc := 48) C dX9_restore_48 ?_
      refine J.iald (pc := 49) C (ok_9_2 hcl hk) hf dX9_restore_49 (fun hf => ?_)
      refine J.iastM (pc := 50) C (ok_9_0 hcl hk) hf dX9_restore_50 (fun σ_3 hf => ?_)
      obtain ⟨x2_4, hx_x2_4, hf⟩ := nm_some hf
      refine J.iinc (pc := 51) C (v := x2_4) (loc' := [(2, .int x2_4), (0, .ref (Xad X k)), (1, .int x1)]) dX9_restore_51 (k := 2) rfl (by rw [hx_x2_4]; rfl) (by decide) rfl ?_
      refine J.goto (pc := 54) C (tgt := 26) dX9_restore_54 (by decide) ?_
      exact J.sub (loc' := [(0, .ref (Xad X k)), (1, .int x1), (2, .int x2_4)]) [1, 2, 0] rfl (hp.2 _ (Option.some.inj hf).symm)
  have hp : t0 = t0 := rfl
  show J X 0 [(0, .ref (Xad X k)), (1, .int x1)] [] σ
  unfold f_X9_restore at hf
  refine J.iload_n (pc := 0) C dX9_restore_0 rfl 1 rfl ?_
  refine J.iconst (pc := 1) C (v := 0) dX9_restore_1 (by decide) ?_
  refine J.iconst (pc := 2) C (v := 1) dX9_restore_2 (by decide) ?_
  obtain ⟨r_2, h_1, hf⟩ := bnd_some hf
  refine J.callS (pc := 3) C (m_X9_in h_1) trivial wyX9_in tsX9_in tw_791 [.int x1, .int 0, .int 1] [] rfl rfl (Nat.le_of_ble_eq_true rfl) (Nat.le_of_ble_eq_true rfl) (Nat.le_of_ble_eq_true rfl) (stk' := [.int r_2]) rfl dX9_restore_3 rfl ?_
  refine J.if_ne (pc := 6) C (tgt := 12) dX9_restore_6 (by decide) hf (fun hf => ?_) (fun hf => ?_)
  · refine J.aload_n (pc := 12) C dX9_restore_12 rfl 0 rfl ?_
    refine J.getR (pc := 13) C kcX9 hk 3 rfl tw_758 rfl dX9_restore_13 ?_
    refine J.iload_n (pc := 16) C dX9_restore_16 rfl 1 rfl ?_
    refine J.zald (pc := 17) C (ok_9_3 hcl hk) hf dX9_restore_17 (fun hf => ?_)
    refine J.if_ne (pc := 18) C (tgt := 24) dX9_restore_18 (by decide) hf (fun hf => ?_) (fun hf => ?_)
    · refine J.iconst (pc := 24) C (v := 0) dX9_restore_24 (by decide) ?_
      refine J.istore_n (pc := 25) C (loc' := [(2, .int 0), (0, .ref (Xad X k)), (1, .int x1)]) dX9_restore_25 rfl (by decide) rfl ?_
      exact J.sub (loc' := [(0, .ref (Xad X k)), (1, .int x1), (2, .int 0)]) [1, 2, 0] rfl (L26 σ x1 0 _ hf hp)
    · refine J.bipush (pc := 21) C (v := (-5)) dX9_restore_21 (by decide) ?_
      exact J.iretM (pc := 23) C hR ((Option.some.inj hf).trans hp) dX9_restore_23
  · refine J.bipush (pc := 9) C (v := (-2)) dX9_restore_9 (by decide) ?_
    exact J.iretM (pc := 11) C hR ((Option.some.inj hf).trans hp) dX9_restore_11
