set_option maxHeartbeats 4000000 in
set_option maxRecDepth 100000 in
theorem m_L_comesTrue {l : Launch} {n : Nat} {w : Nat} {σ : Mem} {x0 : Nat} {x1 : Int32} {t0 : (Int32 × Mem)} (hf : f_L_comesTrue n w σ x0 x1 = some t0) : Ct l yL_comesTrue cL_comesTrue 18 (some FieldType.boolean) 7 163 (fun ks => Ok ks x0 8) (fun ad => [.ref (ad x0), .int x1]) σ (fun _ => some (.int t0.1)) t0.2 := by
  refine Ct.of (plainFor_of_name (by decide)) (fun _ => Nat.le_of_ble_eq_true rfl) ?_
  intro X C _ hx0 hcl hR
  have C : Cx X RL cL_comesTrue 18 (some FieldType.boolean) 7 163 := C
  have L171 : ∀ (σ : Mem) (x2 : Int32) (x3 : Int32) (x4 : Int32) (x5 : Int32) (x6 : Int32) (x7 : Int32) (x8 : Int32) (x9 : Int32) (x10 : Int32) (x11 : Int32) (x12 : Int32) (x13 : Int32) (x14 : Int32) (x15 : Int32) (x17 : Int32) (t : ((Int32 × Mem) ⊕ (Mem × Int32 × Int32 × Int32 × Int32))), f_L_comesTrue_L171 n w σ x0 x2 x3 x4 x5 x6 x7 x8 x9 x10 x11 x12 x13 x14 x15 x17 = some t → ((∀ r1, t = .inl r1 → r1 = t0) ∧ (∀ s1, t = .inr s1 → J X 99 [(0, .ref (Xad X x0)), (2, .int x2), (3, .int x3), (4, .int x4), (5, .int x5), (6, .int x6), (7, .int x7), (8, .int x8), (9, .int x9), (10, .int x10), (11, .int x11), (12, .int (s1.2.1)), (13, .int (s1.2.2.1)), (14, .int (s1.2.2.2.1)), (15, .int (s1.2.2.2.2))] [] s1.1)) → J X 171 [(0, .ref (Xad X x0)), (2, .int x2), (3, .int x3), (4, .int x4), (5, .int x5), (6, .int x6), (7, .int x7), (8, .int x8), (9, .int x9), (10, .int x10), (11, .int x11), (12, .int x12), (13, .int x13), (14, .int x14), (15, .int x15), (17, .int x17)] [] σ := by
    intro σ x2 x3 x4 x5 x6 x7 x8 x9 x10 x11 x12 x13 x14 x15 x17 t hf hp
    unfold f_L_comesTrue_L171 at hf
    refine J_iter (JJ := fun (s : Int32 × Int32) => J X 171 [(0, .ref (Xad X x0)), (2, .int x2), (3, .int x3), (4, .int x4), (5, .int x5), (6, .int x6), (7, .int x7), (8, .int x8), (9, .int x9), (10, .int x10), (11, .int x11), (12, .int (s.1)), (13, .int x13), (14, .int x14), (15, .int x15), (17, .int (s.2))] [] σ) (Ps := fun t => ((∀ r1, t = .inl r1 → r1 = t0) ∧ (∀ s1, t = .inr s1 → J X 99 [(0, .ref (Xad X x0)), (2, .int x2), (3, .int x3), (4, .int x4), (5, .int x5), (6, .int x6), (7, .int x7), (8, .int x8), (9, .int x9), (10, .int x10), (11, .int x11), (12, .int (s1.2.1)), (13, .int (s1.2.2.1)), (14, .int (s1.2.2.2.1)), (15, .int (s1.2.2.2.2))] [] s1.1))) ?_ w (x12, x17) t hf hp
    clear hf hp
    intro s t hf hp hq
    obtain ⟨x12, x17⟩ := s
    have hp := And.intro hp hq
    clear hq
    have hf : f_L_comesTrue_B171 n w σ x0 x2 x3 x4 x5 x6 x7 x8 x9 x10 x11 x12 x13 x14 x15 x17 = some t := hf
    show J X 171 [(0, .ref (Xad X x0)), (2, .int x2), (3, .int x3), (4, .int x4), (5, .int x5), (6, .int x6), (7, .int x7), (8, .int x8), (9, .int x9), (10, .int x10), (11, .int x11), (12, .int x12), (13, .int x13), (14, .int x14), (15, .int x15), (17, .int x17)] [] σ
    unfold f_L_comesTrue_B171 at hf
    refine J.iload (pc := 171) C dL_comesTrue_171 15 rfl ?_
    refine J.aload_n (pc := 173) C dL_comesTrue_173 rfl 0 rfl ?_
    refine J.iconst (pc := 174) C (v := 1) dL_comesTrue_174 (by decide) ?_
    obtain ⟨r_48, h_47, hf⟩ := bnd_some hf
    refine J.callV (pc := 175) C (m_X8_state h_47) hx0 wyX8_state tvX8_state_i tvX8_state_s tw_387 kcX8 rfl hx0 [.int 1] [.int x17] rfl rfl (Nat.le_of_ble_eq_true rfl) (Nat.le_of_ble_eq_true rfl) (Nat.le_of_ble_eq_true rfl) (stk' := [.int r_48, .int x17]) rfl dL_comesTrue_175 rfl ?_
    refine J.icmp_ge (pc := 178) C (tgt := 215) dL_comesTrue_178 (by decide) hf (fun hf => ?_) (fun hf => ?_)
    · obtain ⟨x15_49, hx_x15_49, hf⟩ := nm_some hf
      refine J.iinc (pc := 215) C (v := x15_49) (loc' := [(15, .int x15_49), (0, .ref (Xad X x0)), (2, .int x2), (3, .int x3), (4, .int x4), (5, .int x5), (6, .int x6), (7, .int x7), (8, .int x8), (9, .int x9), (10, .int x10), (11, .int x11), (12, .int x12), (13, .int x13), (14, .int x14), (17, .int x17)]) dL_comesTrue_215 (k := 14) rfl (by rw [hx_x15_49]; rfl) (by decide) rfl ?_
      refine J.goto (pc := 218) C (tgt := 99) dL_comesTrue_218 (by decide) ?_
      exact J.sub (loc' := [(0, .ref (Xad X x0)), (2, .int x2), (3, .int x3), (4, .int x4), (5, .int x5), (6, .int x6), (7, .int x7), (8, .int x8), (9, .int x9), (10, .int x10), (11, .int x11), (12, .int x12), (13, .int x13), (14, .int x14), (15, .int x15_49)]) [1, 2, 3, 4, 5, 6, 7, 8, 9, 10, 11, 12, 13, 14, 0] rfl ((hp.1 _ (Option.some.inj hf).symm).2 _ rfl)
    · refine J.aload_n (pc := 181) C dL_comesTrue_181 rfl 0 rfl ?_
      refine J.iload (pc := 182) C dL_comesTrue_182 15 rfl ?_
      refine J.bipush (pc := 184) C (v := 9) dL_comesTrue_184 (by decide) ?_
      obtain ⟨r_51, h_50, hf⟩ := bnd_some hf
      refine J.callV (pc := 186) C (m_X8_spray h_50) hx0 wyX8_spray tvX8_spray_i tvX8_spray_s tw_403 kcX8 rfl hx0 [.int x17, .int 9] [] rfl rfl (Nat.le_of_ble_eq_true rfl) (Nat.le_of_ble_eq_true rfl) (Nat.le_of_ble_eq_true rfl) (stk' := [.int r_51]) rfl dL_comesTrue_186 rfl ?_
      refine J.iload (pc := 189) C dL_comesTrue_189 11 rfl ?_
      refine J.icmp_le (pc := 191) C (tgt := 205) dL_comesTrue_191 (by decide) hf (fun hf => ?_) (fun hf => ?_)
      · refine J.iload (pc := 205) C dL_comesTrue_205 11 rfl ?_
        refine J.istore (pc := 207) C (loc' := [(12, .int x12), (0, .ref (Xad X x0)), (2, .int x2), (3, .int x3), (4, .int x4), (5, .int x5), (6, .int x6), (7, .int x7), (8, .int x8), (9, .int x9), (10, .int x10), (11, .int x11), (13, .int x13), (14, .int x14), (15, .int x15), (17, .int x17)]) dL_comesTrue_207 (by decide) rfl ?_
        obtain ⟨x17_52, hx_x17_52, hf⟩ := nm_some hf
        refine J.iinc (pc := 209) C (v := x17_52) (loc' := [(17, .int x17_52), (12, .int x12), (0, .ref (Xad X x0)), (2, .int x2), (3, .int x3), (4, .int x4), (5, .int x5), (6, .int x6), (7, .int x7), (8, .int x8), (9, .int x9), (10, .int x10), (11, .int x11), (13, .int x13), (14, .int x14), (15, .int x15)]) dL_comesTrue_209 (k := 15) rfl (by rw [hx_x17_52]; rfl) (by decide) rfl ?_
        refine J.goto (pc := 212) C (tgt := 171) dL_comesTrue_212 (by decide) ?_
        exact J.sub (loc' := [(0, .ref (Xad X x0)), (2, .int x2), (3, .int x3), (4, .int x4), (5, .int x5), (6, .int x6), (7, .int x7), (8, .int x8), (9, .int x9), (10, .int x10), (11, .int x11), (12, .int x12), (13, .int x13), (14, .int x14), (15, .int x15), (17, .int x17_52)]) [2, 3, 4, 5, 6, 7, 8, 9, 10, 11, 12, 1, 13, 14, 15, 0] rfl (hp.2 _ (Option.some.inj hf).symm)
      · refine J.aload_n (pc := 194) C dL_comesTrue_194 rfl 0 rfl ?_
        refine J.iload (pc := 195) C dL_comesTrue_195 15 rfl ?_
        refine J.bipush (pc := 197) C (v := 9) dL_comesTrue_197 (by decide) ?_
        obtain ⟨r_54, h_53, hf⟩ := bnd_some hf
        refine J.callV (pc := 199) C (m_X8_spray h_53) hx0 wyX8_spray tvX8_spray_i tvX8_spray_s tw_403 kcX8 rfl hx0 [.int x17, .int 9] [] rfl rfl (Nat.le_of_ble_eq_true rfl) (Nat.le_of_ble_eq_true rfl) (Nat.le_of_ble_eq_true rfl) (stk' := [.int r_54]) rfl dL_comesTrue_199 rfl ?_
        refine J.goto (pc := 202) C (tgt := 207) dL_comesTrue_202 (by decide) ?_
        refine J.istore (pc := 207) C (loc' := [(12, .int r_54), (0, .ref (Xad X x0)), (2, .int x2), (3, .int x3), (4, .int x4), (5, .int x5), (6, .int x6), (7, .int x7), (8, .int x8), (9, .int x9), (10, .int x10), (11, .int x11), (13, .int x13), (14, .int x14), (15, .int x15), (17, .int x17)]) dL_comesTrue_207 (by decide) rfl ?_
        obtain ⟨x17_55, hx_x17_55, hf⟩ := nm_some hf
        refine J.iinc (pc := 209) C (v := x17_55) (loc' := [(17, .int x17_55), (12, .int r_54), (0, .ref (Xad X x0)), (2, .int x2), (3, .int x3), (4, .int x4), (5, .int x5), (6, .int x6), (7, .int x7), (8, .int x8), (9, .int x9), (10, .int x10), (11, .int x11), (13, .int x13), (14, .int x14), (15, .int x15)]) dL_comesTrue_209 (k := 15) rfl (by rw [hx_x17_55]; rfl) (by decide) rfl ?_
        refine J.goto (pc := 212) C (tgt := 171) dL_comesTrue_212 (by decide) ?_
        exact J.sub (loc' := [(0, .ref (Xad X x0)), (2, .int x2), (3, .int x3), (4, .int x4), (5, .int x5), (6, .int x6), (7, .int x7), (8, .int x8), (9, .int x9), (10, .int x10), (11, .int x11), (12, .int r_54), (13, .int x13), (14, .int x14), (15, .int x15), (17, .int x17_55)]) [2, 3, 4, 5, 6, 7, 8, 9, 10, 11, 12, 1, 13, 14, 15, 0] rfl (hp.2 _ (Option.some.inj hf).symm)
  have L166 : ∀ (σ : Mem) (x2 : Int32) (x3 : Int32) (x4 : Int32) (x5 : Int32) (x6 : Int32) (x7 : Int32) (x8 : Int32) (x9 : Int32) (x10 : Int32) (x11 : Int32) (x12 : Int32) (x14 : Int32) (x15 : Int32) (y0 : Int32) (t : ((Int32 × Mem) ⊕ (Mem × Int32 × Int32 × Int32 × Int32))), f_L_comesTrue_L166 n w σ x0 x2 x3 x4 x5 x6 x7 x8 x9 x10 x11 x12 x14 x15 y0 = some t → ((∀ r1, t = .inl r1 → r1 = t0) ∧ (∀ s1, t = .inr s1 → J X 99 [(0, .ref (Xad X x0)), (2, .int x2), (3, .int x3), (4, .int x4), (5, .int x5), (6, .int x6), (7, .int x7), (8, .int x8), (9, .int x9), (10, .int x10), (11, .int x11), (12, .int (s1.2.1)), (13, .int (s1.2.2.1)), (14, .int (s1.2.2.2.1)), (15, .int (s1.2.2.2.2))] [] s1.1)) → J X 166 [(0, .ref (Xad X x0)), (2, .int x2), (3, .int x3), (4, .int x4), (5, .int x5), (6, .int x6), (7, .int x7), (8, .int x8), (9, .int x9), (10, .int x10), (11, .int x11), (12, .int x12), (14, .int x14), (15, .int x15)] [.int y0] σ := by
    intro σ x2 x3 x4 x5 x6 x7 x8 x9 x10 x11 x12 x14 x15 y0 t hf hp
    unfold f_L_comesTrue_L166 at hf
    refine J.istore (pc := 166) C (loc' := [(13, .int y0), (0, .ref (Xad X x0)), (2, .int x2), (3, .int x3), (4, .int x4), (5, .int x5), (6, .int x6), (7, .int x7), (8, .int x8), (9, .int x9), (10, .int x10), (11, .int x11), (12, .int x12), (14, .int x14), (15, .int x15)]) dL_comesTrue_166 (by decide) rfl ?_
    refine J.iconst (pc := 168) C (v := 0) dL_comesTrue_168 (by decide) ?_
    refine J.istore (pc := 169) C (loc' := [(17, .int 0), (13, .int y0), (0, .ref (Xad X x0)), (2, .int x2), (3, .int x3), (4, .int x4), (5, .int x5), (6, .int x6), (7, .int x7), (8, .int x8), (9, .int x9), (10, .int x10), (11, .int x11), (12, .int x12), (14, .int x14), (15, .int x15)]) dL_comesTrue_169 (by decide) rfl ?_
    exact J.sub (loc' := [(0, .ref (Xad X x0)), (2, .int x2), (3, .int x3), (4, .int x4), (5, .int x5), (6, .int x6), (7, .int x7), (8, .int x8), (9, .int x9), (10, .int x10), (11, .int x11), (12, .int x12), (13, .int y0), (14, .int x14), (15, .int x15), (17, .int 0)]) [2, 3, 4, 5, 6, 7, 8, 9, 10, 11, 12, 13, 1, 14, 15, 0] rfl (L171 σ x2 x3 x4 x5 x6 x7 x8 x9 x10 x11 x12 y0 x14 x15 0 _ hf hp)
  have L142 : ∀ (σ : Mem) (x2 : Int32) (x3 : Int32) (x4 : Int32) (x5 : Int32) (x6 : Int32) (x7 : Int32) (x8 : Int32) (x9 : Int32) (x10 : Int32) (x11 : Int32) (x12 : Int32) (x13 : Int32) (x15 : Int32) (y0 : Int32) (t : ((Int32 × Mem) ⊕ (Mem × Int32 × Int32 × Int32 × Int32))), f_L_comesTrue_L142 n w σ x0 x2 x3 x4 x5 x6 x7 x8 x9 x10 x11 x12 x13 x15 y0 = some t → ((∀ r1, t = .inl r1 → r1 = t0) ∧ (∀ s1, t = .inr s1 → J X 99 [(0, .ref (Xad X x0)), (2, .int x2), (3, .int x3), (4, .int x4), (5, .int x5), (6, .int x6), (7, .int x7), (8, .int x8), (9, .int x9), (10, .int x10), (11, .int x11), (12, .int (s1.2.1)), (13, .int (s1.2.2.1)), (14, .int (s1.2.2.2.1)), (15, .int (s1.2.2.2.2))] [] s1.1)) → J X 142 [(0, .ref (Xad X x0)), (2, .int x2), (3, .int x3), (4, .int x4), (5, .int x5), (6, .int x6), (7, .int x7), (8, .int x8), (9, .int x9), (10, .int x10), (11, .int x11), (12, .int x12), (13, .int x13), (15, .int x15)] [.int y0] σ := by
    intro σ x2 x3 x4 x5 x6 x7 x8 x9 x10 x11 x12 x13 x15 y0 t hf hp
    unfold f_L_comesTrue_L142 at hf
    refine J.istore (pc := 142) C (loc' := [(14, .int y0), (0, .ref (Xad X x0)), (2, .int x2), (3, .int x3), (4, .int x4), (5, .int x5), (6, .int x6), (7, .int x7), (8, .int x8), (9, .int x9), (10, .int x10), (11, .int x11), (12, .int x12), (13, .int x13), (15, .int x15)]) dL_comesTrue_142 (by decide) rfl ?_
    refine J.aload_n (pc := 144) C dL_comesTrue_144 rfl 1 rfl ?_
    refine J.iload_n (pc := 145) C dL_comesTrue_145 rfl 3 rfl ?_
    refine J.iconst (pc := 146) C (v := 3) dL_comesTrue_146 (by decide) ?_
    obtain ⟨r_46, h_45, hf⟩ := bnd_some hf
    refine J.callV (pc := 147) C (m_X8_pressure h_45) hx0 wyX8_pressure tvX8_pressure_i tvX8_pressure_s tw_407 kcX8 rfl hx0 [.int x3, .int 3] [] rfl rfl (Nat.le_of_ble_eq_true rfl) (Nat.le_of_ble_eq_true rfl) (Nat.le_of_ble_eq_true rfl) (stk' := [.int r_46]) rfl dL_comesTrue_147 rfl ?_
    refine J.iload (pc := 150) C dL_comesTrue_150 13 rfl ?_
    refine J.icmp_le (pc := 152) C (tgt := 164) dL_comesTrue_152 (by decide) hf (fun hf => ?_) (fun hf => ?_)
    · refine J.iload (pc := 164) C dL_comesTrue_164 13 rfl ?_
      exact J.sub (loc' := [(0, .ref (Xad X x0)), (2, .int x2), (3, .int x3), (4, .int x4), (5, .int x5), (6, .int x6), (7, .int x7), (8, .int x8), (9, .int x9), (10, .int x10), (11, .int x11), (12, .int x12), (14, .int y0), (15, .int x15)]) [1, 2, 3, 4, 5, 6, 7, 8, 9, 10, 11, 12, 0, 14] rfl (L166 σ x2 x3 x4 x5 x6 x7 x8 x9 x10 x11 x12 y0 x15 x13 _ hf hp)
    · refine J.aload_n (pc := 155) C dL_comesTrue_155 rfl 1 rfl ?_
      refine J.iload_n (pc := 156) C dL_comesTrue_156 rfl 3 rfl ?_
      refine J.iconst (pc := 157) C (v := 3) dL_comesTrue_157 (by decide) ?_
      obtain ⟨r_57, h_56, hf⟩ := bnd_some hf
      refine J.callV (pc := 158) C (m_X8_pressure h_56) hx0 wyX8_pressure tvX8_pressure_i tvX8_pressure_s tw_407 kcX8 rfl hx0 [.int x3, .int 3] [] rfl rfl (Nat.le_of_ble_eq_true rfl) (Nat.le_of_ble_eq_true rfl) (Nat.le_of_ble_eq_true rfl) (stk' := [.int r_57]) rfl dL_comesTrue_158 rfl ?_
      refine J.goto (pc := 161) C (tgt := 166) dL_comesTrue_161 (by decide) ?_
      exact J.sub (loc' := [(0, .ref (Xad X x0)), (2, .int x2), (3, .int x3), (4, .int x4), (5, .int x5), (6, .int x6), (7, .int x7), (8, .int x8), (9, .int x9), (10, .int x10), (11, .int x11), (12, .int x12), (14, .int y0), (15, .int x15)]) [1, 2, 3, 4, 5, 6, 7, 8, 9, 10, 11, 12, 0, 14] rfl (L166 σ x2 x3 x4 x5 x6 x7 x8 x9 x10 x11 x12 y0 x15 r_57 _ hf hp)
  have L140 : ∀ (σ : Mem) (x2 : Int32) (x3 : Int32) (x4 : Int32) (x5 : Int32) (x6 : Int32) (x7 : Int32) (x8 : Int32) (x9 : Int32) (x10 : Int32) (x11 : Int32) (x12 : Int32) (x13 : Int32) (x14 : Int32) (x15 : Int32) (t : ((Int32 × Mem) ⊕ (Mem × Int32 × Int32 × Int32 × Int32))), f_L_comesTrue_L140 n w σ x0 x2 x3 x4 x5 x6 x7 x8 x9 x10 x11 x12 x13 x14 x15 = some t → ((∀ r1, t = .inl r1 → r1 = t0) ∧ (∀ s1, t = .inr s1 → J X 99 [(0, .ref (Xad X x0)), (2, .int x2), (3, .int x3), (4, .int x4), (5, .int x5), (6, .int x6), (7, .int x7), (8, .int x8), (9, .int x9), (10, .int x10), (11, .int x11), (12, .int (s1.2.1)), (13, .int (s1.2.2.1)), (14, .int (s1.2.2.2.1)), (15, .int (s1.2.2.2.2))] [] s1.1)) → J X 140 [(0, .ref (Xad X x0)), (2, .int x2), (3, .int x3), (4, .int x4), (5, .int x5), (6, .int x6), (7, .int x7), (8, .int x8), (9, .int x9), (10, .int x10), (11, .int x11), (12, .int x12), (13, .int x13), (14, .int x14), (15, .int x15)] [] σ := by
    intro σ x2 x3 x4 x5 x6 x7 x8 x9 x10 x11 x12 x13 x14 x15 t hf hp
    unfold f_L_comesTrue_L140 at hf
    refine J.iload (pc := 140) C dL_comesTrue_140 13 rfl ?_
    exact J.sub (loc' := [(0, .ref (Xad X x0)), (2, .int x2), (3, .int x3), (4, .int x4), (5, .int x5), (6, .int x6), (7, .int x7), (8, .int x8), (9, .int x9), (10, .int x10), (11, .int x11), (12, .int x12), (13, .int x13), (15, .int x15)]) [0, 1, 2, 3, 4, 5, 6, 7, 8, 9, 10, 11, 12, 14] rfl (L142 σ x2 x3 x4 x5 x6 x7 x8 x9 x10 x11 x12 x13 x15 x14 _ hf hp)
  have L99 : ∀ (σ : Mem) (x2 : Int32) (x3 : Int32) (x4 : Int32) (x5 : Int32) (x6 : Int32) (x7 : Int32) (x8 : Int32) (x9 : Int32) (x10 : Int32) (x11 : Int32) (x12 : Int32) (x13 : Int32) (x14 : Int32) (x15 : Int32) (t : (Int32 × Mem)), f_L_comesTrue_L99 n w σ x0 x2 x3 x4 x5 x6 x7 x8 x9 x10 x11 x12 x13 x14 x15 = some t → t = t0 → J X 99 [(0, .ref (Xad X x0)), (2, .int x2), (3, .int x3), (4, .int x4), (5, .int x5), (6, .int x6), (7, .int x7), (8, .int x8), (9, .int x9), (10, .int x10), (11, .int x11), (12, .int x12), (13, .int x13), (14, .int x14), (15, .int x15)] [] σ := by
    intro σ x2 x3 x4 x5 x6 x7 x8 x9 x10 x11 x12 x13 x14 x15 t hf hp
    unfold f_L_comesTrue_L99 at hf
    refine J_iter (JJ := fun (s : Mem × Int32 × Int32 × Int32 × Int32) => J X 99 [(0, .ref (Xad X x0)), (2, .int x2), (3, .int x3), (4, .int x4), (5, .int x5), (6, .int x6), (7, .int x7), (8, .int x8), (9, .int x9), (10, .int x10), (11, .int x11), (12, .int (s.2.1)), (13, .int (s.2.2.1)), (14, .int (s.2.2.2.1)), (15, .int (s.2.2.2.2))] [] s.1) (Ps := fun t => t = t0) ?_ w (σ, x12, x13, x14, x15) t hf hp
    clear hf hp
    intro s t hf hp hq
    obtain ⟨σ, x12, x13, x14, x15⟩ := s
    have hp := And.intro hp hq
    clear hq
    have hf : f_L_comesTrue_B99 n w σ x0 x2 x3 x4 x5 x6 x7 x8 x9 x10 x11 x12 x13 x14 x15 = some t := hf
    show J X 99 [(0, .ref (Xad X x0)), (2, .int x2), (3, .int x3), (4, .int x4), (5, .int x5), (6, .int x6), (7, .int x7), (8, .int x8), (9, .int x9), (10, .int x10), (11, .int x11), (12, .int x12), (13, .int x13), (14, .int x14), (15, .int x15)] [] σ
    unfold f_L_comesTrue_B99 at hf
    refine J.iload (pc := 99) C dL_comesTrue_99 14 rfl ?_
    refine J.iload_n (pc := 101) C dL_comesTrue_101 rfl 1 rfl ?_
    refine J.icmp_ge (pc := 102) C (tgt := 221) dL_comesTrue_102 (by decide) hf (fun hf => ?_) (fun hf => ?_)
    · refine J.aload_n (pc := 221) C dL_comesTrue_221 rfl 0 rfl ?_
      refine J.iload_n (pc := 222) C dL_comesTrue_222 rfl 2 rfl ?_
      refine J.iconst (pc := 223) C (v := 4) dL_comesTrue_223 (by decide) ?_
      obtain ⟨r_29, h_28, hf⟩ := bnd_some hf
      refine J.callV (pc := 224) C (m_X8_pressure h_28) hx0 wyX8_pressure tvX8_pressure_i tvX8_pressure_s tw_407 kcX8 rfl hx0 [.int x3, .int 4] [] rfl rfl (Nat.le_of_ble_eq_true rfl) (Nat.le_of_ble_eq_true rfl) (Nat.le_of_ble_eq_true rfl) (stk' := [.int r_29]) rfl dL_comesTrue_224 rfl ?_
      refine J.iload (pc := 227) C dL_comesTrue_227 9 rfl ?_
      refine J.isub (pc := 229) C dL_comesTrue_229 ?_
      refine J.iload (pc := 230) C dL_comesTrue_230 4 rfl ?_
      refine J.icmp_ne (pc := 232) C (tgt := 308) dL_comesTrue_232 (by decide) hf (fun hf => ?_) (fun hf => ?_)
      · refine J.iconst (pc := 308) C (v := 0) dL_comesTrue_308 (by decide) ?_
        exact J.zretM (pc := 309) C rfl hR ((hp.1 _ (Option.some.inj hf).symm)) dL_comesTrue_309
      · refine J.aload_n (pc := 235) C dL_comesTrue_235 rfl 0 rfl ?_
        refine J.bipush (pc := 236) C (v := 7) dL_comesTrue_236 (by decide) ?_
        obtain ⟨r_31, h_30, hf⟩ := bnd_some hf
        refine J.callV (pc := 238) C (m_X8_state h_30) hx0 wyX8_state tvX8_state_i tvX8_state_s tw_387 kcX8 rfl hx0 [.int 7] [] rfl rfl (Nat.le_of_ble_eq_true rfl) (Nat.le_of_ble_eq_true rfl) (Nat.le_of_ble_eq_true rfl) (stk' := [.int r_31]) rfl dL_comesTrue_238 rfl ?_
        refine J.iload (pc := 241) C dL_comesTrue_241 10 rfl ?_
        refine J.isub (pc := 243) C dL_comesTrue_243 ?_
        refine J.iload (pc := 244) C dL_comesTrue_244 6 rfl ?_
        refine J.icmp_ne (pc := 246) C (tgt := 308) dL_comesTrue_246 (by decide) hf (fun hf => ?_) (fun hf => ?_)
        · refine J.iconst (pc := 308) C (v := 0) dL_comesTrue_308 (by decide) ?_
          exact J.zretM (pc := 309) C rfl hR ((hp.1 _ (Option.some.inj hf).symm)) dL_comesTrue_309
        · refine J.iload (pc := 249) C dL_comesTrue_249 13 rfl ?_
          refine J.iload (pc := 251) C dL_comesTrue_251 5 rfl ?_
          refine J.icmp_ne (pc := 253) C (tgt := 308) dL_comesTrue_253 (by decide) hf (fun hf => ?_) (fun hf => ?_)
          · refine J.iconst (pc := 308) C (v := 0) dL_comesTrue_308 (by decide) ?_
            exact J.zretM (pc := 309) C rfl hR ((hp.1 _ (Option.some.inj hf).symm)) dL_comesTrue_309
          · refine J.iload (pc := 256) C dL_comesTrue_256 12 rfl ?_
            refine J.iload (pc := 258) C dL_comesTrue_258 3 rfl ?_
            refine J.icmp_ne (pc := 260) C (tgt := 308) dL_comesTrue_260 (by decide) hf (fun hf => ?_) (fun hf => ?_)
            · refine J.iconst (pc := 308) C (v := 0) dL_comesTrue_308 (by decide) ?_
              exact J.zretM (pc := 309) C rfl hR ((hp.1 _ (Option.some.inj hf).symm)) dL_comesTrue_309
            · refine J.iload (pc := 263) C dL_comesTrue_263 11 rfl ?_
              refine J.iload (pc := 265) C dL_comesTrue_265 7 rfl ?_
              refine J.icmp_ne (pc := 267) C (tgt := 308) dL_comesTrue_267 (by decide) hf (fun hf => ?_) (fun hf => ?_)
              · refine J.iconst (pc := 308) C (v := 0) dL_comesTrue_308 (by decide) ?_
                exact J.zretM (pc := 309) C rfl hR ((hp.1 _ (Option.some.inj hf).symm)) dL_comesTrue_309
              · refine J.aload_n (pc := 270) C dL_comesTrue_270 rfl 0 rfl ?_
                refine J.iconst (pc := 271) C (v := 0) dL_comesTrue_271 (by decide) ?_
                obtain ⟨r_33, h_32, hf⟩ := bnd_some hf
                refine J.callV (pc := 272) C (m_X8_state h_32) hx0 wyX8_state tvX8_state_i tvX8_state_s tw_387 kcX8 rfl hx0 [.int 0] [] rfl rfl (Nat.le_of_ble_eq_true rfl) (Nat.le_of_ble_eq_true rfl) (Nat.le_of_ble_eq_true rfl) (stk' := [.int r_33]) rfl dL_comesTrue_272 rfl ?_
                refine J.iload (pc := 275) C dL_comesTrue_275 8 rfl ?_
                refine J.iload_n (pc := 277) C dL_comesTrue_277 rfl 1 rfl ?_
                refine J.iadd (pc := 278) C dL_comesTrue_278 ?_
                refine J.icmp_ne (pc := 279) C (tgt := 308) dL_comesTrue_279 (by decide) hf (fun hf => ?_) (fun hf => ?_)
                · refine J.iconst (pc := 308) C (v := 0) dL_comesTrue_308 (by decide) ?_
                  exact J.zretM (pc := 309) C rfl hR ((hp.1 _ (Option.some.inj hf).symm)) dL_comesTrue_309
                · refine J.aload_n (pc := 282) C dL_comesTrue_282 rfl 0 rfl ?_
                  refine J.iconst (pc := 283) C (v := 0) dL_comesTrue_283 (by decide) ?_
                  obtain ⟨r_35, σ_36, h_34, hf⟩ := bnd2_some hf
                  refine J.callV (pc := 284) C (m_X8_restore h_34) hx0 wyX8_restore tvX8_restore_i tvX8_restore_s tw_646 kcX8 rfl hx0 [.int 0] [] rfl rfl (Nat.le_of_ble_eq_true rfl) (Nat.le_of_ble_eq_true rfl) (Nat.le_of_ble_eq_true rfl) (stk' := [.int r_35]) rfl dL_comesTrue_284 rfl ?_
                  refine J.iload (pc := 287) C dL_comesTrue_287 8 rfl ?_
                  refine J.icmp_ne (pc := 289) C (tgt := 308) dL_comesTrue_289 (by decide) hf (fun hf => ?_) (fun hf => ?_)
                  · refine J.iconst (pc := 308) C (v := 0) dL_comesTrue_308 (by decide) ?_
                    exact J.zretM (pc := 309) C rfl hR ((hp.1 _ (Option.some.inj hf).symm)) dL_comesTrue_309
                  · refine J.aload_n (pc := 292) C dL_comesTrue_292 rfl 0 rfl ?_
                    refine J.iload_n (pc := 293) C dL_comesTrue_293 rfl 1 rfl ?_
                    refine J.iload_n (pc := 294) C dL_comesTrue_294 rfl 2 rfl ?_
                    refine J.iconst (pc := 295) C (v := 0) dL_comesTrue_295 (by decide) ?_
                    obtain ⟨r_38, σ_39, h_37, hf⟩ := bnd2_some hf
                    refine J.callV (pc := 296) C (m_X8_ahead h_37) hx0 wyX8_ahead tvX8_ahead_i tvX8_ahead_s tw_576 kcX8 rfl hx0 [.int x2, .int x3, .int 0] [] rfl rfl (Nat.le_of_ble_eq_true rfl) (Nat.le_of_ble_eq_true rfl) (Nat.le_of_ble_eq_true rfl) (stk' := [.int r_38]) rfl dL_comesTrue_296 rfl ?_
                    refine J.iload (pc := 299) C dL_comesTrue_299 3 rfl ?_
                    refine J.icmp_ne (pc := 301) C (tgt := 308) dL_comesTrue_301 (by decide) hf (fun hf => ?_) (fun hf => ?_)
                    · refine J.iconst (pc := 308) C (v := 0) dL_comesTrue_308 (by decide) ?_
                      exact J.zretM (pc := 309) C rfl hR ((hp.1 _ (Option.some.inj hf).symm)) dL_comesTrue_309
                    · refine J.iconst (pc := 304) C (v := 1) dL_comesTrue_304 (by decide) ?_
                      refine J.goto (pc := 305) C (tgt := 309) dL_comesTrue_305 (by decide) ?_
                      exact J.zretM (pc := 309) C rfl hR ((hp.1 _ (Option.some.inj hf).symm)) dL_comesTrue_309
    · refine J.aload_n (pc := 105) C dL_comesTrue_105 rfl 0 rfl ?_
      refine J.iload_n (pc := 106) C dL_comesTrue_106 rfl 2 rfl ?_
      refine J.iconst (pc := 107) C (v := 4) dL_comesTrue_107 (by decide) ?_
      obtain ⟨r_41, h_40, hf⟩ := bnd_some hf
      refine J.callV (pc := 108) C (m_X8_pressure h_40) hx0 wyX8_pressure tvX8_pressure_i tvX8_pressure_s tw_407 kcX8 rfl hx0 [.int x3, .int 4] [] rfl rfl (Nat.le_of_ble_eq_true rfl) (Nat.le_of_ble_eq_true rfl) (Nat.le_of_ble_eq_true rfl) (stk' := [.int r_41]) rfl dL_comesTrue_108 rfl ?_
      refine J.istore (pc := 111) C (loc' := [(16, .int r_41), (0, .ref (Xad X x0)), (2, .int x2), (3, .int x3), (4, .int x4), (5, .int x5), (6, .int x6), (7, .int x7), (8, .int x8), (9, .int x9), (10, .int x10), (11, .int x11), (12, .int x12), (13, .int x13), (14, .int x14), (15, .int x15)]) dL_comesTrue_111 (by decide) rfl ?_
      refine J.aload_n (pc := 113) C dL_comesTrue_113 rfl 1 rfl ?_
      refine J.iconst (pc := 114) C (v := 1) dL_comesTrue_114 (by decide) ?_
      obtain ⟨r_43, σ_44, h_42, hf⟩ := bnd2_some hf
      refine J.callV (pc := 115) C (m_X8_tick h_42) hx0 wyX8_tick tvX8_tick_i tvX8_tick_s tw_411 kcX8 rfl hx0 [.int 1] [] rfl rfl (Nat.le_of_ble_eq_true rfl) (Nat.le_of_ble_eq_true rfl) (Nat.le_of_ble_eq_true rfl) (stk' := [.int r_43]) rfl dL_comesTrue_115 rfl ?_
      refine J.pop (pc := 118) C dL_comesTrue_118 rfl ?_
      refine J.iload (pc := 119) C dL_comesTrue_119 14 rfl ?_
      refine J.if_ge (pc := 121) C (tgt := 140) dL_comesTrue_121 (by decide) hf (fun hf => ?_) (fun hf => ?_)
      · exact J.sub (loc' := [(0, .ref (Xad X x0)), (2, .int x2), (3, .int x3), (4, .int x4), (5, .int x5), (6, .int x6), (7, .int x7), (8, .int x8), (9, .int x9), (10, .int x10), (11, .int x11), (12, .int x12), (13, .int x13), (14, .int x14), (15, .int x15)]) [1, 2, 3, 4, 5, 6, 7, 8, 9, 10, 11, 12, 13, 14, 15] rfl (L140 σ_44 x2 x3 x4 x5 x6 x7 x8 x9 x10 x11 x12 x13 x14 x15 _ hf hp)
      · refine J.aload_n (pc := 124) C dL_comesTrue_124 rfl 1 rfl ?_
        refine J.iload_n (pc := 125) C dL_comesTrue_125 rfl 3 rfl ?_
        refine J.iconst (pc := 126) C (v := 4) dL_comesTrue_126 (by decide) ?_
        obtain ⟨r_59, h_58, hf⟩ := bnd_some hf
        refine J.callV (pc := 127) C (m_X8_pressure h_58) hx0 wyX8_pressure tvX8_pressure_i tvX8_pressure_s tw_407 kcX8 rfl hx0 [.int x3, .int 4] [] rfl rfl (Nat.le_of_ble_eq_true rfl) (Nat.le_of_ble_eq_true rfl) (Nat.le_of_ble_eq_true rfl) (stk' := [.int r_59]) rfl dL_comesTrue_127 rfl ?_
        refine J.iload (pc := 130) C dL_comesTrue_130 0 rfl ?_
        refine J.icmp_le (pc := 132) C (tgt := 140) dL_comesTrue_132 (by decide) hf (fun hf => ?_) (fun hf => ?_)
        · exact J.sub (loc' := [(0, .ref (Xad X x0)), (2, .int x2), (3, .int x3), (4, .int x4), (5, .int x5), (6, .int x6), (7, .int x7), (8, .int x8), (9, .int x9), (10, .int x10), (11, .int x11), (12, .int x12), (13, .int x13), (14, .int x14), (15, .int x15)]) [1, 2, 3, 4, 5, 6, 7, 8, 9, 10, 11, 12, 13, 14, 15] rfl (L140 σ_44 x2 x3 x4 x5 x6 x7 x8 x9 x10 x11 x12 x13 x14 x15 _ hf hp)
        · refine J.iload (pc := 135) C dL_comesTrue_135 15 rfl ?_
          refine J.goto (pc := 137) C (tgt := 142) dL_comesTrue_137 (by decide) ?_
          exact J.sub (loc' := [(0, .ref (Xad X x0)), (2, .int x2), (3, .int x3), (4, .int x4), (5, .int x5), (6, .int x6), (7, .int x7), (8, .int x8), (9, .int x9), (10, .int x10), (11, .int x11), (12, .int x12), (13, .int x13), (15, .int x15)]) [1, 2, 3, 4, 5, 6, 7, 8, 9, 10, 11, 12, 13, 15] rfl (L142 σ_44 x2 x3 x4 x5 x6 x7 x8 x9 x10 x11 x12 x13 x15 x15 _ hf hp)
  have hp : t0 = t0 := rfl
  show J X 0 [(0, .ref (Xad X x0)), (1, .int x1)] [] σ
  unfold f_L_comesTrue at hf
  refine J.iconst (pc := 0) C (v := 1) dL_comesTrue_0 (by decide) ?_
  refine J.iload_n (pc := 1) C dL_comesTrue_1 rfl 1 rfl ?_
  refine J.bipush (pc := 2) C (v := 40) dL_comesTrue_2 (by decide) ?_
  obtain ⟨r_2, h_1, hf⟩ := bnd_some hf
  refine J.callS (pc := 4) C (m_L_up h_1) trivial wyL_up tsL_up tw_377 [.int x1, .int 40] [.int 1] rfl rfl (Nat.le_of_ble_eq_true rfl) (Nat.le_of_ble_eq_true rfl) (Nat.le_of_ble_eq_true rfl) (stk' := [.int r_2, .int 1]) rfl dL_comesTrue_4 rfl ?_
  refine J.iadd (pc := 7) C dL_comesTrue_7 ?_
  refine J.nmI hf (fun x2_3 hf => ?_)
  refine J.istore_n (pc := 8) C (loc' := [(2, .int x2_3), (0, .ref (Xad X x0)), (1, .int x1)]) dL_comesTrue_8 rfl (by decide) rfl ?_
  refine J.iload_n (pc := 9) C dL_comesTrue_9 rfl 2 rfl ?_
  refine J.bipush (pc := 10) C (v := 6) dL_comesTrue_10 (by decide) ?_
  refine J.ishr (pc := 12) C dL_comesTrue_12 ?_
  refine J.iconst (pc := 13) C (v := 3) dL_comesTrue_13 (by decide) ?_
  obtain ⟨r_5, h_4, hf⟩ := bnd_some hf
  refine J.callS (pc := 14) C (m_L_up h_4) trivial wyL_up tsL_up tw_377 [.int (x1 >>> (6 &&& 31)), .int 3] [] rfl rfl (Nat.le_of_ble_eq_true rfl) (Nat.le_of_ble_eq_true rfl) (Nat.le_of_ble_eq_true rfl) (stk' := [.int r_5]) rfl dL_comesTrue_14 rfl ?_
  refine J.istore_n (pc := 17) C (loc' := [(3, .int r_5), (2, .int x2_3), (0, .ref (Xad X x0)), (1, .int x1)]) dL_comesTrue_17 rfl (by decide) rfl ?_
  refine J.aload_n (pc := 18) C dL_comesTrue_18 rfl 2 rfl ?_
  refine J.iload_n (pc := 19) C dL_comesTrue_19 rfl 1 rfl ?_
  refine J.iload_n (pc := 20) C dL_comesTrue_20 rfl 0 rfl ?_
  refine J.iconst (pc := 21) C (v := 0) dL_comesTrue_21 (by decide) ?_
  obtain ⟨r_7, σ_8, h_6, hf⟩ := bnd2_some hf
  refine J.callV (pc := 22) C (m_X8_ahead h_6) hx0 wyX8_ahead tvX8_ahead_i tvX8_ahead_s tw_576 kcX8 rfl hx0 [.int x2_3, .int r_5, .int 0] [] rfl rfl (Nat.le_of_ble_eq_true rfl) (Nat.le_of_ble_eq_true rfl) (Nat.le_of_ble_eq_true rfl) (stk' := [.int r_7]) rfl dL_comesTrue_22 rfl ?_
  refine J.istore (pc := 25) C (loc' := [(4, .int r_7), (3, .int r_5), (2, .int x2_3), (0, .ref (Xad X x0)), (1, .int x1)]) dL_comesTrue_25 (by decide) rfl ?_
  refine J.aload_n (pc := 27) C dL_comesTrue_27 rfl 3 rfl ?_
  refine J.iload_n (pc := 28) C dL_comesTrue_28 rfl 2 rfl ?_
  refine J.iload_n (pc := 29) C dL_comesTrue_29 rfl 1 rfl ?_
  refine J.iconst (pc := 30) C (v := 1) dL_comesTrue_30 (by decide) ?_
  obtain ⟨r_10, σ_11, h_9, hf⟩ := bnd2_some hf
  refine J.callV (pc := 31) C (m_X8_ahead h_9) hx0 wyX8_ahead tvX8_ahead_i tvX8_ahead_s tw_576 kcX8 rfl hx0 [.int x2_3, .int r_5, .int 1] [] rfl rfl (Nat.le_of_ble_eq_true rfl) (Nat.le_of_ble_eq_true rfl) (Nat.le_of_ble_eq_true rfl) (stk' := [.int r_10]) rfl dL_comesTrue_31 rfl ?_
  refine J.istore (pc := 34) C (loc' := [(5, .int r_10), (4, .int r_7), (3, .int r_5), (2, .int x2_3), (0, .ref (Xad X x0)), (1, .int x1)]) dL_comesTrue_34 (by decide) rfl ?_
  refine J.aload_n (pc := 36) C dL_comesTrue_36 rfl 4 rfl ?_
  refine J.iload_n (pc := 37) C dL_comesTrue_37 rfl 3 rfl ?_
  refine J.iload_n (pc := 38) C dL_comesTrue_38 rfl 2 rfl ?_
  refine J.iconst (pc := 39) C (v := 2) dL_comesTrue_39 (by decide) ?_
  obtain ⟨r_13, σ_14, h_12, hf⟩ := bnd2_some hf
  refine J.callV (pc := 40) C (m_X8_ahead h_12) hx0 wyX8_ahead tvX8_ahead_i tvX8_ahead_s tw_576 kcX8 rfl hx0 [.int x2_3, .int r_5, .int 2] [] rfl rfl (Nat.le_of_ble_eq_true rfl) (Nat.le_of_ble_eq_true rfl) (Nat.le_of_ble_eq_true rfl) (stk' := [.int r_13]) rfl dL_comesTrue_40 rfl ?_
  refine J.istore (pc := 43) C (loc' := [(6, .int r_13), (5, .int r_10), (4, .int r_7), (3, .int r_5), (2, .int x2_3), (0, .ref (Xad X x0)), (1, .int x1)]) dL_comesTrue_43 (by decide) rfl ?_
  refine J.aload_n (pc := 45) C dL_comesTrue_45 rfl 5 rfl ?_
  refine J.iload_n (pc := 46) C dL_comesTrue_46 rfl 4 rfl ?_
  refine J.iload_n (pc := 47) C dL_comesTrue_47 rfl 3 rfl ?_
  refine J.iconst (pc := 48) C (v := 3) dL_comesTrue_48 (by decide) ?_
  obtain ⟨r_16, σ_17, h_15, hf⟩ := bnd2_some hf
  refine J.callV (pc := 49) C (m_X8_ahead h_15) hx0 wyX8_ahead tvX8_ahead_i tvX8_ahead_s tw_576 kcX8 rfl hx0 [.int x2_3, .int r_5, .int 3] [] rfl rfl (Nat.le_of_ble_eq_true rfl) (Nat.le_of_ble_eq_true rfl) (Nat.le_of_ble_eq_true rfl) (stk' := [.int r_16]) rfl dL_comesTrue_49 rfl ?_
  refine J.istore (pc := 52) C (loc' := [(7, .int r_16), (6, .int r_13), (5, .int r_10), (4, .int r_7), (3, .int r_5), (2, .int x2_3), (0, .ref (Xad X x0)), (1, .int x1)]) dL_comesTrue_52 (by decide) rfl ?_
  refine J.aload_n (pc := 54) C dL_comesTrue_54 rfl 6 rfl ?_
  refine J.iload_n (pc := 55) C dL_comesTrue_55 rfl 5 rfl ?_
  refine J.iload_n (pc := 56) C dL_comesTrue_56 rfl 4 rfl ?_
  refine J.iconst (pc := 57) C (v := 4) dL_comesTrue_57 (by decide) ?_
  obtain ⟨r_19, σ_20, h_18, hf⟩ := bnd2_some hf
  refine J.callV (pc := 58) C (m_X8_ahead h_18) hx0 wyX8_ahead tvX8_ahead_i tvX8_ahead_s tw_576 kcX8 rfl hx0 [.int x2_3, .int r_5, .int 4] [] rfl rfl (Nat.le_of_ble_eq_true rfl) (Nat.le_of_ble_eq_true rfl) (Nat.le_of_ble_eq_true rfl) (stk' := [.int r_19]) rfl dL_comesTrue_58 rfl ?_
  refine J.istore (pc := 61) C (loc' := [(8, .int r_19), (7, .int r_16), (6, .int r_13), (5, .int r_10), (4, .int r_7), (3, .int r_5), (2, .int x2_3), (0, .ref (Xad X x0)), (1, .int x1)]) dL_comesTrue_61 (by decide) rfl ?_
  refine J.aload_n (pc := 63) C dL_comesTrue_63 rfl 7 rfl ?_
  refine J.iconst (pc := 64) C (v := 0) dL_comesTrue_64 (by decide) ?_
  obtain ⟨r_22, σ_23, h_21, hf⟩ := bnd2_some hf
  refine J.callV (pc := 65) C (m_X8_save h_21) hx0 wyX8_save tvX8_save_i tvX8_save_s tw_638 kcX8 rfl hx0 [.int 0] [] rfl rfl (Nat.le_of_ble_eq_true rfl) (Nat.le_of_ble_eq_true rfl) (Nat.le_of_ble_eq_true rfl) (stk' := [.int r_22]) rfl dL_comesTrue_65 rfl ?_
  refine J.istore (pc := 68) C (loc' := [(9, .int r_22), (8, .int r_19), (7, .int r_16), (6, .int r_13), (5, .int r_10), (4, .int r_7), (3, .int r_5), (2, .int x2_3), (0, .ref (Xad X x0)), (1, .int x1)]) dL_comesTrue_68 (by decide) rfl ?_
  refine J.aload_n (pc := 70) C dL_comesTrue_70 rfl 8 rfl ?_
  refine J.iload_n (pc := 71) C dL_comesTrue_71 rfl 6 rfl ?_
  refine J.iconst (pc := 72) C (v := 4) dL_comesTrue_72 (by decide) ?_
  obtain ⟨r_25, h_24, hf⟩ := bnd_some hf
  refine J.callV (pc := 73) C (m_X8_pressure h_24) hx0 wyX8_pressure tvX8_pressure_i tvX8_pressure_s tw_407 kcX8 rfl hx0 [.int r_5, .int 4] [] rfl rfl (Nat.le_of_ble_eq_true rfl) (Nat.le_of_ble_eq_true rfl) (Nat.le_of_ble_eq_true rfl) (stk' := [.int r_25]) rfl dL_comesTrue_73 rfl ?_
  refine J.istore (pc := 76) C (loc' := [(10, .int r_25), (9, .int r_22), (8, .int r_19), (7, .int r_16), (6, .int r_13), (5, .int r_10), (4, .int r_7), (3, .int r_5), (2, .int x2_3), (0, .ref (Xad X x0)), (1, .int x1)]) dL_comesTrue_76 (by decide) rfl ?_
  refine J.aload_n (pc := 78) C dL_comesTrue_78 rfl 9 rfl ?_
  refine J.bipush (pc := 79) C (v := 7) dL_comesTrue_79 (by decide) ?_
  obtain ⟨r_27, h_26, hf⟩ := bnd_some hf
  refine J.callV (pc := 81) C (m_X8_state h_26) hx0 wyX8_state tvX8_state_i tvX8_state_s tw_387 kcX8 rfl hx0 [.int 7] [] rfl rfl (Nat.le_of_ble_eq_true rfl) (Nat.le_of_ble_eq_true rfl) (Nat.le_of_ble_eq_true rfl) (stk' := [.int r_27]) rfl dL_comesTrue_81 rfl ?_
  refine J.istore (pc := 84) C (loc' := [(11, .int r_27), (10, .int r_25), (9, .int r_22), (8, .int r_19), (7, .int r_16), (6, .int r_13), (5, .int r_10), (4, .int r_7), (3, .int r_5), (2, .int x2_3), (0, .ref (Xad X x0)), (1, .int x1)]) dL_comesTrue_84 (by decide) rfl ?_
  refine J.iconst (pc := 86) C (v := 0) dL_comesTrue_86 (by decide) ?_
  refine J.istore (pc := 87) C (loc' := [(12, .int 0), (11, .int r_27), (10, .int r_25), (9, .int r_22), (8, .int r_19), (7, .int r_16), (6, .int r_13), (5, .int r_10), (4, .int r_7), (3, .int r_5), (2, .int x2_3), (0, .ref (Xad X x0)), (1, .int x1)]) dL_comesTrue_87 (by decide) rfl ?_
  refine J.iconst (pc := 89) C (v := 0) dL_comesTrue_89 (by decide) ?_
  refine J.istore (pc := 90) C (loc' := [(13, .int 0), (12, .int 0), (11, .int r_27), (10, .int r_25), (9, .int r_22), (8, .int r_19), (7, .int r_16), (6, .int r_13), (5, .int r_10), (4, .int r_7), (3, .int r_5), (2, .int x2_3), (0, .ref (Xad X x0)), (1, .int x1)]) dL_comesTrue_90 (by decide) rfl ?_
  refine J.bipush (pc := 92) C (v := (-6)) dL_comesTrue_92 (by decide) ?_
  refine J.istore (pc := 94) C (loc' := [(14, .int (-6)), (13, .int 0), (12, .int 0), (11, .int r_27), (10, .int r_25), (9, .int r_22), (8, .int r_19), (7, .int r_16), (6, .int r_13), (5, .int r_10), (4, .int r_7), (3, .int r_5), (2, .int x2_3), (0, .ref (Xad X x0)), (1, .int x1)]) dL_comesTrue_94 (by decide) rfl ?_
  refine J.iconst (pc := 96) C (v := 0) dL_comesTrue_96 (by decide) ?_
  refine J.istore (pc := 97) C (loc' := [(15, .int 0), (14, .int (-6)), (13, .int 0), (12, .int 0), (11, .int r_27), (10, .int r_25), (9, .int r_22), (8, .int r_19), (7, .int r_16), (6, .int r_13), (5, .int r_10), (4, .int r_7), (3, .int r_5), (2, .int x2_3), (0, .ref (Xad X x0)), (1, .int x1)]) dL_comesTrue_97 (by decide) rfl ?_
  exact J.sub (loc' := [(0, .ref (Xad X x0)), (2, .int x2_3), (3, .int r_5), (4, .int r_7), (5, .int r_10), (6, .int r_13), (7, .int r_16), (8, .int r_19), (9, .int r_22), (10, .int r_25), (11, .int r_27), (12, .int 0), (13, .int 0), (14, .int (-6)), (15, .int 0)]) [14, 13, 12, 11, 10, 9, 8, 7, 6, 5, 4, 3, 2, 1, 0] rfl (L99 σ_23 x2_3 r_5 r_7 r_10 r_13 r_16 r_19 r_22 r_25 r_27 0 0 (-6) 0 _ hf hp)
set_option maxHeartbeats 4000000 in
set_option maxRecDepth 100000 in
theorem m_L_delayed {l : Launch} {n : Nat} {w : Nat} {σ : Mem} {x0 : Nat} {x1 : Int32} {t0 : (Int32 × Mem)} (hf : f_L_delayed n w σ x0 x1 = some t0) : Ct l yL_delayed cL_delayed 11 (some FieldType.boolean) 7 163 (fun ks => Ok ks x0 8) (fun ad => [.ref (ad x0), .int x1]) σ (fun _ => some (.int t0.1)) t0.2 := by
  refine Ct.of (plainFor_of_name (by decide)) (fun _ => Nat.le_of_ble_eq_true rfl) ?_
  intro X C _ hx0 hcl hR
  have C : Cx X RL cL_delayed 11 (some FieldType.boolean) 7 163 := C
  have L189 : ∀ (σ : Mem) (x2 : Int32) (x3 : Int32) (x4 : Int32) (x5 : Int32) (x6 : Int32) (x7 : Int32) (y0 : Int32) (y1 : Int32) (t : ((Int32 × Mem) ⊕ (Mem × Int32))), f_L_delayed_L189 n w σ x0 x2 x3 x4 x5 x6 x7 y0 y1 = some t → ((∀ r1, t = .inl r1 → r1 = t0) ∧ (∀ s1, t = .inr s1 → J X 101 [(0, .ref (Xad X x0)), (2, .int x2), (3, .int x3), (4, .int x4), (5, .int x5), (6, .int (s1.2))] [] s1.1)) → J X 189 [(0, .ref (Xad X x0)), (2, .int x2), (3, .int x3), (4, .int x4), (5, .int x5), (6, .int x6), (7, .int x7)] [.int y0, .int y1] σ := by
    intro σ x2 x3 x4 x5 x6 x7 y0 y1 t hf hp
    unfold f_L_delayed_L189 at hf
    refine J.icmp_ne (pc := 189) C (tgt := 202) dL_delayed_189 (by decide) hf (fun hf => ?_) (fun hf => ?_)
    · refine J.iconst (pc := 202) C (v := 0) dL_delayed_202 (by decide) ?_
      exact J.zretM (pc := 203) C rfl hR ((hp.1 _ (Option.some.inj hf).symm)) dL_delayed_203
    · refine J.aload_n (pc := 192) C dL_delayed_192 rfl 0 rfl ?_
      refine J.iconst (pc := 193) C (v := 1) dL_delayed_193 (by decide) ?_
      obtain ⟨r_20, σ_21, h_19, hf⟩ := bnd2_some hf
      refine J.callV (pc := 194) C (m_X8_restore h_19) hx0 wyX8_restore tvX8_restore_i tvX8_restore_s tw_646 kcX8 rfl hx0 [.int 1] [] rfl rfl (Nat.le_of_ble_eq_true rfl) (Nat.le_of_ble_eq_true rfl) (Nat.le_of_ble_eq_true rfl) (stk' := [.int r_20]) rfl dL_delayed_194 rfl ?_
      refine J.iload (pc := 197) C dL_delayed_197 6 rfl ?_
      refine J.icmp_eq (pc := 199) C (tgt := 204) dL_delayed_199 (by decide) hf (fun hf => ?_) (fun hf => ?_)
      · obtain ⟨x6_22, hx_x6_22, hf⟩ := nm_some hf
        refine J.iinc (pc := 204) C (v := x6_22) (loc' := [(6, .int x6_22), (0, .ref (Xad X x0)), (2, .int x2), (3, .int x3), (4, .int x4), (5, .int x5), (7, .int x7)]) dL_delayed_204 (k := 5) rfl (by rw [hx_x6_22]; rfl) (by decide) rfl ?_
        refine J.goto (pc := 207) C (tgt := 101) dL_delayed_207 (by decide) ?_
        exact J.sub (loc' := [(0, .ref (Xad X x0)), (2, .int x2), (3, .int x3), (4, .int x4), (5, .int x5), (6, .int x6_22)]) [1, 2, 3, 4, 5, 0] rfl (hp.2 _ (Option.some.inj hf).symm)
      · refine J.iconst (pc := 202) C (v := 0) dL_delayed_202 (by decide) ?_
        exact J.zretM (pc := 203) C rfl hR ((hp.1 _ (Option.some.inj hf).symm)) dL_delayed_203
  have L177 : ∀ (σ : Mem) (x2 : Int32) (x3 : Int32) (x4 : Int32) (x5 : Int32) (x6 : Int32) (x7 : Int32) (y0 : Int32) (t : ((Int32 × Mem) ⊕ (Mem × Int32))), f_L_delayed_L177 n w σ x0 x2 x3 x4 x5 x6 x7 y0 = some t → ((∀ r1, t = .inl r1 → r1 = t0) ∧ (∀ s1, t = .inr s1 → J X 101 [(0, .ref (Xad X x0)), (2, .int x2), (3, .int x3), (4, .int x4), (5, .int x5), (6, .int (s1.2))] [] s1.1)) → J X 177 [(0, .ref (Xad X x0)), (2, .int x2), (3, .int x3), (4, .int x4), (5, .int x5), (6, .int x6), (7, .int x7)] [.int y0] σ := by
    intro σ x2 x3 x4 x5 x6 x7 y0 t hf hp
    unfold f_L_delayed_L177 at hf
    refine J.iload (pc := 177) C dL_delayed_177 5 rfl ?_
    refine J.iload (pc := 179) C dL_delayed_179 3 rfl ?_
    refine J.icmp_ne (pc := 181) C (tgt := 188) dL_delayed_181 (by decide) hf (fun hf => ?_) (fun hf => ?_)
    · refine J.iconst (pc := 188) C (v := 0) dL_delayed_188 (by decide) ?_
      exact J.sub (loc' := [(0, .ref (Xad X x0)), (2, .int x2), (3, .int x3), (4, .int x4), (5, .int x5), (6, .int x6), (7, .int x7)]) [0, 1, 2, 3, 4, 5, 6] rfl (L189 σ x2 x3 x4 x5 x6 x7 0 y0 _ hf hp)
    · refine J.iconst (pc := 184) C (v := 1) dL_delayed_184 (by decide) ?_
      refine J.goto (pc := 185) C (tgt := 189) dL_delayed_185 (by decide) ?_
      exact J.sub (loc' := [(0, .ref (Xad X x0)), (2, .int x2), (3, .int x3), (4, .int x4), (5, .int x5), (6, .int x6), (7, .int x7)]) [0, 1, 2, 3, 4, 5, 6] rfl (L189 σ x2 x3 x4 x5 x6 x7 1 y0 _ hf hp)
  have L137 : ∀ (σ : Mem) (x2 : Int32) (x3 : Int32) (x4 : Int32) (x5 : Int32) (x6 : Int32) (x7 : Int32) (x8 : Int32) (x9 : Int32) (x10 : Int32) (t : ((Int32 × Mem) ⊕ (Mem × Int32))), f_L_delayed_L137 n w σ x0 x2 x3 x4 x5 x6 x7 x8 x9 x10 = some t → ((∀ r1, t = .inl r1 → r1 = t0) ∧ (∀ s1, t = .inr s1 → J X 101 [(0, .ref (Xad X x0)), (2, .int x2), (3, .int x3), (4, .int x4), (5, .int x5), (6, .int (s1.2))] [] s1.1)) → J X 137 [(0, .ref (Xad X x0)), (2, .int x2), (3, .int x3), (4, .int x4), (5, .int x5), (6, .int x6), (7, .int x7), (8, .int x8), (9, .int x9), (10, .int x10)] [] σ := by
    intro σ x2 x3 x4 x5 x6 x7 x8 x9 x10 t hf hp
    unfold f_L_delayed_L137 at hf
    refine J_iter (JJ := fun (s : Mem × Int32 × Int32) => J X 137 [(0, .ref (Xad X x0)), (2, .int x2), (3, .int x3), (4, .int x4), (5, .int x5), (6, .int x6), (7, .int x7), (8, .int x8), (9, .int (s.2.1)), (10, .int (s.2.2))] [] s.1) (Ps := fun t => ((∀ r1, t = .inl r1 → r1 = t0) ∧ (∀ s1, t = .inr s1 → J X 101 [(0, .ref (Xad X x0)), (2, .int x2), (3, .int x3), (4, .int x4), (5, .int x5), (6, .int (s1.2))] [] s1.1))) ?_ w (σ, x9, x10) t hf hp
    clear hf hp
    intro s t hf hp hq
    obtain ⟨σ, x9, x10⟩ := s
    have hp := And.intro hp hq
    clear hq
    have hf : f_L_delayed_B137 n w σ x0 x2 x3 x4 x5 x6 x7 x8 x9 x10 = some t := hf
    show J X 137 [(0, .ref (Xad X x0)), (2, .int x2), (3, .int x3), (4, .int x4), (5, .int x5), (6, .int x6), (7, .int x7), (8, .int x8), (9, .int x9), (10, .int x10)] [] σ
    unfold f_L_delayed_B137 at hf
    refine J.iload (pc := 137) C dL_delayed_137 9 rfl ?_
    refine J.iconst (pc := 139) C (v := 3) dL_delayed_139 (by decide) ?_
    refine J.icmp_ge (pc := 140) C (tgt := 162) dL_delayed_140 (by decide) hf (fun hf => ?_) (fun hf => ?_)
    · refine J.iload (pc := 162) C dL_delayed_162 7 rfl ?_
      refine J.if_lt (pc := 164) C (tgt := 202) dL_delayed_164 (by decide) hf (fun hf => ?_) (fun hf => ?_)
      · refine J.iconst (pc := 202) C (v := 0) dL_delayed_202 (by decide) ?_
        exact J.zretM (pc := 203) C rfl hR (((hp.1 _ (Option.some.inj hf).symm).1 _ rfl)) dL_delayed_203
      · refine J.iload (pc := 167) C dL_delayed_167 8 rfl ?_
        refine J.if_ne (pc := 169) C (tgt := 176) dL_delayed_169 (by decide) hf (fun hf => ?_) (fun hf => ?_)
        · refine J.iconst (pc := 176) C (v := 0) dL_delayed_176 (by decide) ?_
          obtain ⟨t0, hf, he⟩ := exi_some hf
          have hp := hp.1 _ he
          exact J.sub (loc' := [(0, .ref (Xad X x0)), (2, .int x2), (3, .int x3), (4, .int x4), (5, .int x5), (6, .int x6), (7, .int x7)]) [0, 1, 2, 3, 4, 5, 6] rfl (L177 σ x2 x3 x4 x5 x6 x7 0 _ hf hp)
        · refine J.iconst (pc := 172) C (v := 1) dL_delayed_172 (by decide) ?_
          refine J.goto (pc := 173) C (tgt := 177) dL_delayed_173 (by decide) ?_
          obtain ⟨t0, hf, he⟩ := exi_some hf
          have hp := hp.1 _ he
          exact J.sub (loc' := [(0, .ref (Xad X x0)), (2, .int x2), (3, .int x3), (4, .int x4), (5, .int x5), (6, .int x6), (7, .int x7)]) [0, 1, 2, 3, 4, 5, 6] rfl (L177 σ x2 x3 x4 x5 x6 x7 1 _ hf hp)
    · refine J.iload (pc := 143) C dL_delayed_143 8 rfl ?_
      refine J.aload_n (pc := 145) C dL_delayed_145 rfl 0 rfl ?_
      refine J.iload_n (pc := 146) C dL_delayed_146 rfl 2 rfl ?_
      refine J.iload (pc := 147) C dL_delayed_147 9 rfl ?_
      refine J.iconst (pc := 149) C (v := 1) dL_delayed_149 (by decide) ?_
      obtain ⟨r_24, σ_25, h_23, hf⟩ := bnd2_some hf
      refine J.callV (pc := 150) C (m_X8_ahead h_23) hx0 wyX8_ahead tvX8_ahead_i tvX8_ahead_s tw_576 kcX8 rfl hx0 [.int x3, .int x10, .int 1] [.int x9] rfl rfl (Nat.le_of_ble_eq_true rfl) (Nat.le_of_ble_eq_true rfl) (Nat.le_of_ble_eq_true rfl) (stk' := [.int r_24, .int x9]) rfl dL_delayed_150 rfl ?_
      refine J.iadd (pc := 153) C dL_delayed_153 ?_
      refine J.nmI hf (fun x9_26 hf => ?_)
      refine J.istore (pc := 154) C (loc' := [(9, .int x9_26), (0, .ref (Xad X x0)), (2, .int x2), (3, .int x3), (4, .int x4), (5, .int x5), (6, .int x6), (7, .int x7), (8, .int x8), (10, .int x10)]) dL_delayed_154 (by decide) rfl ?_
      obtain ⟨x10_27, hx_x10_27, hf⟩ := nm_some hf
      refine J.iinc (pc := 156) C (v := x10_27) (loc' := [(10, .int x10_27), (9, .int x9_26), (0, .ref (Xad X x0)), (2, .int x2), (3, .int x3), (4, .int x4), (5, .int x5), (6, .int x6), (7, .int x7), (8, .int x8)]) dL_delayed_156 (k := 9) rfl (by rw [hx_x10_27]; rfl) (by decide) rfl ?_
      refine J.goto (pc := 159) C (tgt := 137) dL_delayed_159 (by decide) ?_
      exact J.sub (loc' := [(0, .ref (Xad X x0)), (2, .int x2), (3, .int x3), (4, .int x4), (5, .int x5), (6, .int x6), (7, .int x7), (8, .int x8), (9, .int x9_26), (10, .int x10_27)]) [2, 3, 4, 5, 6, 7, 8, 9, 1, 0] rfl (hp.2 _ (Option.some.inj hf).symm)
  have L101 : ∀ (σ : Mem) (x2 : Int32) (x3 : Int32) (x4 : Int32) (x5 : Int32) (x6 : Int32) (t : (Int32 × Mem)), f_L_delayed_L101 n w σ x0 x2 x3 x4 x5 x6 = some t → t = t0 → J X 101 [(0, .ref (Xad X x0)), (2, .int x2), (3, .int x3), (4, .int x4), (5, .int x5), (6, .int x6)] [] σ := by
    intro σ x2 x3 x4 x5 x6 t hf hp
    unfold f_L_delayed_L101 at hf
    refine J_iter (JJ := fun (s : Mem × Int32) => J X 101 [(0, .ref (Xad X x0)), (2, .int x2), (3, .int x3), (4, .int x4), (5, .int x5), (6, .int (s.2))] [] s.1) (Ps := fun t => t = t0) ?_ w (σ, x6) t hf hp
    clear hf hp
    intro s t hf hp hq
    obtain ⟨σ, x6⟩ := s
    have hp := And.intro hp hq
    clear hq
    have hf : f_L_delayed_B101 n w σ x0 x2 x3 x4 x5 x6 = some t := hf
    show J X 101 [(0, .ref (Xad X x0)), (2, .int x2), (3, .int x3), (4, .int x4), (5, .int x5), (6, .int x6)] [] σ
    unfold f_L_delayed_B101 at hf
    refine J.iload (pc := 101) C dL_delayed_101 5 rfl ?_
    refine J.iload (pc := 103) C dL_delayed_103 4 rfl ?_
    refine J.icmp_gt (pc := 105) C (tgt := 210) dL_delayed_105 (by decide) hf (fun hf => ?_) (fun hf => ?_)
    · refine J.iconst (pc := 210) C (v := 1) dL_delayed_210 (by decide) ?_
      exact J.zretM (pc := 211) C rfl hR ((hp.1 _ (Option.some.inj hf).symm)) dL_delayed_211
    · refine J.iload (pc := 108) C dL_delayed_108 5 rfl ?_
      refine J.bipush (pc := 110) C (v := 13) dL_delayed_110 (by decide) ?_
      refine J.icmp_ge (pc := 112) C (tgt := 210) dL_delayed_112 (by decide) hf (fun hf => ?_) (fun hf => ?_)
      · refine J.iconst (pc := 210) C (v := 1) dL_delayed_210 (by decide) ?_
        exact J.zretM (pc := 211) C rfl hR ((hp.1 _ (Option.some.inj hf).symm)) dL_delayed_211
      · refine J.aload_n (pc := 115) C dL_delayed_115 rfl 0 rfl ?_
        refine J.iconst (pc := 116) C (v := 1) dL_delayed_116 (by decide) ?_
        obtain ⟨r_14, σ_15, h_13, hf⟩ := bnd2_some hf
        refine J.callV (pc := 117) C (m_X8_save h_13) hx0 wyX8_save tvX8_save_i tvX8_save_s tw_638 kcX8 rfl hx0 [.int 1] [] rfl rfl (Nat.le_of_ble_eq_true rfl) (Nat.le_of_ble_eq_true rfl) (Nat.le_of_ble_eq_true rfl) (stk' := [.int r_14]) rfl dL_delayed_117 rfl ?_
        refine J.istore (pc := 120) C (loc' := [(7, .int r_14), (0, .ref (Xad X x0)), (2, .int x2), (3, .int x3), (4, .int x4), (5, .int x5), (6, .int x6)]) dL_delayed_120 (by decide) rfl ?_
        refine J.aload_n (pc := 122) C dL_delayed_122 rfl 1 rfl ?_
        refine J.iload_n (pc := 123) C dL_delayed_123 rfl 2 rfl ?_
        refine J.iload (pc := 124) C dL_delayed_124 6 rfl ?_
        obtain ⟨r_17, σ_18, h_16, hf⟩ := bnd2_some hf
        refine J.callV (pc := 126) C (m_X8_move h_16) hx0 wyX8_move tvX8_move_i tvX8_move_s tw_555 kcX8 rfl hx0 [.int x2, .int x6] [] rfl rfl (Nat.le_of_ble_eq_true rfl) (Nat.le_of_ble_eq_true rfl) (Nat.le_of_ble_eq_true rfl) (stk' := [.int r_17]) rfl dL_delayed_126 rfl ?_
        refine J.istore (pc := 129) C (loc' := [(8, .int r_17), (7, .int r_14), (0, .ref (Xad X x0)), (2, .int x2), (3, .int x3), (4, .int x4), (5, .int x5), (6, .int x6)]) dL_delayed_129 (by decide) rfl ?_
        refine J.iconst (pc := 131) C (v := 0) dL_delayed_131 (by decide) ?_
        refine J.istore (pc := 132) C (loc' := [(9, .int 0), (8, .int r_17), (7, .int r_14), (0, .ref (Xad X x0)), (2, .int x2), (3, .int x3), (4, .int x4), (5, .int x5), (6, .int x6)]) dL_delayed_132 (by decide) rfl ?_
        refine J.iconst (pc := 134) C (v := 0) dL_delayed_134 (by decide) ?_
        refine J.istore (pc := 135) C (loc' := [(10, .int 0), (9, .int 0), (8, .int r_17), (7, .int r_14), (0, .ref (Xad X x0)), (2, .int x2), (3, .int x3), (4, .int x4), (5, .int x5), (6, .int x6)]) dL_delayed_135 (by decide) rfl ?_
        exact J.sub (loc' := [(0, .ref (Xad X x0)), (2, .int x2), (3, .int x3), (4, .int x4), (5, .int x5), (6, .int x6), (7, .int r_14), (8, .int r_17), (9, .int 0), (10, .int 0)]) [4, 5, 6, 7, 8, 9, 3, 2, 1, 0] rfl (L137 σ_18 x2 x3 x4 x5 x6 r_14 r_17 0 0 _ hf hp)
  have L98 : ∀ (σ : Mem) (x2 : Int32) (x3 : Int32) (x4 : Int32) (x5 : Int32) (t : (Int32 × Mem)), f_L_delayed_L98 n w σ x0 x2 x3 x4 x5 = some t → t = t0 → J X 98 [(0, .ref (Xad X x0)), (2, .int x2), (3, .int x3), (4, .int x4), (5, .int x5)] [] σ := by
    intro σ x2 x3 x4 x5 t hf hp
    unfold f_L_delayed_L98 at hf
    refine J.iconst (pc := 98) C (v := 0) dL_delayed_98 (by decide) ?_
    refine J.istore (pc := 99) C (loc' := [(6, .int 0), (0, .ref (Xad X x0)), (2, .int x2), (3, .int x3), (4, .int x4), (5, .int x5)]) dL_delayed_99 (by decide) rfl ?_
    exact J.sub (loc' := [(0, .ref (Xad X x0)), (2, .int x2), (3, .int x3), (4, .int x4), (5, .int x5), (6, .int 0)]) [1, 2, 3, 4, 5, 0] rfl (L101 σ x2 x3 x4 x5 0 _ hf hp)
  have L68 : ∀ (σ : Mem) (x2 : Int32) (x3 : Int32) (x4 : Int32) (y0 : Int32) (t : (Int32 × Mem)), f_L_delayed_L68 n w σ x0 x2 x3 x4 y0 = some t → t = t0 → J X 68 [(0, .ref (Xad X x0)), (2, .int x2), (3, .int x3), (4, .int x4)] [.int y0] σ := by
    intro σ x2 x3 x4 y0 t hf hp
    unfold f_L_delayed_L68 at hf
    refine J.istore (pc := 68) C (loc' := [(5, .int y0), (0, .ref (Xad X x0)), (2, .int x2), (3, .int x3), (4, .int x4)]) dL_delayed_68 (by decide) rfl ?_
    refine J.iload (pc := 70) C dL_delayed_70 4 rfl ?_
    refine J.bipush (pc := 72) C (v := (-6)) dL_delayed_72 (by decide) ?_
    refine J.icmp_lt (pc := 74) C (tgt := 96) dL_delayed_74 (by decide) hf (fun hf => ?_) (fun hf => ?_)
    · refine J.iconst (pc := 96) C (v := 0) dL_delayed_96 (by decide) ?_
      exact J.zretM (pc := 97) C rfl hR ((Option.some.inj hf).trans hp) dL_delayed_97
    · refine J.iload (pc := 77) C dL_delayed_77 4 rfl ?_
      refine J.bipush (pc := 79) C (v := 12) dL_delayed_79 (by decide) ?_
      refine J.icmp_gt (pc := 81) C (tgt := 96) dL_delayed_81 (by decide) hf (fun hf => ?_) (fun hf => ?_)
      · refine J.iconst (pc := 96) C (v := 0) dL_delayed_96 (by decide) ?_
        exact J.zretM (pc := 97) C rfl hR ((Option.some.inj hf).trans hp) dL_delayed_97
      · refine J.iload (pc := 84) C dL_delayed_84 4 rfl ?_
        refine J.if_ge (pc := 86) C (tgt := 98) dL_delayed_86 (by decide) hf (fun hf => ?_) (fun hf => ?_)
        · exact J.sub (loc' := [(0, .ref (Xad X x0)), (2, .int x2), (3, .int x3), (4, .int x4), (5, .int y0)]) [1, 2, 3, 4, 0] rfl (L98 σ x2 x3 x4 y0 _ hf hp)
        · refine J.iload (pc := 89) C dL_delayed_89 4 rfl ?_
          refine J.bipush (pc := 91) C (v := (-6)) dL_delayed_91 (by decide) ?_
          refine J.icmp_eq (pc := 93) C (tgt := 98) dL_delayed_93 (by decide) hf (fun hf => ?_) (fun hf => ?_)
          · exact J.sub (loc' := [(0, .ref (Xad X x0)), (2, .int x2), (3, .int x3), (4, .int x4), (5, .int y0)]) [1, 2, 3, 4, 0] rfl (L98 σ x2 x3 x4 y0 _ hf hp)
          · refine J.iconst (pc := 96) C (v := 0) dL_delayed_96 (by decide) ?_
            exact J.zretM (pc := 97) C rfl hR ((Option.some.inj hf).trans hp) dL_delayed_97
  have hp : t0 = t0 := rfl
  show J X 0 [(0, .ref (Xad X x0)), (1, .int x1)] [] σ
  unfold f_L_delayed at hf
  refine J.aload_n (pc := 0) C dL_delayed_0 rfl 0 rfl ?_
  refine J.iconst (pc := 1) C (v := 2) dL_delayed_1 (by decide) ?_
  obtain ⟨r_2, h_1, hf⟩ := bnd_some hf
  refine J.callV (pc := 2) C (m_X8_state h_1) hx0 wyX8_state tvX8_state_i tvX8_state_s tw_387 kcX8 rfl hx0 [.int 2] [] rfl rfl (Nat.le_of_ble_eq_true rfl) (Nat.le_of_ble_eq_true rfl) (Nat.le_of_ble_eq_true rfl) (stk' := [.int r_2]) rfl dL_delayed_2 rfl ?_
  refine J.if_ne (pc := 5) C (tgt := 25) dL_delayed_5 (by decide) hf (fun hf => ?_) (fun hf => ?_)
  · refine J.iload_n (pc := 25) C dL_delayed_25 rfl 1 rfl ?_
    refine J.aload_n (pc := 26) C dL_delayed_26 rfl 0 rfl ?_
    refine J.iconst (pc := 27) C (v := 2) dL_delayed_27 (by decide) ?_
    obtain ⟨r_4, h_3, hf⟩ := bnd_some hf
    refine J.callV (pc := 28) C (m_X8_state h_3) hx0 wyX8_state tvX8_state_i tvX8_state_s tw_387 kcX8 rfl hx0 [.int 2] [.int x1] rfl rfl (Nat.le_of_ble_eq_true rfl) (Nat.le_of_ble_eq_true rfl) (Nat.le_of_ble_eq_true rfl) (stk' := [.int r_4, .int x1]) rfl dL_delayed_28 rfl ?_
    obtain ⟨r_6, h_5, hf⟩ := bnd_some hf
    refine J.callS (pc := 31) C (m_L_up h_5) trivial wyL_up tsL_up tw_377 [.int x1, .int r_4] [] rfl rfl (Nat.le_of_ble_eq_true rfl) (Nat.le_of_ble_eq_true rfl) (Nat.le_of_ble_eq_true rfl) (stk' := [.int r_6]) rfl dL_delayed_31 rfl ?_
    refine J.istore_n (pc := 34) C (loc' := [(2, .int r_6), (0, .ref (Xad X x0)), (1, .int x1)]) dL_delayed_34 rfl (by decide) rfl ?_
    refine J.iconst (pc := 35) C (v := 1) dL_delayed_35 (by decide) ?_
    refine J.iload_n (pc := 36) C dL_delayed_36 rfl 2 rfl ?_
    refine J.iconst (pc := 37) C (v := 5) dL_delayed_37 (by decide) ?_
    refine J.ishr (pc := 38) C dL_delayed_38 ?_
    refine J.bipush (pc := 39) C (v := 30) dL_delayed_39 (by decide) ?_
    obtain ⟨r_8, h_7, hf⟩ := bnd_some hf
    refine J.callS (pc := 41) C (m_L_up h_7) trivial wyL_up tsL_up tw_377 [.int (x1 >>> (5 &&& 31)), .int 30] [.int 1] rfl rfl (Nat.le_of_ble_eq_true rfl) (Nat.le_of_ble_eq_true rfl) (Nat.le_of_ble_eq_true rfl) (stk' := [.int r_8, .int 1]) rfl dL_delayed_41 rfl ?_
    refine J.iadd (pc := 44) C dL_delayed_44 ?_
    refine J.nmI hf (fun x3_9 hf => ?_)
    refine J.istore_n (pc := 45) C (loc' := [(3, .int x3_9), (2, .int r_6), (0, .ref (Xad X x0)), (1, .int x1)]) dL_delayed_45 rfl (by decide) rfl ?_
    refine J.aload_n (pc := 46) C dL_delayed_46 rfl 2 rfl ?_
    refine J.iload_n (pc := 47) C dL_delayed_47 rfl 1 rfl ?_
    refine J.bipush (pc := 48) C (v := 12) dL_delayed_48 (by decide) ?_
    refine J.iload_n (pc := 50) C dL_delayed_50 rfl 0 rfl ?_
    obtain ⟨r_11, σ_12, h_10, hf⟩ := bnd2_some hf
    refine J.callV (pc := 51) C (m_X8_delay h_10) hx0 wyX8_delay tvX8_delay_i tvX8_delay_s tw_653 kcX8 rfl hx0 [.int r_6, .int 12, .int x3_9] [] rfl rfl (Nat.le_of_ble_eq_true rfl) (Nat.le_of_ble_eq_true rfl) (Nat.le_of_ble_eq_true rfl) (stk' := [.int r_11]) rfl dL_delayed_51 rfl ?_
    refine J.istore (pc := 54) C (loc' := [(4, .int r_11), (3, .int x3_9), (2, .int r_6), (0, .ref (Xad X x0)), (1, .int x1)]) dL_delayed_54 (by decide) rfl ?_
    refine J.iload (pc := 56) C dL_delayed_56 0 rfl ?_
    refine J.if_ge (pc := 58) C (tgt := 66) dL_delayed_58 (by decide) hf (fun hf => ?_) (fun hf => ?_)
    · refine J.iload (pc := 66) C dL_delayed_66 0 rfl ?_
      exact J.sub (loc' := [(0, .ref (Xad X x0)), (2, .int r_6), (3, .int x3_9), (4, .int r_11)]) [3, 2, 1, 0] rfl (L68 σ_12 r_6 x3_9 r_11 r_11 _ hf hp)
    · refine J.bipush (pc := 61) C (v := 13) dL_delayed_61 (by decide) ?_
      refine J.goto (pc := 63) C (tgt := 68) dL_delayed_63 (by decide) ?_
      exact J.sub (loc' := [(0, .ref (Xad X x0)), (2, .int r_6), (3, .int x3_9), (4, .int r_11)]) [3, 2, 1, 0] rfl (L68 σ_12 r_6 x3_9 r_11 13 _ hf hp)
  · refine J.aload_n (pc := 8) C dL_delayed_8 rfl 0 rfl ?_
    refine J.iconst (pc := 9) C (v := 0) dL_delayed_9 (by decide) ?_
    refine J.iconst (pc := 10) C (v := 1) dL_delayed_10 (by decide) ?_
    refine J.iconst (pc := 11) C (v := 1) dL_delayed_11 (by decide) ?_
    obtain ⟨r_29, σ_30, h_28, hf⟩ := bnd2_some hf
    refine J.callV (pc := 12) C (m_X8_delay h_28) hx0 wyX8_delay tvX8_delay_i tvX8_delay_s tw_653 kcX8 rfl hx0 [.int 0, .int 1, .int 1] [] rfl rfl (Nat.le_of_ble_eq_true rfl) (Nat.le_of_ble_eq_true rfl) (Nat.le_of_ble_eq_true rfl) (stk' := [.int r_29]) rfl dL_delayed_12 rfl ?_
    refine J.iconst (pc := 15) C (v := (-1)) dL_delayed_15 (by decide) ?_
    refine J.icmp_ne (pc := 16) C (tgt := 23) dL_delayed_16 (by decide) hf (fun hf => ?_) (fun hf => ?_)
    · refine J.iconst (pc := 23) C (v := 0) dL_delayed_23 (by decide) ?_
      exact J.zretM (pc := 24) C rfl hR ((Option.some.inj hf).trans hp) dL_delayed_24
    · refine J.iconst (pc := 19) C (v := 1) dL_delayed_19 (by decide) ?_
      refine J.goto (pc := 20) C (tgt := 24) dL_delayed_20 (by decide) ?_
      exact J.zretM (pc := 24) C rfl hR ((Option.some.inj hf).trans hp) dL_delayed_24
