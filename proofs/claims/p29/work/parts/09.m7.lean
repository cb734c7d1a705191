set_option maxHeartbeats 8000000 in
set_option maxRecDepth 100000 in
theorem m_L_law {sb SL : Nat} {xs : Nat → Int32} {n : Nat} {w : Nat} {cv : Int32 → Int32} {σ : Mem} {x0 : Nat} {t0 : (Int32 × Mem)} (hSL : SL ≤ 260) (hcv : cv = cellV SL xs) (hf : f_L_law n w cv σ x0 = some t0) : ∀ (X : Ctx), Cx X RL cL_law 6 (some FieldType.boolean) 8 207 → Cl (Xks X) → (∀ k, k ∈ Xks X → k < 105) → Sx X sb SL xs → Ok (Xks X) x0 8 → RtW X (w * (2 * w + 3)) (w * (6 * w + 18)) t0 → J X 7 [(0, .ref sb)] [.ref (Xad X x0)] σ := by
  have L265 : ∀ (σ : Mem) (x2 : Int32) (x5 : Int32) (t : (Int32 × Mem)), f_L_law_L265 n w cv σ x0 x2 x5 = some t → t = t0 → ∀ (X : Ctx), Cx X RL cL_law 6 (some FieldType.boolean) 8 207 → Cl (Xks X) → (∀ k, k ∈ Xks X → k < 105) → Sx X sb SL xs → Ok (Xks X) x0 8 → RtW X (w * (2 * w + 3)) (w * (6 * w + 18)) t0 → J X 265 [(0, .ref sb), (1, .ref (Xad X x0)), (2, .int x2), (5, .int x5)] [] σ := by
    intro σ x2 x5 t hf hp
    unfold f_L_law_L265 at hf
    refine J_iterN (JJ := fun (m : Nat) (s : Mem × Int32 × Int32) => (∀ (X : Ctx), Cx X RL cL_law 6 (some FieldType.boolean) 8 207 → Cl (Xks X) → (∀ k, k ∈ Xks X → k < 105) → Sx X sb SL xs → Ok (Xks X) x0 8 → RtW X (m * (2 * w + 3)) (m * (6 * w + 18)) t0 → J X 265 [(0, .ref sb), (1, .ref (Xad X x0)), (2, .int (s.2.1)), (5, .int (s.2.2))] [] s.1)) (Ps := fun t => t = t0) ?_ w (σ, x2, x5) t hf hp
    clear hf hp
    intro m s t hf hp hq
    obtain ⟨σ, x2, x5⟩ := s
    have hp := And.intro hp hq
    clear hq
    have hf : f_L_law_B265 n w cv σ x0 x2 x5 = some t := hf
    intro X C hcl hlow hS hx0 hR
    rw [Nat.succ_mul m (2 * w + 3), Nat.succ_mul m (6 * w + 18)] at hR
    show J X 265 [(0, .ref sb), (1, .ref (Xad X x0)), (2, .int x2), (5, .int x5)] [] σ
    unfold f_L_law_B265 at hf
    refine J.iload (pc := 265) C dL_law_265 3 rfl ?_
    refine J.bipush (pc := 267) C (v := 18) dL_law_267 (by decide) ?_
    refine J.icmp_ge (pc := 269) C (tgt := 318) dL_law_269 (by decide) hf (fun hf => ?_) (fun hf => ?_)
    · refine J.aload_n (pc := 318) C dL_law_318 rfl 0 rfl ?_
      refine J.iload_n (pc := 319) C dL_law_319 rfl 2 rfl ?_
      obtain ⟨x2_18, hx_x2_18, hf⟩ := nm_some hf
      refine J.iinc (pc := 320) C (v := x2_18) (loc' := [(2, .int x2_18), (0, .ref sb), (1, .ref (Xad X x0)), (5, .int x5)]) dL_law_320 (k := 2) rfl (by rw [hx_x2_18]; rfl) (by decide) rfl ?_
      obtain ⟨hk0, hf⟩ := chk_some hf
      refine J.callCell (pc := 323) C hS hSL hcv (of_decide_eq_true hk0) tw_373 (Nat.le_of_ble_eq_true rfl) (Nat.le_of_ble_eq_true rfl) (Nat.le_of_ble_eq_true rfl) dL_law_323 ?_
      refine J.nmI hf (fun x3_19 hf => ?_)
      refine J.istore_n (pc := 326) C (loc' := [(3, .int x3_19), (2, .int x2_18), (0, .ref sb), (1, .ref (Xad X x0)), (5, .int x5)]) dL_law_326 rfl (by decide) rfl ?_
      refine J.aload_n (pc := 327) C dL_law_327 rfl 3 rfl ?_
      refine J.iload_n (pc := 328) C dL_law_328 rfl 0 rfl ?_
      obtain ⟨r_21, σ_22, h_20, hf⟩ := bnd2_some hf
      refine J.callS (pc := 329) C (m_L_comesTrue h_20) hx0 wyL_comesTrue tsL_comesTrue tw_573 [.ref (Xad X x0), .int x3_19] [] rfl rfl (Nat.le_of_ble_eq_true rfl) (Nat.le_of_ble_eq_true rfl) (Nat.le_of_ble_eq_true rfl) (stk' := [.int r_21]) rfl dL_law_329 rfl ?_
      refine J.if_eq (pc := 332) C (tgt := 384) dL_law_332 (by decide) hf (fun hf => ?_) (fun hf => ?_)
      · refine J.iconst (pc := 384) C (v := 0) dL_law_384 (by decide) ?_
        exact J.zretW (pc := 385) C rfl hR ((hp.1 _ (Option.some.inj hf).symm)) dL_law_385
      · refine J.aload_n (pc := 335) C dL_law_335 rfl 3 rfl ?_
        refine J.aload_n (pc := 336) C dL_law_336 rfl 2 rfl ?_
        refine J.iload_n (pc := 337) C dL_law_337 rfl 1 rfl ?_
        obtain ⟨x2_23, hx_x2_23, hf⟩ := nm_some hf
        refine J.iinc (pc := 338) C (v := x2_23) (loc' := [(2, .int x2_23), (3, .int x3_19), (0, .ref sb), (1, .ref (Xad X x0)), (5, .int x5)]) dL_law_338 (k := 1) rfl (by rw [hx_x2_23]; rfl) (by decide) rfl ?_
        obtain ⟨hk0, hf⟩ := chk_some hf
        refine J.callCell (pc := 341) C hS hSL hcv (of_decide_eq_true hk0) tw_373 (Nat.le_of_ble_eq_true rfl) (Nat.le_of_ble_eq_true rfl) (Nat.le_of_ble_eq_true rfl) dL_law_341 ?_
        obtain ⟨r_25, σ_26, h_24, hf⟩ := bnd2_some hf
        refine J.callS (pc := 344) C (m_L_delayed h_24) hx0 wyL_delayed tsL_delayed tw_650 [.ref (Xad X x0), .int (cv x2_18)] [] rfl rfl (Nat.le_of_ble_eq_true rfl) (Nat.le_of_ble_eq_true rfl) (Nat.le_of_ble_eq_true rfl) (stk' := [.int r_25]) rfl dL_law_344 rfl ?_
        refine J.if_eq (pc := 347) C (tgt := 384) dL_law_347 (by decide) hf (fun hf => ?_) (fun hf => ?_)
        · refine J.iconst (pc := 384) C (v := 0) dL_law_384 (by decide) ?_
          exact J.zretW (pc := 385) C rfl hR ((hp.1 _ (Option.some.inj hf).symm)) dL_law_385
        · refine J.aload_n (pc := 350) C dL_law_350 rfl 3 rfl ?_
          refine J.aload_n (pc := 351) C dL_law_351 rfl 2 rfl ?_
          refine J.iload_n (pc := 352) C dL_law_352 rfl 0 rfl ?_
          obtain ⟨x2_27, hx_x2_27, hf⟩ := nm_some hf
          refine J.iinc (pc := 353) C (v := x2_27) (loc' := [(2, .int x2_27), (3, .int x3_19), (0, .ref sb), (1, .ref (Xad X x0)), (5, .int x5)]) dL_law_353 (k := 0) rfl (by rw [hx_x2_27]; rfl) (by decide) rfl ?_
          obtain ⟨hk0, hf⟩ := chk_some hf
          refine J.callCell (pc := 356) C hS hSL hcv (of_decide_eq_true hk0) tw_373 (Nat.le_of_ble_eq_true rfl) (Nat.le_of_ble_eq_true rfl) (Nat.le_of_ble_eq_true rfl) dL_law_356 ?_
          obtain ⟨r_29, σ_30, h_28, hf⟩ := bnd2_some hf
          refine J.callS (pc := 359) C (m_L_cutBack h_28) hx0 wyL_cutBack tsL_cutBack tw_665 [.ref (Xad X x0), .int (cv x2_23)] [] rfl rfl (Nat.le_of_ble_eq_true rfl) (Nat.le_of_ble_eq_true rfl) (Nat.le_of_ble_eq_true rfl) (stk' := [.int r_29]) rfl dL_law_359 rfl ?_
          refine J.if_eq (pc := 362) C (tgt := 384) dL_law_362 (by decide) hf (fun hf => ?_) (fun hf => ?_)
          · refine J.iconst (pc := 384) C (v := 0) dL_law_384 (by decide) ?_
            exact J.zretW (pc := 385) C rfl hR ((hp.1 _ (Option.some.inj hf).symm)) dL_law_385
          · refine J.aload_n (pc := 365) C dL_law_365 rfl 3 rfl ?_
            refine J.aload_n (pc := 366) C dL_law_366 rfl 2 rfl ?_
            refine J.iload_n (pc := 367) C dL_law_367 rfl 0 rfl ?_
            obtain ⟨x2_31, hx_x2_31, hf⟩ := nm_some hf
            refine J.iinc (pc := 368) C (v := x2_31) (loc' := [(2, .int x2_31), (3, .int x3_19), (0, .ref sb), (1, .ref (Xad X x0)), (5, .int x5)]) dL_law_368 (k := 0) rfl (by rw [hx_x2_31]; rfl) (by decide) rfl ?_
            obtain ⟨hk0, hf⟩ := chk_some hf
            refine J.callCell (pc := 371) C hS hSL hcv (of_decide_eq_true hk0) tw_373 (Nat.le_of_ble_eq_true rfl) (Nat.le_of_ble_eq_true rfl) (Nat.le_of_ble_eq_true rfl) dL_law_371 ?_
            obtain ⟨r_33, σ_34, h_32, hf⟩ := bnd2_some hf
            refine J.callS (pc := 374) C (m_L_kept h_32) hx0 wyL_kept tsL_kept tw_676 [.ref (Xad X x0), .int (cv x2_27)] [] rfl rfl (Nat.le_of_ble_eq_true rfl) (Nat.le_of_ble_eq_true rfl) (Nat.le_of_ble_eq_true rfl) (stk' := [.int r_33]) rfl dL_law_374 rfl ?_
            refine J.if_eq (pc := 377) C (tgt := 384) dL_law_377 (by decide) hf (fun hf => ?_) (fun hf => ?_)
            · refine J.iconst (pc := 384) C (v := 0) dL_law_384 (by decide) ?_
              exact J.zretW (pc := 385) C rfl hR ((hp.1 _ (Option.some.inj hf).symm)) dL_law_385
            · refine J.iconst (pc := 380) C (v := 1) dL_law_380 (by decide) ?_
              refine J.goto (pc := 381) C (tgt := 385) dL_law_381 (by decide) ?_
              exact J.zretW (pc := 385) C rfl hR ((hp.1 _ (Option.some.inj hf).symm)) dL_law_385
    · refine J.aload_n (pc := 272) C dL_law_272 rfl 1 rfl ?_
      refine J.aload_n (pc := 273) C dL_law_273 rfl 0 rfl ?_
      refine J.iload_n (pc := 274) C dL_law_274 rfl 2 rfl ?_
      obtain ⟨x2_35, hx_x2_35, hf⟩ := nm_some hf
      refine J.iinc (pc := 275) C (v := x2_35) (loc' := [(2, .int x2_35), (0, .ref sb), (1, .ref (Xad X x0)), (5, .int x5)]) dL_law_275 (k := 2) rfl (by rw [hx_x2_35]; rfl) (by decide) rfl ?_
      obtain ⟨hk0, hf⟩ := chk_some hf
      refine J.callCell (pc := 278) C hS hSL hcv (of_decide_eq_true hk0) tw_373 (Nat.le_of_ble_eq_true rfl) (Nat.le_of_ble_eq_true rfl) (Nat.le_of_ble_eq_true rfl) dL_law_278 ?_
      refine J.aload_n (pc := 281) C dL_law_281 rfl 1 rfl ?_
      refine J.iload_n (pc := 282) C dL_law_282 rfl 0 rfl ?_
      obtain ⟨x2_36, hx_x2_36, hf⟩ := nm_some hf
      refine J.iinc (pc := 283) C (v := x2_36) (loc' := [(2, .int x2_36), (0, .ref sb), (1, .ref (Xad X x0)), (5, .int x5)]) dL_law_283 (k := 0) rfl (by rw [hx_x2_36]; rfl) (by decide) rfl ?_
      obtain ⟨hk0, hf⟩ := chk_some hf
      refine J.callCell (pc := 286) C hS hSL hcv (of_decide_eq_true hk0) tw_373 (Nat.le_of_ble_eq_true rfl) (Nat.le_of_ble_eq_true rfl) (Nat.le_of_ble_eq_true rfl) dL_law_286 ?_
      refine J.aload_n (pc := 289) C dL_law_289 rfl 1 rfl ?_
      refine J.iload_n (pc := 290) C dL_law_290 rfl 0 rfl ?_
      obtain ⟨x2_37, hx_x2_37, hf⟩ := nm_some hf
      refine J.iinc (pc := 291) C (v := x2_37) (loc' := [(2, .int x2_37), (0, .ref sb), (1, .ref (Xad X x0)), (5, .int x5)]) dL_law_291 (k := 0) rfl (by rw [hx_x2_37]; rfl) (by decide) rfl ?_
      obtain ⟨hk0, hf⟩ := chk_some hf
      refine J.callCell (pc := 294) C hS hSL hcv (of_decide_eq_true hk0) tw_373 (Nat.le_of_ble_eq_true rfl) (Nat.le_of_ble_eq_true rfl) (Nat.le_of_ble_eq_true rfl) dL_law_294 ?_
      obtain ⟨r_39, σ_40, h_38, hf⟩ := bnd2_some hf
      refine J.callSX (pc := 297) C (m_L_act h_38) hlow hx0 (hR.rm (by omega) (by omega)) wyL_act tsL_act tw_381 [.ref (Xad X x0), .int (cv x2), .int (cv x2_35), .int (cv x2_36)] [] rfl rfl (Nat.le_of_ble_eq_true rfl) (Nat.le_of_ble_eq_true rfl) (Nat.le_of_ble_eq_true rfl) (stk' := [.int r_39]) rfl dL_law_297 rfl (P := fun X => RtW X (m * (2 * w + 3)) (m * (6 * w + 18)) t0 ∧ Sx X sb SL xs) ⟨RtW.add (hR.mono (by omega) (by omega)), Sx.add hS⟩ (fun X C hk had hR => ?_)
      obtain ⟨hR, hS⟩ := hR
      have hcl : Cl (Xks X) := by rw [hk]; exact hcl
      have hlow : ∀ k, k ∈ Xks X → k < 105 := by rw [hk]; exact hlow
      have hx0 : Ok (Xks X) x0 8 := by rw [hk]; exact hx0
      rw [← had]
      refine J.if_eq (pc := 300) C (tgt := 310) dL_law_300 (by decide) hf (fun hf => ?_) (fun hf => ?_)
      · refine J.iconst (pc := 310) C (v := 0) dL_law_310 (by decide) ?_
        exact J.zretW (pc := 311) C rfl hR ((hp.1 _ (Option.some.inj hf).symm)) dL_law_311
      · refine J.aload_n (pc := 303) C dL_law_303 rfl 2 rfl ?_
        obtain ⟨r_42, h_41, hf⟩ := bnd_some hf
        refine J.callS (pc := 304) C (m_L_ordered h_41) hx0 wyL_ordered tsL_ordered tw_570 [.ref (Xad X x0)] [] rfl rfl (Nat.le_of_ble_eq_true rfl) (Nat.le_of_ble_eq_true rfl) (Nat.le_of_ble_eq_true rfl) (stk' := [.int r_42]) rfl dL_law_304 rfl ?_
        refine J.if_ne (pc := 307) C (tgt := 312) dL_law_307 (by decide) hf (fun hf => ?_) (fun hf => ?_)
        · obtain ⟨x5_43, hx_x5_43, hf⟩ := nm_some hf
          refine J.iinc (pc := 312) C (v := x5_43) (loc' := [(5, .int x5_43), (2, .int x2_37), (0, .ref sb), (1, .ref (Xad X x0))]) dL_law_312 (k := 3) rfl (by rw [hx_x5_43]; rfl) (by decide) rfl ?_
          refine J.goto (pc := 315) C (tgt := 265) dL_law_315 (by decide) ?_
          exact J.sub (loc' := [(0, .ref sb), (1, .ref (Xad X x0)), (2, .int x2_37), (5, .int x5_43)]) [2, 3, 1, 0] rfl ((hp.2 _ (Option.some.inj hf).symm) X C hcl hlow hS hx0 (hR.mono (by omega) (by omega)))
        · refine J.iconst (pc := 310) C (v := 0) dL_law_310 (by decide) ?_
          exact J.zretW (pc := 311) C rfl hR ((hp.1 _ (Option.some.inj hf).symm)) dL_law_311
  have L191 : ∀ (σ : Mem) (x2 : Int32) (x3 : Int32) (x5 : Int32) (t : (Int32 × Mem)), f_L_law_L191 n w cv σ x0 x2 x3 x5 = some t → t = t0 → ∀ (X : Ctx), Cx X RL cL_law 6 (some FieldType.boolean) 8 207 → Cl (Xks X) → (∀ k, k ∈ Xks X → k < 105) → Sx X sb SL xs → Ok (Xks X) x0 8 → RtW X (w * (2 * w + 3)) (w * (6 * w + 18)) t0 → J X 191 [(0, .ref sb), (1, .ref (Xad X x0)), (2, .int x2), (3, .int x3), (5, .int x5)] [] σ := by
    intro σ x2 x3 x5 t hf hp
    unfold f_L_law_L191 at hf
    refine J_iter (JJ := fun (s : Mem × Int32 × Int32 × Int32) => (∀ (X : Ctx), Cx X RL cL_law 6 (some FieldType.boolean) 8 207 → Cl (Xks X) → (∀ k, k ∈ Xks X → k < 105) → Sx X sb SL xs → Ok (Xks X) x0 8 → RtW X (w * (2 * w + 3)) (w * (6 * w + 18)) t0 → J X 191 [(0, .ref sb), (1, .ref (Xad X x0)), (2, .int (s.2.1)), (3, .int (s.2.2.1)), (5, .int (s.2.2.2))] [] s.1)) (Ps := fun t => t = t0) ?_ w (σ, x2, x3, x5) t hf hp
    clear hf hp
    intro s t hf hp hq
    obtain ⟨σ, x2, x3, x5⟩ := s
    have hp := And.intro hp hq
    clear hq
    have hf : f_L_law_B191 n w cv σ x0 x2 x3 x5 = some t := hf
    intro X C hcl hlow hS hx0 hR
    show J X 191 [(0, .ref sb), (1, .ref (Xad X x0)), (2, .int x2), (3, .int x3), (5, .int x5)] [] σ
    unfold f_L_law_B191 at hf
    refine J.iload (pc := 191) C dL_law_191 4 rfl ?_
    refine J.iconst (pc := 193) C (v := 3) dL_law_193 (by decide) ?_
    refine J.icmp_ge (pc := 194) C (tgt := 246) dL_law_194 (by decide) hf (fun hf => ?_) (fun hf => ?_)
    · refine J.aload_n (pc := 246) C dL_law_246 rfl 1 rfl ?_
      refine J.iconst (pc := 247) C (v := 5) dL_law_247 (by decide) ?_
      refine J.iload_n (pc := 248) C dL_law_248 rfl 3 rfl ?_
      refine J.bipush (pc := 249) C (v := 16) dL_law_249 (by decide) ?_
      refine J.ishr (pc := 251) C dL_law_251 ?_
      refine J.sipush (pc := 252) C (v := 500) dL_law_252 (by decide) ?_
      obtain ⟨r_14, h_13, hf⟩ := bnd_some hf
      refine J.callS (pc := 255) C (m_L_up h_13) trivial wyL_up tsL_up tw_377 [.int (x3 >>> (16 &&& 31)), .int 500] [.int 5, .ref (Xad X x0)] rfl rfl (Nat.le_of_ble_eq_true rfl) (Nat.le_of_ble_eq_true rfl) (Nat.le_of_ble_eq_true rfl) (stk' := [.int r_14, .int 5, .ref (Xad X x0)]) rfl dL_law_255 rfl ?_
      obtain ⟨r_16, σ_17, h_15, hf⟩ := bnd2_some hf
      refine J.callV (pc := 258) C (m_X8_set h_15) hx0 wyX8_set tvX8_set_i tvX8_set_s tw_369 kcX8 rfl hx0 [.int 5, .int r_14] [] rfl rfl (Nat.le_of_ble_eq_true rfl) (Nat.le_of_ble_eq_true rfl) (Nat.le_of_ble_eq_true rfl) (stk' := [.int r_16]) rfl dL_law_258 rfl ?_
      refine J.pop (pc := 261) C dL_law_261 rfl ?_
      refine J.iconst (pc := 262) C (v := 0) dL_law_262 (by decide) ?_
      refine J.istore (pc := 263) C (loc' := [(5, .int 0), (0, .ref sb), (1, .ref (Xad X x0)), (2, .int x2), (3, .int x3)]) dL_law_263 (by decide) rfl ?_
      obtain ⟨t0, hf, he⟩ := exi_some hf
      have hp := hp.1 _ he
      exact J.sub (loc' := [(0, .ref sb), (1, .ref (Xad X x0)), (2, .int x2), (5, .int 0)]) [1, 2, 3, 0] rfl (L265 σ_17 x2 0 _ hf hp X C hcl hlow hS hx0 (hR.mono (by omega) (by omega)))
    · refine J.aload_n (pc := 197) C dL_law_197 rfl 0 rfl ?_
      refine J.iload_n (pc := 198) C dL_law_198 rfl 2 rfl ?_
      obtain ⟨x2_44, hx_x2_44, hf⟩ := nm_some hf
      refine J.iinc (pc := 199) C (v := x2_44) (loc' := [(2, .int x2_44), (0, .ref sb), (1, .ref (Xad X x0)), (3, .int x3), (5, .int x5)]) dL_law_199 (k := 2) rfl (by rw [hx_x2_44]; rfl) (by decide) rfl ?_
      obtain ⟨hk0, hf⟩ := chk_some hf
      refine J.callCell (pc := 202) C hS hSL hcv (of_decide_eq_true hk0) tw_373 (Nat.le_of_ble_eq_true rfl) (Nat.le_of_ble_eq_true rfl) (Nat.le_of_ble_eq_true rfl) dL_law_202 ?_
      refine J.nmI hf (fun x3_45 hf => ?_)
      refine J.istore_n (pc := 205) C (loc' := [(3, .int x3_45), (2, .int x2_44), (0, .ref sb), (1, .ref (Xad X x0)), (5, .int x5)]) dL_law_205 rfl (by decide) rfl ?_
      refine J.aload_n (pc := 206) C dL_law_206 rfl 3 rfl ?_
      refine J.iload (pc := 207) C dL_law_207 4 rfl ?_
      refine J.iconst (pc := 209) C (v := 0) dL_law_209 (by decide) ?_
      refine J.iload_n (pc := 210) C dL_law_210 rfl 0 rfl ?_
      refine J.sipush (pc := 211) C (v := 600) dL_law_211 (by decide) ?_
      obtain ⟨r_47, h_46, hf⟩ := bnd_some hf
      refine J.callS (pc := 214) C (m_L_up h_46) trivial wyL_up tsL_up tw_377 [.int x3_45, .int 600] [.int 0, .int x5, .ref (Xad X x0)] rfl rfl (Nat.le_of_ble_eq_true rfl) (Nat.le_of_ble_eq_true rfl) (Nat.le_of_ble_eq_true rfl) (stk' := [.int r_47, .int 0, .int x5, .ref (Xad X x0)]) rfl dL_law_214 rfl ?_
      obtain ⟨r_49, σ_50, h_48, hf⟩ := bnd2_some hf
      refine J.callV (pc := 217) C (m_X8_pump h_48) hx0 wyX8_pump tvX8_pump_i tvX8_pump_s tw_365 kcX8 rfl hx0 [.int x5, .int 0, .int r_47] [] rfl rfl (Nat.le_of_ble_eq_true rfl) (Nat.le_of_ble_eq_true rfl) (Nat.le_of_ble_eq_true rfl) (stk' := [.int r_49]) rfl dL_law_217 rfl ?_
      refine J.pop (pc := 220) C dL_law_220 rfl ?_
      refine J.aload_n (pc := 221) C dL_law_221 rfl 3 rfl ?_
      refine J.iload (pc := 222) C dL_law_222 4 rfl ?_
      refine J.iconst (pc := 224) C (v := 1) dL_law_224 (by decide) ?_
      refine J.iconst (pc := 225) C (v := 1) dL_law_225 (by decide) ?_
      refine J.iload_n (pc := 226) C dL_law_226 rfl 0 rfl ?_
      refine J.bipush (pc := 227) C (v := 9) dL_law_227 (by decide) ?_
      refine J.ishr (pc := 229) C dL_law_229 ?_
      refine J.bipush (pc := 230) C (v := 100) dL_law_230 (by decide) ?_
      obtain ⟨r_52, h_51, hf⟩ := bnd_some hf
      refine J.callS (pc := 232) C (m_L_up h_51) trivial wyL_up tsL_up tw_377 [.int (x3_45 >>> (9 &&& 31)), .int 100] [.int 1, .int 1, .int x5, .ref (Xad X x0)] rfl rfl (Nat.le_of_ble_eq_true rfl) (Nat.le_of_ble_eq_true rfl) (Nat.le_of_ble_eq_true rfl) (stk' := [.int r_52, .int 1, .int 1, .int x5, .ref (Xad X x0)]) rfl dL_law_232 rfl ?_
      refine J.iadd (pc := 235) C dL_law_235 ?_
      obtain ⟨r_54, σ_55, h_53, hf⟩ := bnd2_some hf
      refine J.callV (pc := 236) C (m_X8_pump h_53) hx0 wyX8_pump tvX8_pump_i tvX8_pump_s tw_365 kcX8 rfl hx0 [.int x5, .int 1, .int (1 + r_52)] [] rfl rfl (Nat.le_of_ble_eq_true rfl) (Nat.le_of_ble_eq_true rfl) (Nat.le_of_ble_eq_true rfl) (stk' := [.int r_54]) rfl dL_law_236 rfl ?_
      refine J.pop (pc := 239) C dL_law_239 rfl ?_
      obtain ⟨x5_56, hx_x5_56, hf⟩ := nm_some hf
      refine J.iinc (pc := 240) C (v := x5_56) (loc' := [(5, .int x5_56), (3, .int x3_45), (2, .int x2_44), (0, .ref sb), (1, .ref (Xad X x0))]) dL_law_240 (k := 4) rfl (by rw [hx_x5_56]; rfl) (by decide) rfl ?_
      refine J.goto (pc := 243) C (tgt := 191) dL_law_243 (by decide) ?_
      exact J.sub (loc' := [(0, .ref sb), (1, .ref (Xad X x0)), (2, .int x2_44), (3, .int x3_45), (5, .int x5_56)]) [3, 4, 2, 1, 0] rfl ((hp.2 _ (Option.some.inj hf).symm) X C hcl hlow hS hx0 (hR.mono (by omega) (by omega)))
  have L61 : ∀ (σ : Mem) (x2 : Int32) (x3 : Int32) (x4 : Int32) (x5 : Int32) (t : (Int32 × Mem)), f_L_law_L61 n w cv σ x0 x2 x3 x4 x5 = some t → t = t0 → ∀ (X : Ctx), Cx X RL cL_law 6 (some FieldType.boolean) 8 207 → Cl (Xks X) → (∀ k, k ∈ Xks X → k < 105) → Sx X sb SL xs → Ok (Xks X) x0 8 → RtW X (w * (2 * w + 3)) (w * (6 * w + 18)) t0 → J X 61 [(0, .ref sb), (1, .ref (Xad X x0)), (2, .int x2), (3, .int x3), (4, .int x4), (5, .int x5)] [] σ := by
    intro σ x2 x3 x4 x5 t hf hp
    unfold f_L_law_L61 at hf
    refine J_iter (JJ := fun (s : Mem × Int32 × Int32 × Int32) => (∀ (X : Ctx), Cx X RL cL_law 6 (some FieldType.boolean) 8 207 → Cl (Xks X) → (∀ k, k ∈ Xks X → k < 105) → Sx X sb SL xs → Ok (Xks X) x0 8 → RtW X (w * (2 * w + 3)) (w * (6 * w + 18)) t0 → J X 61 [(0, .ref sb), (1, .ref (Xad X x0)), (2, .int (s.2.1)), (3, .int (s.2.2.1)), (4, .int x4), (5, .int (s.2.2.2))] [] s.1)) (Ps := fun t => t = t0) ?_ w (σ, x2, x3, x5) t hf hp
    clear hf hp
    intro s t hf hp hq
    obtain ⟨σ, x2, x3, x5⟩ := s
    have hp := And.intro hp hq
    clear hq
    have hf : f_L_law_B61 n w cv σ x0 x2 x3 x4 x5 = some t := hf
    intro X C hcl hlow hS hx0 hR
    show J X 61 [(0, .ref sb), (1, .ref (Xad X x0)), (2, .int x2), (3, .int x3), (4, .int x4), (5, .int x5)] [] σ
    unfold f_L_law_B61 at hf
    refine J.iload (pc := 61) C dL_law_61 5 rfl ?_
    refine J.iload (pc := 63) C dL_law_63 4 rfl ?_
    refine J.icmp_ge (pc := 65) C (tgt := 188) dL_law_65 (by decide) hf (fun hf => ?_) (fun hf => ?_)
    · refine J.iconst (pc := 188) C (v := 0) dL_law_188 (by decide) ?_
      refine J.istore (pc := 189) C (loc' := [(5, .int 0), (0, .ref sb), (1, .ref (Xad X x0)), (2, .int x2), (3, .int x3), (4, .int x4)]) dL_law_189 (by decide) rfl ?_
      obtain ⟨t0, hf, he⟩ := exi_some hf
      have hp := hp.1 _ he
      exact J.sub (loc' := [(0, .ref sb), (1, .ref (Xad X x0)), (2, .int x2), (3, .int x3), (5, .int 0)]) [1, 2, 3, 4, 0] rfl (L191 σ x2 x3 0 _ hf hp X C hcl hlow hS hx0 (hR.mono (by omega) (by omega)))
    · refine J.aload_n (pc := 68) C dL_law_68 rfl 0 rfl ?_
      refine J.iload_n (pc := 69) C dL_law_69 rfl 2 rfl ?_
      obtain ⟨x2_57, hx_x2_57, hf⟩ := nm_some hf
      refine J.iinc (pc := 70) C (v := x2_57) (loc' := [(2, .int x2_57), (0, .ref sb), (1, .ref (Xad X x0)), (3, .int x3), (4, .int x4), (5, .int x5)]) dL_law_70 (k := 2) rfl (by rw [hx_x2_57]; rfl) (by decide) rfl ?_
      obtain ⟨hk0, hf⟩ := chk_some hf
      refine J.callCell (pc := 73) C hS hSL hcv (of_decide_eq_true hk0) tw_373 (Nat.le_of_ble_eq_true rfl) (Nat.le_of_ble_eq_true rfl) (Nat.le_of_ble_eq_true rfl) dL_law_73 ?_
      refine J.nmI hf (fun x3_58 hf => ?_)
      refine J.istore_n (pc := 76) C (loc' := [(3, .int x3_58), (2, .int x2_57), (0, .ref sb), (1, .ref (Xad X x0)), (4, .int x4), (5, .int x5)]) dL_law_76 rfl (by decide) rfl ?_
      refine J.aload_n (pc := 77) C dL_law_77 rfl 3 rfl ?_
      refine J.iload (pc := 78) C dL_law_78 5 rfl ?_
      refine J.iconst (pc := 80) C (v := 0) dL_law_80 (by decide) ?_
      refine J.iconst (pc := 81) C (v := 1) dL_law_81 (by decide) ?_
      refine J.iload_n (pc := 82) C dL_law_82 rfl 0 rfl ?_
      refine J.bipush (pc := 83) C (v := 100) dL_law_83 (by decide) ?_
      obtain ⟨r_60, h_59, hf⟩ := bnd_some hf
      refine J.callS (pc := 85) C (m_L_up h_59) trivial wyL_up tsL_up tw_377 [.int x3_58, .int 100] [.int 1, .int 0, .int x5, .ref (Xad X x0)] rfl rfl (Nat.le_of_ble_eq_true rfl) (Nat.le_of_ble_eq_true rfl) (Nat.le_of_ble_eq_true rfl) (stk' := [.int r_60, .int 1, .int 0, .int x5, .ref (Xad X x0)]) rfl dL_law_85 rfl ?_
      refine J.iadd (pc := 88) C dL_law_88 ?_
      obtain ⟨r_62, σ_63, h_61, hf⟩ := bnd2_some hf
      refine J.callV (pc := 89) C (m_X8_nozzle h_61) hx0 wyX8_nozzle tvX8_nozzle_i tvX8_nozzle_s tw_351 kcX8 rfl hx0 [.int x5, .int 0, .int (1 + r_60)] [] rfl rfl (Nat.le_of_ble_eq_true rfl) (Nat.le_of_ble_eq_true rfl) (Nat.le_of_ble_eq_true rfl) (stk' := [.int r_62]) rfl dL_law_89 rfl ?_
      refine J.pop (pc := 92) C dL_law_92 rfl ?_
      refine J.aload_n (pc := 93) C dL_law_93 rfl 3 rfl ?_
      refine J.iload (pc := 94) C dL_law_94 5 rfl ?_
      refine J.iconst (pc := 96) C (v := 1) dL_law_96 (by decide) ?_
      refine J.iconst (pc := 97) C (v := 1) dL_law_97 (by decide) ?_
      refine J.iload_n (pc := 98) C dL_law_98 rfl 0 rfl ?_
      refine J.bipush (pc := 99) C (v := 7) dL_law_99 (by decide) ?_
      refine J.ishr (pc := 101) C dL_law_101 ?_
      refine J.sipush (pc := 102) C (v := 5000) dL_law_102 (by decide) ?_
      obtain ⟨r_65, h_64, hf⟩ := bnd_some hf
      refine J.callS (pc := 105) C (m_L_up h_64) trivial wyL_up tsL_up tw_377 [.int (x3_58 >>> (7 &&& 31)), .int 5000] [.int 1, .int 1, .int x5, .ref (Xad X x0)] rfl rfl (Nat.le_of_ble_eq_true rfl) (Nat.le_of_ble_eq_true rfl) (Nat.le_of_ble_eq_true rfl) (stk' := [.int r_65, .int 1, .int 1, .int x5, .ref (Xad X x0)]) rfl dL_law_105 rfl ?_
      refine J.iadd (pc := 108) C dL_law_108 ?_
      obtain ⟨r_67, σ_68, h_66, hf⟩ := bnd2_some hf
      refine J.callV (pc := 109) C (m_X8_nozzle h_66) hx0 wyX8_nozzle tvX8_nozzle_i tvX8_nozzle_s tw_351 kcX8 rfl hx0 [.int x5, .int 1, .int (1 + r_65)] [] rfl rfl (Nat.le_of_ble_eq_true rfl) (Nat.le_of_ble_eq_true rfl) (Nat.le_of_ble_eq_true rfl) (stk' := [.int r_67]) rfl dL_law_109 rfl ?_
      refine J.pop (pc := 112) C dL_law_112 rfl ?_
      refine J.aload_n (pc := 113) C dL_law_113 rfl 3 rfl ?_
      refine J.iload (pc := 114) C dL_law_114 5 rfl ?_
      refine J.iconst (pc := 116) C (v := 2) dL_law_116 (by decide) ?_
      refine J.iload_n (pc := 117) C dL_law_117 rfl 0 rfl ?_
      refine J.bipush (pc := 118) C (v := 11) dL_law_118 (by decide) ?_
      refine J.ishr (pc := 120) C dL_law_120 ?_
      refine J.bipush (pc := 121) C (v := 20) dL_law_121 (by decide) ?_
      obtain ⟨r_70, h_69, hf⟩ := bnd_some hf
      refine J.callS (pc := 123) C (m_L_up h_69) trivial wyL_up tsL_up tw_377 [.int (x3_58 >>> (11 &&& 31)), .int 20] [.int 2, .int x5, .ref (Xad X x0)] rfl rfl (Nat.le_of_ble_eq_true rfl) (Nat.le_of_ble_eq_true rfl) (Nat.le_of_ble_eq_true rfl) (stk' := [.int r_70, .int 2, .int x5, .ref (Xad X x0)]) rfl dL_law_123 rfl ?_
      obtain ⟨r_72, σ_73, h_71, hf⟩ := bnd2_some hf
      refine J.callV (pc := 126) C (m_X8_nozzle h_71) hx0 wyX8_nozzle tvX8_nozzle_i tvX8_nozzle_s tw_351 kcX8 rfl hx0 [.int x5, .int 2, .int r_70] [] rfl rfl (Nat.le_of_ble_eq_true rfl) (Nat.le_of_ble_eq_true rfl) (Nat.le_of_ble_eq_true rfl) (stk' := [.int r_72]) rfl dL_law_126 rfl ?_
      refine J.pop (pc := 129) C dL_law_129 rfl ?_
      refine J.aload_n (pc := 130) C dL_law_130 rfl 3 rfl ?_
      refine J.iload (pc := 131) C dL_law_131 5 rfl ?_
      refine J.iconst (pc := 133) C (v := 3) dL_law_133 (by decide) ?_
      refine J.iconst (pc := 134) C (v := 1) dL_law_134 (by decide) ?_
      refine J.iload_n (pc := 135) C dL_law_135 rfl 0 rfl ?_
      refine J.iconst (pc := 136) C (v := 3) dL_law_136 (by decide) ?_
      refine J.ishr (pc := 137) C dL_law_137 ?_
      refine J.sipush (pc := 138) C (v := 1000) dL_law_138 (by decide) ?_
      obtain ⟨r_75, h_74, hf⟩ := bnd_some hf
      refine J.callS (pc := 141) C (m_L_up h_74) trivial wyL_up tsL_up tw_377 [.int (x3_58 >>> (3 &&& 31)), .int 1000] [.int 1, .int 3, .int x5, .ref (Xad X x0)] rfl rfl (Nat.le_of_ble_eq_true rfl) (Nat.le_of_ble_eq_true rfl) (Nat.le_of_ble_eq_true rfl) (stk' := [.int r_75, .int 1, .int 3, .int x5, .ref (Xad X x0)]) rfl dL_law_141 rfl ?_
      refine J.iadd (pc := 144) C dL_law_144 ?_
      obtain ⟨r_77, σ_78, h_76, hf⟩ := bnd2_some hf
      refine J.callV (pc := 145) C (m_X8_nozzle h_76) hx0 wyX8_nozzle tvX8_nozzle_i tvX8_nozzle_s tw_351 kcX8 rfl hx0 [.int x5, .int 3, .int (1 + r_75)] [] rfl rfl (Nat.le_of_ble_eq_true rfl) (Nat.le_of_ble_eq_true rfl) (Nat.le_of_ble_eq_true rfl) (stk' := [.int r_77]) rfl dL_law_145 rfl ?_
      refine J.pop (pc := 148) C dL_law_148 rfl ?_
      refine J.aload_n (pc := 149) C dL_law_149 rfl 3 rfl ?_
      refine J.iload (pc := 150) C dL_law_150 5 rfl ?_
      refine J.iconst (pc := 152) C (v := 4) dL_law_152 (by decide) ?_
      refine J.iload_n (pc := 153) C dL_law_153 rfl 0 rfl ?_
      refine J.bipush (pc := 154) C (v := 17) dL_law_154 (by decide) ?_
      refine J.ishr (pc := 156) C dL_law_156 ?_
      refine J.iconst (pc := 157) C (v := 3) dL_law_157 (by decide) ?_
      obtain ⟨r_80, h_79, hf⟩ := bnd_some hf
      refine J.callS (pc := 158) C (m_L_up h_79) trivial wyL_up tsL_up tw_377 [.int (x3_58 >>> (17 &&& 31)), .int 3] [.int 4, .int x5, .ref (Xad X x0)] rfl rfl (Nat.le_of_ble_eq_true rfl) (Nat.le_of_ble_eq_true rfl) (Nat.le_of_ble_eq_true rfl) (stk' := [.int r_80, .int 4, .int x5, .ref (Xad X x0)]) rfl dL_law_158 rfl ?_
      obtain ⟨r_82, σ_83, h_81, hf⟩ := bnd2_some hf
      refine J.callV (pc := 161) C (m_X8_nozzle h_81) hx0 wyX8_nozzle tvX8_nozzle_i tvX8_nozzle_s tw_351 kcX8 rfl hx0 [.int x5, .int 4, .int r_80] [] rfl rfl (Nat.le_of_ble_eq_true rfl) (Nat.le_of_ble_eq_true rfl) (Nat.le_of_ble_eq_true rfl) (stk' := [.int r_82]) rfl dL_law_161 rfl ?_
      refine J.pop (pc := 164) C dL_law_164 rfl ?_
      refine J.aload_n (pc := 165) C dL_law_165 rfl 3 rfl ?_
      refine J.iload (pc := 166) C dL_law_166 5 rfl ?_
      refine J.iconst (pc := 168) C (v := 5) dL_law_168 (by decide) ?_
      refine J.iload_n (pc := 169) C dL_law_169 rfl 0 rfl ?_
      refine J.bipush (pc := 170) C (v := 19) dL_law_170 (by decide) ?_
      refine J.ishr (pc := 172) C dL_law_172 ?_
      refine J.bipush (pc := 173) C (v := 101) dL_law_173 (by decide) ?_
      obtain ⟨r_85, h_84, hf⟩ := bnd_some hf
      refine J.callS (pc := 175) C (m_L_up h_84) trivial wyL_up tsL_up tw_377 [.int (x3_58 >>> (19 &&& 31)), .int 101] [.int 5, .int x5, .ref (Xad X x0)] rfl rfl (Nat.le_of_ble_eq_true rfl) (Nat.le_of_ble_eq_true rfl) (Nat.le_of_ble_eq_true rfl) (stk' := [.int r_85, .int 5, .int x5, .ref (Xad X x0)]) rfl dL_law_175 rfl ?_
      obtain ⟨r_87, σ_88, h_86, hf⟩ := bnd2_some hf
      refine J.callV (pc := 178) C (m_X8_nozzle h_86) hx0 wyX8_nozzle tvX8_nozzle_i tvX8_nozzle_s tw_351 kcX8 rfl hx0 [.int x5, .int 5, .int r_85] [] rfl rfl (Nat.le_of_ble_eq_true rfl) (Nat.le_of_ble_eq_true rfl) (Nat.le_of_ble_eq_true rfl) (stk' := [.int r_87]) rfl dL_law_178 rfl ?_
      refine J.pop (pc := 181) C dL_law_181 rfl ?_
      obtain ⟨x5_89, hx_x5_89, hf⟩ := nm_some hf
      refine J.iinc (pc := 182) C (v := x5_89) (loc' := [(5, .int x5_89), (3, .int x3_58), (2, .int x2_57), (0, .ref sb), (1, .ref (Xad X x0)), (4, .int x4)]) dL_law_182 (k := 5) rfl (by rw [hx_x5_89]; rfl) (by decide) rfl ?_
      refine J.goto (pc := 185) C (tgt := 61) dL_law_185 (by decide) ?_
      exact J.sub (loc' := [(0, .ref sb), (1, .ref (Xad X x0)), (2, .int x2_57), (3, .int x3_58), (4, .int x4), (5, .int x5_89)]) [3, 4, 2, 1, 5, 0] rfl ((hp.2 _ (Option.some.inj hf).symm) X C hcl hlow hS hx0 (hR.mono (by omega) (by omega)))
  have hp : t0 = t0 := rfl
  unfold f_L_law at hf
  intro X C hcl hlow hS hx0 hR
  refine J.astore_n (pc := 7) C (loc' := [(1, .ref (Xad X x0)), (0, .ref sb)]) dL_law_7 rfl (by decide) rfl ?_
  refine J.iconst (pc := 8) C (v := 0) dL_law_8 (by decide) ?_
  refine J.istore_n (pc := 9) C (loc' := [(2, .int 0), (1, .ref (Xad X x0)), (0, .ref sb)]) dL_law_9 rfl (by decide) rfl ?_
  refine J.aload_n (pc := 10) C dL_law_10 rfl 1 rfl ?_
  refine J.aload_n (pc := 11) C dL_law_11 rfl 2 rfl ?_
  refine J.iload_n (pc := 12) C dL_law_12 rfl 0 rfl ?_
  obtain ⟨x2_1, hx_x2_1, hf⟩ := nm_some hf
  refine J.iinc (pc := 13) C (v := x2_1) (loc' := [(2, .int x2_1), (1, .ref (Xad X x0)), (0, .ref sb)]) dL_law_13 (k := 0) rfl (by rw [hx_x2_1]; rfl) (by decide) rfl ?_
  obtain ⟨hk0, hf⟩ := chk_some hf
  refine J.callCell (pc := 16) C hS hSL hcv (of_decide_eq_true hk0) tw_373 (Nat.le_of_ble_eq_true rfl) (Nat.le_of_ble_eq_true rfl) (Nat.le_of_ble_eq_true rfl) dL_law_16 ?_
  obtain ⟨r_3, σ_4, h_2, hf⟩ := bnd2_some hf
  refine J.callS (pc := 19) C (m_L_refused h_2) hx0 wyL_refused tsL_refused tw_684 [.ref (Xad X x0), .int (cv (0 : Int32))] [] rfl rfl (Nat.le_of_ble_eq_true rfl) (Nat.le_of_ble_eq_true rfl) (Nat.le_of_ble_eq_true rfl) (stk' := [.int r_3]) rfl dL_law_19 rfl ?_
  refine J.if_ne (pc := 22) C (tgt := 27) dL_law_22 (by decide) hf (fun hf => ?_) (fun hf => ?_)
  · refine J.aload_n (pc := 27) C dL_law_27 rfl 2 rfl ?_
    refine J.iload_n (pc := 28) C dL_law_28 rfl 0 rfl ?_
    obtain ⟨x2_5, hx_x2_5, hf⟩ := nm_some hf
    refine J.iinc (pc := 29) C (v := x2_5) (loc' := [(2, .int x2_5), (1, .ref (Xad X x0)), (0, .ref sb)]) dL_law_29 (k := 0) rfl (by rw [hx_x2_5]; rfl) (by decide) rfl ?_
    obtain ⟨hk0, hf⟩ := chk_some hf
    refine J.callCell (pc := 32) C hS hSL hcv (of_decide_eq_true hk0) tw_373 (Nat.le_of_ble_eq_true rfl) (Nat.le_of_ble_eq_true rfl) (Nat.le_of_ble_eq_true rfl) dL_law_32 ?_
    refine J.nmI hf (fun x3_6 hf => ?_)
    refine J.istore_n (pc := 35) C (loc' := [(3, .int x3_6), (2, .int x2_5), (1, .ref (Xad X x0)), (0, .ref sb)]) dL_law_35 rfl (by decide) rfl ?_
    refine J.iconst (pc := 36) C (v := 1) dL_law_36 (by decide) ?_
    refine J.iload_n (pc := 37) C dL_law_37 rfl 0 rfl ?_
    refine J.bipush (pc := 38) C (v := 12) dL_law_38 (by decide) ?_
    obtain ⟨r_8, h_7, hf⟩ := bnd_some hf
    refine J.callS (pc := 40) C (m_L_up h_7) trivial wyL_up tsL_up tw_377 [.int x3_6, .int 12] [.int 1] rfl rfl (Nat.le_of_ble_eq_true rfl) (Nat.le_of_ble_eq_true rfl) (Nat.le_of_ble_eq_true rfl) (stk' := [.int r_8, .int 1]) rfl dL_law_40 rfl ?_
    refine J.iadd (pc := 43) C dL_law_43 ?_
    refine J.nmI hf (fun x4_9 hf => ?_)
    refine J.istore (pc := 44) C (loc' := [(4, .int x4_9), (3, .int x3_6), (2, .int x2_5), (1, .ref (Xad X x0)), (0, .ref sb)]) dL_law_44 (by decide) rfl ?_
    refine J.aload_n (pc := 46) C dL_law_46 rfl 3 rfl ?_
    refine J.iload (pc := 47) C dL_law_47 0 rfl ?_
    obtain ⟨r_11, σ_12, h_10, hf⟩ := bnd2_some hf
    refine J.callV (pc := 49) C (m_X8_setUp h_10) hx0 wyX8_setUp tvX8_setUp_i tvX8_setUp_s tw_314 kcX8 rfl hx0 [.int x4_9] [] rfl rfl (Nat.le_of_ble_eq_true rfl) (Nat.le_of_ble_eq_true rfl) (Nat.le_of_ble_eq_true rfl) (stk' := [.int r_11]) rfl dL_law_49 rfl ?_
    refine J.iconst (pc := 52) C (v := 4) dL_law_52 (by decide) ?_
    refine J.icmp_eq (pc := 53) C (tgt := 58) dL_law_53 (by decide) hf (fun hf => ?_) (fun hf => ?_)
    · refine J.iconst (pc := 58) C (v := 0) dL_law_58 (by decide) ?_
      refine J.istore (pc := 59) C (loc' := [(5, .int 0), (4, .int x4_9), (3, .int x3_6), (2, .int x2_5), (1, .ref (Xad X x0)), (0, .ref sb)]) dL_law_59 (by decide) rfl ?_
      exact J.sub (loc' := [(0, .ref sb), (1, .ref (Xad X x0)), (2, .int x2_5), (3, .int x3_6), (4, .int x4_9), (5, .int 0)]) [5, 4, 3, 2, 1, 0] rfl (L61 σ_12 x2_5 x3_6 x4_9 0 _ hf hp X C hcl hlow hS hx0 (hR.mono (by omega) (by omega)))
    · refine J.iconst (pc := 56) C (v := 0) dL_law_56 (by decide) ?_
      exact J.zretW (pc := 57) C rfl hR ((Option.some.inj hf).trans hp) dL_law_57
  · refine J.iconst (pc := 25) C (v := 0) dL_law_25 (by decide) ?_
    exact J.zretW (pc := 26) C rfl hR ((Option.some.inj hf).trans hp) dL_law_26
