/-! load -/
theorem tw_586 : Cond.constantFloat RX8 157 3212836864 ∈ lw_g := in_g 586 (by decide +kernel) (by decide +kernel)
theorem tw_925 : Cond.constantFloat RX9 106 3212836864 ∈ lw_g := in_g 925 (by decide +kernel) (by decide +kernel)
def loadP (b fl cap : Int32) (r : UInt32) : Prop := if b = 0 then r = 3212836864 else if cap = 0 then r = FP.fconst0 else alike32 r (FP.fdiv (FP.i2f fl) (FP.i2f (1000 * cap))) = true
theorem m_X8_load {l : Launch} {σ : Mem} {k : Nat} {x b fl cap : Int32} (h1 : f_X8_within x 0 2 = some b) (hb : ¬ b = 0 → f_X4_value σ (ptr (ptr (ptr k 0) 2) 0) x 0 = some cap ∧ ckI x (alen (ptr (ptr (ptr k 0) 2) 1)) = true ∧ σ (ptr (ptr (ptr k 0) 2) 1) (ix x) = fl) : CtDf l yX8_load cX8_load 3 1 40 (fun ks => Ok ks k 8) (fun ad => [.ref (ad k), .int x]) σ (loadP b fl cap) := by
  refine CtDf.of (by decide) (fun _ => Nat.le_of_ble_eq_true rfl) ?_
  intro X d0 C hd0 _ hk hcl hR
  have C : Cx (Xd X d0) RX8 cX8_load 3 (some FieldType.float) 1 40 := C
  rw [← Xd_ks X d0] at hk hcl
  rw [← Xd_ad X d0]
  show J (Xd X d0) 0 [(0, .ref (Xad (Xd X d0) k)), (1, .int x)] [] σ
  refine J.iload_n (pc := 0) C dX8_load_0 rfl 1 rfl ?_
  refine J.iconst (pc := 1) C (v := 0) dX8_load_1 (by decide) ?_
  refine J.iconst (pc := 2) C (v := 2) dX8_load_2 (by decide) ?_
  refine J.callS (pc := 3) C (m_X8_within h1) trivial wyX8_within tsX8_within tw_346 [.int x, .int 0, .int 2] [] rfl rfl (Nat.le_of_ble_eq_true rfl) (Nat.le_of_ble_eq_true rfl) (Nat.le_of_ble_eq_true rfl) (stk' := [.int b]) rfl dX8_load_3 rfl ?_
  refine J.if_ne (A := true) (B := false) (t := decide (b = 0)) (pc := 6) C (tgt := 12) dX8_load_6 (by decide) (by by_cases q : b = 0 <;> simp [q]) (fun h => ?_) (fun h => ?_)
  · have b0 : ¬ b = 0 := fun q => by rw [q] at h; exact Bool.noConfusion h
    obtain ⟨hv, hck, hfl⟩ := hb b0
    refine J.aload_n (pc := 12) C dX8_load_12 rfl 0 rfl ?_
    refine J.getR (pc := 13) C kcX8 hk 0 rfl tw_326 rfl dX8_load_13 ?_
    refine J.getR (pc := 16) C kcX5 (ok_8_0 hcl hk) 2 rfl tw_252 rfl dX8_load_16 ?_
    refine J.getR (pc := 19) C kcX3 (ok_5_2 hcl (ok_8_0 hcl hk)) 0 rfl tw_182 rfl dX8_load_19 ?_
    refine J.iload_n (pc := 22) C dX8_load_22 rfl 1 rfl ?_
    refine J.iconst (pc := 23) C (v := 0) dX8_load_23 (by decide) ?_
    refine J.callV (pc := 24) C (m_X4_value hv) (ok_3_0 hcl (ok_5_2 hcl (ok_8_0 hcl hk))) wyX4_value tvX4_value_i tvX4_value_s tw_577 kcX4 rfl (ok_3_0 hcl (ok_5_2 hcl (ok_8_0 hcl hk))) [.int x, .int 0] [] rfl rfl (Nat.le_of_ble_eq_true rfl) (Nat.le_of_ble_eq_true rfl) (Nat.le_of_ble_eq_true rfl) (stk' := [.int cap]) rfl dX8_load_24 rfl ?_
    refine J.istore_n (pc := 27) C (loc' := [(2, .int cap), (0, .ref (Xad (Xd X d0) k)), (1, .int x)]) dX8_load_27 rfl (by decide) rfl ?_
    refine J.iload_n (pc := 28) C dX8_load_28 rfl 0 rfl ?_
    refine J.if_ne (A := true) (B := false) (t := decide (cap = 0)) (pc := 29) C (tgt := 36) dX8_load_29 (by decide) (by by_cases q : cap = 0 <;> simp [q]) (fun h => ?_) (fun h => ?_)
    · have c0 : ¬ cap = 0 := fun q => by rw [q] at h; exact Bool.noConfusion h
      refine J.aload_n (pc := 36) C dX8_load_36 rfl 1 rfl ?_
      refine J.getR (pc := 37) C kcX8 hk 0 rfl tw_326 rfl dX8_load_37 ?_
      refine J.getR (pc := 40) C kcX5 (ok_8_0 hcl hk) 2 rfl tw_252 rfl dX8_load_40 ?_
      refine J.getR (pc := 43) C kcX3 (ok_5_2 hcl (ok_8_0 hcl hk)) 1 rfl tw_184 rfl dX8_load_43 ?_
      refine J.iload_n (pc := 46) C dX8_load_46 rfl 2 rfl ?_
      refine J.iald (τ := Unit) (e := some ()) (t := ()) (pc := 47) C (ok_3_1 hcl (ok_5_2 hcl (ok_8_0 hcl hk))) (by rw [hck]; rfl) dX8_load_47 (fun _ => ?_)
      rw [hfl]
      refine J.i2f (pc := 48) C dX8_load_48 ?_
      refine J.sipush (pc := 49) C (v := 1000) dX8_load_49 (by decide) ?_
      refine J.iload_n (pc := 52) C dX8_load_52 rfl 0 rfl ?_
      refine J.imul (pc := 53) C dX8_load_53 ?_
      refine J.i2f (pc := 54) C dX8_load_54 ?_
      refine J.fdivD (pc := 55) C hd0 dX8_load_55 (fun r d1 hal hd1 => ?_)
      exact J.fretD (pc := 56) (Cx.drawn C) hd1 hR (by unfold loadP; rw [if_neg b0, if_neg c0]; exact hal) dX8_load_56
    · have c0 : cap = 0 := of_decide_eq_true h.symm
      refine J.fconst0 (pc := 32) C dX8_load_32 ?_
      refine J.goto (pc := 33) C (tgt := 56) dX8_load_33 (by decide) ?_
      exact J.fretD (pc := 56) C hd0 hR (by unfold loadP; rw [if_neg b0, if_pos c0]) dX8_load_56
  · have b0 : b = 0 := of_decide_eq_true h.symm
    refine J.ldcf (pc := 9) C dX8_load_9 tw_586 ?_
    exact J.fretD (pc := 11) C hd0 hR (by unfold loadP; rw [if_pos b0]) dX8_load_11
