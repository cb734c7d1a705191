/-! meanHeight -/
theorem tw_591 : Cond.methodLink RX8 158 yX1_sumOfHeights ∈ lw_g := in_g 591 (by decide +kernel) (by decide +kernel)
theorem m_X8_meanHeight {l : Launch} {n : Nat} {σ : Mem} {k c : Nat} {h : Int32} (h5 : σ (ptr (ptr k 0) 1) 8 = nI c) (hc : 1 ≤ c) (hc2 : c ≤ 12) (hf : f_X1_sumOfHeights n σ (ptr (ptr k 0) 1) = some h) : CtDd l yX8_meanHeight cX8_meanHeight 2 1 22 (fun ks => Ok ks k 8) (fun ad => [.ref (ad k)]) σ (fun r => alike64 r (FP.ddiv (FP.i2d h) (FP.i2d (nI c))) = true) := by
  refine CtDd.of (by decide) (fun _ => Nat.le_of_ble_eq_true rfl) ?_
  intro X d0 C hd0 _ hk hcl hR
  have C : Cx (Xd X d0) RX8 cX8_meanHeight 2 (some FieldType.double) 1 22 := C
  rw [← Xd_ks X d0] at hk hcl
  rw [← Xd_ad X d0]
  show J (Xd X d0) 0 [(0, .ref (Xad (Xd X d0) k))] [] σ
  refine J.aload_n (pc := 0) C dX8_meanHeight_0 rfl 0 rfl ?_
  refine J.getR (pc := 1) C kcX8 hk 0 rfl tw_326 rfl dX8_meanHeight_1 ?_
  refine J.getR (pc := 4) C kcX5 (ok_8_0 hcl hk) 1 rfl tw_250 rfl dX8_meanHeight_4 ?_
  refine J.getI (pc := 7) C kcX1 (ok_5_1 hcl (ok_8_0 hcl hk)) 8 rfl tw_142 rfl dX8_meanHeight_7 ?_
  rw [h5]
  refine J.istore_n (pc := 10) C (loc' := [(1, .int (nI c)), (0, .ref (Xad (Xd X d0) k))]) dX8_meanHeight_10 rfl (by decide) rfl ?_
  refine J.iload_n (pc := 11) C dX8_meanHeight_11 rfl 0 rfl ?_
  refine J.iconst (pc := 12) C (v := nI 1) dX8_meanHeight_12 rfl ?_
  refine J.icmp_ge (A := true) (B := false) (t := true) C dX8_meanHeight_13 (tgt := 20) rfl (if_pos (il hc (by omega))) (fun _ => ?_) (fun h => Bool.noConfusion h)
  refine J.aload_n (pc := 20) C dX8_meanHeight_20 rfl 1 rfl ?_
  refine J.getR (pc := 21) C kcX8 hk 0 rfl tw_326 rfl dX8_meanHeight_21 ?_
  refine J.getR (pc := 24) C kcX5 (ok_8_0 hcl hk) 1 rfl tw_250 rfl dX8_meanHeight_24 ?_
  refine J.callV (pc := 27) C (m_X1_sumOfHeights hf) (ok_5_1 hcl (ok_8_0 hcl hk)) wyX1_sumOfHeights tvX1_sumOfHeights_i tvX1_sumOfHeights_s tw_591 kcX1 rfl (ok_5_1 hcl (ok_8_0 hcl hk)) [] [] rfl rfl (Nat.le_of_ble_eq_true rfl) (Nat.le_of_ble_eq_true rfl) (Nat.le_of_ble_eq_true rfl) (stk' := [.int h]) rfl dX8_meanHeight_27 rfl ?_
  refine J.i2d (pc := 30) C dX8_meanHeight_30 ?_
  refine J.iload_n (pc := 31) C dX8_meanHeight_31 rfl 0 rfl ?_
  refine J.i2d (pc := 32) C dX8_meanHeight_32 ?_
  refine J.ddivD (pc := 33) C hd0 dX8_meanHeight_33 (fun r d1 hal hd1 => ?_)
  exact J.dretD (pc := 34) (Cx.drawn C) hd1 hR hal dX8_meanHeight_34
