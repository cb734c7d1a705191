/-! meanHeight, the reference's -/
theorem m_X9_meanHeight {l : Launch} {σ : Mem} {M : Nat} {H : Nat → Nat} (h5 : σ (ptr 105 0) 938 = nI M) (hM : M ≤ 12) (hH : ∀ i, i < M → σ (ptr 105 0) (12 * i + 9) = nI (H i)) : CtDd l yX9_meanHeight cX9_meanHeight 3 1 40 (fun ks => Ok ks 105 9) (fun ad => [.ref (ad 105)]) σ (fun r => alike64 r (FP.ddiv (FP.i2d (nI (sumV H M))) (FP.i2d (nI M))) = true) := by
  refine CtDd.of (by decide) (fun _ => Nat.le_of_ble_eq_true rfl) ?_
  intro X d0 C hd0 _ hk hcl hR
  have C : Cx (Xd X d0) RX9 cX9_meanHeight 3 (some FieldType.double) 1 40 := C
  rw [← Xd_ks X d0] at hk hcl
  rw [← Xd_ad X d0]
  show J (Xd X d0) 0 [(0, .ref (Xad (Xd X d0) 105))] [] σ
  refine J.iconst (pc := 0) C (v := nI 0) dX9_meanHeight_0 rfl ?_
  refine J.istore_n (pc := 1) C (loc' := [(1, .int (nI 0)), (0, .ref (Xad (Xd X d0) 105))]) dX9_meanHeight_1 rfl (by decide) rfl ?_
  refine J.iconst (pc := 2) C (v := nI 0) dX9_meanHeight_2 rfl ?_
  refine J.istore_n (pc := 3) C (loc' := [(2, .int (nI 0)), (1, .int (nI 0)), (0, .ref (Xad (Xd X d0) 105))]) dX9_meanHeight_3 rfl (by decide) rfl ?_
  have loop : ∀ m i, i + m = M → J (Xd X d0) 4 [(2, .int (nI i)), (1, .int (nI (sumV H i))), (0, .ref (Xad (Xd X d0) 105))] [] σ := by
    intro m
    induction m with
    | zero =>
      intro i hi
      have hi : i = M := by omega
      subst hi
      refine J.iload_n (pc := 4) C dX9_meanHeight_4 rfl 0 rfl ?_
      refine J.aload_n (pc := 5) C dX9_meanHeight_5 rfl 2 rfl ?_
      refine J.getR (pc := 6) C kcX9 hk 0 rfl tw_755 rfl dX9_meanHeight_6 ?_
      refine J.sipush (pc := 9) C (v := nI 938) dX9_meanHeight_9 rfl ?_
      refine J.iald (τ := Unit) (e := some ()) (t := ()) (pc := 12) C (ok_9_0 hcl hk) rfl dX9_meanHeight_12 (fun _ => ?_)
      rw [show ix (nI 938) = 938 from rfl, h5]
      refine J.icmp_ge (A := true) (B := false) (t := true) (pc := 13) C (tgt := 37) dX9_meanHeight_13 (by decide) (if_pos (Int32.le_refl _)) (fun _ => ?_) (fun h => Bool.noConfusion h)
      refine J.iload_n (pc := 37) C dX9_meanHeight_37 rfl 1 rfl ?_
      refine J.i2d (pc := 38) C dX9_meanHeight_38 ?_
      refine J.aload_n (pc := 39) C dX9_meanHeight_39 rfl 2 rfl ?_
      refine J.getR (pc := 40) C kcX9 hk 0 rfl tw_755 rfl dX9_meanHeight_40 ?_
      refine J.sipush (pc := 43) C (v := nI 938) dX9_meanHeight_43 rfl ?_
      refine J.iald (τ := Unit) (e := some ()) (t := ()) (pc := 46) C (ok_9_0 hcl hk) rfl dX9_meanHeight_46 (fun _ => ?_)
      rw [show ix (nI 938) = 938 from rfl, h5]
      refine J.i2d (pc := 47) C dX9_meanHeight_47 ?_
      refine J.ddivD (pc := 48) C hd0 dX9_meanHeight_48 (fun r d1 hal hd1 => ?_)
      exact J.dretD (pc := 49) (Cx.drawn C) hd1 hR hal dX9_meanHeight_49
    | succ m ih =>
      intro i hi
      refine J.iload_n (pc := 4) C dX9_meanHeight_4 rfl 0 rfl ?_
      refine J.aload_n (pc := 5) C dX9_meanHeight_5 rfl 2 rfl ?_
      refine J.getR (pc := 6) C kcX9 hk 0 rfl tw_755 rfl dX9_meanHeight_6 ?_
      refine J.sipush (pc := 9) C (v := nI 938) dX9_meanHeight_9 rfl ?_
      refine J.iald (τ := Unit) (e := some ()) (t := ()) (pc := 12) C (ok_9_0 hcl hk) rfl dX9_meanHeight_12 (fun _ => ?_)
      rw [show ix (nI 938) = 938 from rfl, h5]
      refine J.icmp_ge (A := true) (B := false) (t := false) (pc := 13) C (tgt := 37) dX9_meanHeight_13 (by decide) (if_neg (nil (by omega) (by omega))) (fun h => Bool.noConfusion h) (fun _ => ?_)
      refine J.iload_n (pc := 16) C dX9_meanHeight_16 rfl 1 rfl ?_
      refine J.aload_n (pc := 17) C dX9_meanHeight_17 rfl 2 rfl ?_
      refine J.getR (pc := 18) C kcX9 hk 0 rfl tw_755 rfl dX9_meanHeight_18 ?_
      refine J.bipush (pc := 21) C (v := nI 12) dX9_meanHeight_21 rfl ?_
      refine J.iload_n (pc := 23) C dX9_meanHeight_23 rfl 0 rfl ?_
      refine J.imul (pc := 24) C dX9_meanHeight_24 ?_
      refine J.bipush (pc := 25) C (v := nI 9) dX9_meanHeight_25 rfl ?_
      refine J.iadd (pc := 27) C dX9_meanHeight_27 ?_
      rw [nI_mul, nI_add]
      refine J.iald (τ := Unit) (e := some ()) (t := ()) (pc := 28) C (ok_9_0 hcl hk) (by rw [show alen (ptr 105 0) = 1121 from rfl, ckI_nI (by omega) (by decide)]; rfl) dX9_meanHeight_28 (fun _ => ?_)
      rw [ix_nI (by omega), hH i (by omega)]
      refine J.iadd (pc := 29) C dX9_meanHeight_29 ?_
      rw [nI_add]
      refine J.istore_n (pc := 30) C (loc' := [(1, .int (nI (sumV H i + H i))), (2, .int (nI i)), (0, .ref (Xad (Xd X d0) 105))]) dX9_meanHeight_30 rfl (by decide) rfl ?_
      refine J.iinc (pc := 31) (k := 1) (v := nI (i + 1)) C dX9_meanHeight_31 rfl (by rw [show Int32.ofInt 1 = nI 1 from rfl, nI_add]) (by decide) (loc' := [(2, .int (nI (i + 1))), (1, .int (nI (sumV H i + H i))), (0, .ref (Xad (Xd X d0) 105))]) rfl ?_
      refine J.goto (pc := 34) C (tgt := 4) dX9_meanHeight_34 (by decide) ?_
      exact ih (i + 1) (by omega)
  exact loop M 0 (by omega)
