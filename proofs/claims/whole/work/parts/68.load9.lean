/-! load, the reference's -/
theorem m_X9_load {l : Launch} {σ : Mem} {k : Nat} {x b fl cap : Int32} (h1 : f_X9_isPump x = some b) (hb : ¬ b = 0 → ckI (912 + 5 * x + 0) (alen (ptr k 0)) = true ∧ ckI (912 + 5 * x + 2) (alen (ptr k 0)) = true ∧ σ (ptr k 0) (ix (912 + 5 * x + 0)) = cap ∧ σ (ptr k 0) (ix (912 + 5 * x + 2)) = fl) : CtDf l yX9_load cX9_load 3 3 60 (fun ks => Ok ks k 9) (fun ad => [.ref (ad k), .int x]) σ (loadP b fl cap) := by
  refine CtDf.of (by decide) (fun _ => Nat.le_of_ble_eq_true rfl) ?_
  intro X d0 C hd0 _ hk hcl hR
  have C : Cx (Xd X d0) RX9 cX9_load 3 (some FieldType.float) 3 60 := C
  rw [← Xd_ks X d0] at hk hcl
  rw [← Xd_ad X d0]
  show J (Xd X d0) 0 [(0, .ref (Xad (Xd X d0) k)), (1, .int x)] [] σ
  refine J.iload_n (pc := 0) C dX9_load_0 rfl 1 rfl ?_
  refine J.callS (pc := 1) C (m_X9_isPump h1) trivial wyX9_isPump tsX9_isPump tw_813 [.int x] [] rfl rfl (Nat.le_of_ble_eq_true rfl) (Nat.le_of_ble_eq_true rfl) (Nat.le_of_ble_eq_true rfl) (stk' := [.int b]) rfl dX9_load_1 rfl ?_
  refine J.if_ne (A := true) (B := false) (t := decide (b = 0)) (pc := 4) C (tgt := 10) dX9_load_4 (by decide) (by by_cases q : b = 0 <;> simp [q]) (fun h => ?_) (fun h => ?_)
  · have b0 : ¬ b = 0 := fun q => by rw [q] at h; exact Bool.noConfusion h
    obtain ⟨k0, k2, hcap, hfl⟩ := hb b0
    refine J.sipush (pc := 10) C (v := 912) dX9_load_10 (by decide) ?_
    refine J.iconst (pc := 13) C (v := 5) dX9_load_13 (by decide) ?_
    refine J.iload_n (pc := 14) C dX9_load_14 rfl 1 rfl ?_
    refine J.imul (pc := 15) C dX9_load_15 ?_
    refine J.iadd (pc := 16) C dX9_load_16 ?_
    refine J.istore_n (pc := 17) C (loc' := [(2, .int (912 + 5 * x)), (0, .ref (Xad (Xd X d0) k)), (1, .int x)]) dX9_load_17 rfl (by decide) rfl ?_
    refine J.aload_n (pc := 18) C dX9_load_18 rfl 1 rfl ?_
    refine J.getR (pc := 19) C kcX9 hk 0 rfl tw_755 rfl dX9_load_19 ?_
    refine J.iload_n (pc := 22) C dX9_load_22 rfl 0 rfl ?_
    refine J.iconst (pc := 23) C (v := 0) dX9_load_23 (by decide) ?_
    refine J.iadd (pc := 24) C dX9_load_24 ?_
    refine J.iald (τ := Unit) (e := some ()) (t := ()) (pc := 25) C (ok_9_0 hcl hk) (by rw [k0]; rfl) dX9_load_25 (fun _ => ?_)
    rw [hcap]
    refine J.if_ne (A := true) (B := false) (t := decide (cap = 0)) (pc := 26) C (tgt := 33) dX9_load_26 (by decide) (by by_cases q : cap = 0 <;> simp [q]) (fun h => ?_) (fun h => ?_)
    · have c0 : ¬ cap = 0 := fun q => by rw [q] at h; exact Bool.noConfusion h
      refine J.aload_n (pc := 33) C dX9_load_33 rfl 1 rfl ?_
      refine J.getR (pc := 34) C kcX9 hk 0 rfl tw_755 rfl dX9_load_34 ?_
      refine J.iload_n (pc := 37) C dX9_load_37 rfl 0 rfl ?_
      refine J.iconst (pc := 38) C (v := 2) dX9_load_38 (by decide) ?_
      refine J.iadd (pc := 39) C dX9_load_39 ?_
      refine J.iald (τ := Unit) (e := some ()) (t := ()) (pc := 40) C (ok_9_0 hcl hk) (by rw [k2]; rfl) dX9_load_40 (fun _ => ?_)
      rw [hfl]
      refine J.i2f (pc := 41) C dX9_load_41 ?_
      refine J.sipush (pc := 42) C (v := 1000) dX9_load_42 (by decide) ?_
      refine J.aload_n (pc := 45) C dX9_load_45 rfl 1 rfl ?_
      refine J.getR (pc := 46) C kcX9 hk 0 rfl tw_755 rfl dX9_load_46 ?_
      refine J.iload_n (pc := 49) C dX9_load_49 rfl 0 rfl ?_
      refine J.iconst (pc := 50) C (v := 0) dX9_load_50 (by decide) ?_
      refine J.iadd (pc := 51) C dX9_load_51 ?_
      refine J.iald (τ := Unit) (e := some ()) (t := ()) (pc := 52) C (ok_9_0 hcl hk) (by rw [k0]; rfl) dX9_load_52 (fun _ => ?_)
      rw [hcap]
      refine J.imul (pc := 53) C dX9_load_53 ?_
      refine J.i2f (pc := 54) C dX9_load_54 ?_
      refine J.fdivD (pc := 55) C hd0 dX9_load_55 (fun r d1 hal hd1 => ?_)
      exact J.fretD (pc := 56) (Cx.drawn C) hd1 hR (by unfold loadP; rw [if_neg b0, if_neg c0]; exact hal) dX9_load_56
    · have c0 : cap = 0 := of_decide_eq_true h.symm
      refine J.fconst0 (pc := 29) C dX9_load_29 ?_
      refine J.goto (pc := 30) C (tgt := 56) dX9_load_30 (by decide) ?_
      exact J.fretD (pc := 56) C hd0 hR (by unfold loadP; rw [if_neg b0, if_pos c0]) dX9_load_56
  · have b0 : b = 0 := of_decide_eq_true h.symm
    refine J.ldcf (pc := 7) C dX9_load_7 tw_925 ?_
    exact J.fretD (pc := 9) C hd0 hR (by unfold loadP; rw [if_pos b0]) dX9_load_9
