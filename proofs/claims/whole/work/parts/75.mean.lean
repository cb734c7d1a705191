/-! THE LAW: the round of meanHeight (written by wip/whole/gen/fgen.py) -/
theorem dL_637 : decode code 637 = .ok (.aload_n 1, 1) := by decide +kernel
theorem dL_638 : decode code 638 = .ok (.invokevirtual 78, 3) := by decide +kernel
theorem dL_641 : decode code 641 = .ok (.dstore 4, 2) := by decide +kernel
theorem dL_643 : decode code 643 = .ok (.aload_n 2, 1) := by decide +kernel
theorem dL_644 : decode code 644 = .ok (.invokevirtual 82, 3) := by decide +kernel
theorem dL_647 : decode code 647 = .ok (.dstore 6, 2) := by decide +kernel
theorem dL_649 : decode code 649 = .ok (.dload 4, 2) := by decide +kernel
theorem dL_651 : decode code 651 = .ok (.dload 6, 2) := by decide +kernel
theorem dL_653 : decode code 653 = .ok (.dcmp .l, 1) := by decide +kernel
theorem dL_654 : decode code 654 = .ok (.ifCond .eq 21, 3) := by decide +kernel
theorem dL_657 : decode code 657 = .ok (.dload 4, 2) := by decide +kernel
theorem dL_659 : decode code 659 = .ok (.dload 4, 2) := by decide +kernel
theorem dL_661 : decode code 661 = .ok (.dcmp .l, 1) := by decide +kernel
theorem dL_662 : decode code 662 = .ok (.ifCond .eq 11, 3) := by decide +kernel
theorem dL_665 : decode code 665 = .ok (.dload 6, 2) := by decide +kernel
theorem dL_667 : decode code 667 = .ok (.dload 6, 2) := by decide +kernel
theorem dL_669 : decode code 669 = .ok (.dcmp .l, 1) := by decide +kernel
theorem dL_670 : decode code 670 = .ok (.ifCond .ne 5, 3) := by decide +kernel
theorem dL_673 : decode code 673 = .ok (.iconst 0, 1) := by decide +kernel
theorem dL_674 : decode code 674 = .ok (.ireturn, 1) := by decide +kernel
theorem dL_675 : decode code 675 = .ok (.goto 253, 3) := by decide +kernel
theorem tL_78 : Cond.methodLink RL 78 yX8_meanHeight ∈ lw_g := in_g 587 (by decide +kernel) (by decide +kernel)
theorem wyX8_meanHeight : Wy yX8_meanHeight cX8_meanHeight 2 (some FieldType.double) 0 := ⟨in_g 590 (by decide +kernel) (by decide +kernel), in_g 47 (by decide +kernel) (by decide +kernel), by decide +kernel, by decide +kernel, by decide +kernel⟩
theorem tvX8_meanHeight_i : Cond.instanceMethod yX8_meanHeight ∈ lw_g := in_g 588 (by decide +kernel) (by decide +kernel)
theorem tvX8_meanHeight_s : Cond.selects yX8_meanHeight.cls yX8_meanHeight yX8_meanHeight ∈ lw_g := in_g 589 (by decide +kernel) (by decide +kernel)
theorem tL_82 : Cond.methodLink RL 82 yX9_meanHeight ∈ lw_g := in_g 926 (by decide +kernel) (by decide +kernel)
theorem wyX9_meanHeight : Wy yX9_meanHeight cX9_meanHeight 3 (some FieldType.double) 0 := ⟨in_g 929 (by decide +kernel) (by decide +kernel), in_g 58 (by decide +kernel) (by decide +kernel), by decide +kernel, by decide +kernel, by decide +kernel⟩
theorem tvX9_meanHeight_i : Cond.instanceMethod yX9_meanHeight ∈ lw_g := in_g 927 (by decide +kernel) (by decide +kernel)
theorem tvX9_meanHeight_s : Cond.selects yX9_meanHeight.cls yX9_meanHeight yX9_meanHeight ∈ lw_g := in_g 928 (by decide +kernel) (by decide +kernel)
theorem law_15 {X : Ctx} {d0 : Drawn} {σ : Mem} {b : Nat} {i : Int32} {rt : Option FieldType} (CC : ∀ d, Dr X d → Cx (Xd X d) RL code 8 rt 9 326) (hd0 : Dr X d0) (H0 : Ok (Xks X) 0 8) (H9 : Ok (Xks X) 105 9) (hI : Inv σ) (K : ∀ d1, Dr X d1 → J (Xd X d1) 928 [(0, .ref b), (1, .ref (Xad X 0)), (2, .ref (Xad X 105)), (3, .int i)] [] σ) : J (Xd X d0) 637 [(0, .ref b), (1, .ref (Xad X 0)), (2, .ref (Xad X 105)), (3, .int i)] [] σ := by
  obtain ⟨M, H, hM1, hM2, f1, f2, f3, f4⟩ := two_mean hI
  refine J.aload_n (CC d0 hd0) dL_637 rfl 1 rfl ?_
  refine J.callVDd (pc := 638) (CC d0 hd0) hd0 (m_X8_meanHeight f2 hM1 hM2 f1) H0 wyX8_meanHeight tvX8_meanHeight_i tvX8_meanHeight_s tL_78 kcX8 rfl H0 [] [] rfl rfl (Nat.le_of_ble_eq_true rfl) (Nat.le_of_ble_eq_true rfl) (Nat.le_of_ble_eq_true rfl) rfl dL_638 (fun p d1 hp hd1 => ?_)
  refine J.dstore (pc := 641) (CC d1 hd1) dL_641 (by decide) rfl ?_
  refine J.aload_n (pc := 643) (CC d1 hd1) dL_643 rfl 3 rfl ?_
  refine J.callVDd (pc := 644) (CC d1 hd1) hd1 (m_X9_meanHeight f3 hM2 f4) H9 wyX9_meanHeight tvX9_meanHeight_i tvX9_meanHeight_s tL_82 kcX9 rfl H9 [] [] rfl rfl (Nat.le_of_ble_eq_true rfl) (Nat.le_of_ble_eq_true rfl) (Nat.le_of_ble_eq_true rfl) rfl dL_644 (fun q d2 hq hd2 => ?_)
  have C := CC d2 hd2
  refine J.dstore (pc := 647) C dL_647 (by decide) rfl ?_
  have fin : J (Xd X d2) 675 [(6, .double q), (4, .double p), (0, .ref b), (1, .ref (Xad X 0)), (2, .ref (Xad X 105)), (3, .int i)] [] σ := by
    refine J.goto (pc := 675) C (tgt := 928) dL_675 (by decide) ?_
    exact J.sub [2, 3, 4, 5] rfl (K d2 hd2)
  refine J.dload (pc := 649) C dL_649 1 rfl ?_
  refine J.dload (pc := 651) C dL_651 0 rfl ?_
  refine J.dcmp (pc := 653) C dL_653 ?_
  rcases pair_cmp hp hq with e | ⟨e1, e2, e3⟩
  · rw [e]
    exact J.if_eq (pc := 654) (A := true) (B := false) (t := true) C dL_654 (tgt := 675) (by decide) (if_pos rfl) (fun _ => fin) (fun h => Bool.noConfusion h)
  · rw [e1]
    refine J.if_eq (pc := 654) (A := true) (B := false) (t := false) C dL_654 (tgt := 675) (by decide) (if_neg (by decide)) (fun h => Bool.noConfusion h) (fun _ => ?_)
    refine J.dload (pc := 657) C dL_657 1 rfl ?_
    refine J.dload (pc := 659) C dL_659 1 rfl ?_
    refine J.dcmp (pc := 661) C dL_661 ?_
    rw [e2]
    refine J.if_eq (pc := 662) (A := true) (B := false) (t := false) C dL_662 (tgt := 673) (by decide) (if_neg (by decide)) (fun h => Bool.noConfusion h) (fun _ => ?_)
    refine J.dload (pc := 665) C dL_665 0 rfl ?_
    refine J.dload (pc := 667) C dL_667 0 rfl ?_
    refine J.dcmp (pc := 669) C dL_669 ?_
    rw [e3]
    exact J.if_ne (pc := 670) (A := true) (B := false) (t := false) C dL_670 (tgt := 675) (by decide) (if_neg (by decide)) (fun _ => fin) (fun h => Bool.noConfusion h)
