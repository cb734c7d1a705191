/-! THE LAW: the round of load (written by wip/whole/gen/fgen.py) -/
theorem dL_584 : decode code 584 = .ok (.aload_n 1, 1) := by decide +kernel
theorem dL_585 : decode code 585 = .ok (.aload_n 0, 1) := by decide +kernel
theorem dL_586 : decode code 586 = .ok (.iload_n 3, 1) := by decide +kernel
theorem dL_587 : decode code 587 = .ok (.iconst 1, 1) := by decide +kernel
theorem dL_588 : decode code 588 = .ok (.iadd, 1) := by decide +kernel
theorem dL_589 : decode code 589 = .ok (.iaload, 1) := by decide +kernel
theorem dL_590 : decode code 590 = .ok (.invokevirtual 73, 3) := by decide +kernel
theorem dL_593 : decode code 593 = .ok (.f2d, 1) := by decide +kernel
theorem dL_594 : decode code 594 = .ok (.dstore 4, 2) := by decide +kernel
theorem dL_596 : decode code 596 = .ok (.aload_n 2, 1) := by decide +kernel
theorem dL_597 : decode code 597 = .ok (.aload_n 0, 1) := by decide +kernel
theorem dL_598 : decode code 598 = .ok (.iload_n 3, 1) := by decide +kernel
theorem dL_599 : decode code 599 = .ok (.iconst 1, 1) := by decide +kernel
theorem dL_600 : decode code 600 = .ok (.iadd, 1) := by decide +kernel
theorem dL_601 : decode code 601 = .ok (.iaload, 1) := by decide +kernel
theorem dL_602 : decode code 602 = .ok (.invokevirtual 77, 3) := by decide +kernel
theorem dL_605 : decode code 605 = .ok (.f2d, 1) := by decide +kernel
theorem dL_606 : decode code 606 = .ok (.dstore 6, 2) := by decide +kernel
theorem dL_608 : decode code 608 = .ok (.dload 4, 2) := by decide +kernel
theorem dL_610 : decode code 610 = .ok (.dload 6, 2) := by decide +kernel
theorem dL_612 : decode code 612 = .ok (.dcmp .l, 1) := by decide +kernel
theorem dL_613 : decode code 613 = .ok (.ifCond .eq 21, 3) := by decide +kernel
theorem dL_616 : decode code 616 = .ok (.dload 4, 2) := by decide +kernel
theorem dL_618 : decode code 618 = .ok (.dload 4, 2) := by decide +kernel
theorem dL_620 : decode code 620 = .ok (.dcmp .l, 1) := by decide +kernel
theorem dL_621 : decode code 621 = .ok (.ifCond .eq 11, 3) := by decide +kernel
theorem dL_624 : decode code 624 = .ok (.dload 6, 2) := by decide +kernel
theorem dL_626 : decode code 626 = .ok (.dload 6, 2) := by decide +kernel
theorem dL_628 : decode code 628 = .ok (.dcmp .l, 1) := by decide +kernel
theorem dL_629 : decode code 629 = .ok (.ifCond .ne 5, 3) := by decide +kernel
theorem dL_632 : decode code 632 = .ok (.iconst 0, 1) := by decide +kernel
theorem dL_633 : decode code 633 = .ok (.ireturn, 1) := by decide +kernel
theorem dL_634 : decode code 634 = .ok (.goto 294, 3) := by decide +kernel
theorem tL_73 : Cond.methodLink RL 73 yX8_load ∈ lw_g := in_g 582 (by decide +kernel) (by decide +kernel)
theorem wyX8_load : Wy yX8_load cX8_load 3 (some FieldType.float) 1 := ⟨in_g 585 (by decide +kernel) (by decide +kernel), in_g 47 (by decide +kernel) (by decide +kernel), by decide +kernel, by decide +kernel, by decide +kernel⟩
theorem tvX8_load_i : Cond.instanceMethod yX8_load ∈ lw_g := in_g 583 (by decide +kernel) (by decide +kernel)
theorem tvX8_load_s : Cond.selects yX8_load.cls yX8_load yX8_load ∈ lw_g := in_g 584 (by decide +kernel) (by decide +kernel)
theorem tL_77 : Cond.methodLink RL 77 yX9_load ∈ lw_g := in_g 921 (by decide +kernel) (by decide +kernel)
theorem wyX9_load : Wy yX9_load cX9_load 3 (some FieldType.float) 1 := ⟨in_g 924 (by decide +kernel) (by decide +kernel), in_g 58 (by decide +kernel) (by decide +kernel), by decide +kernel, by decide +kernel, by decide +kernel⟩
theorem tvX9_load_i : Cond.instanceMethod yX9_load ∈ lw_g := in_g 922 (by decide +kernel) (by decide +kernel)
theorem tvX9_load_s : Cond.selects yX9_load.cls yX9_load yX9_load ∈ lw_g := in_g 923 (by decide +kernel) (by decide +kernel)
theorem law_14 {X : Ctx} {d0 : Drawn} {σ : Mem} {b L i : Nat} {xs : Nat → Int32} {rt : Option FieldType} (CC : ∀ d, Dr X d → Cx (Xd X d) RL code 8 rt 9 326) (SS : ∀ d, Dr X d → Sx (Xd X d) b L xs) (hd0 : Dr X d0) (H0 : Ok (Xks X) 0 8) (H9 : Ok (Xks X) 105 9) (hI : Inv σ) (hi : i + 3 < L) (hL : L ≤ 2048) (K : ∀ d1, Dr X d1 → J (Xd X d1) 928 [(0, .ref b), (1, .ref (Xad X 0)), (2, .ref (Xad X 105)), (3, .int (nI i))] [] σ) : J (Xd X d0) 584 [(0, .ref b), (1, .ref (Xad X 0)), (2, .ref (Xad X 105)), (3, .int (nI i))] [] σ := by
  obtain ⟨bb, fl, cap, f1, f2, f3, f4⟩ := two_load hI (xs (nI i + nI 1).toNatClampNeg)
  refine J.aload_n (pc := 584) (CC d0 hd0) dL_584 rfl 1 rfl ?_
  refine J.aload_n (pc := 585) (CC d0 hd0) dL_585 rfl 0 rfl ?_
  refine J.iload_n (pc := 586) (CC d0 hd0) dL_586 rfl 3 rfl ?_
  refine J.iconst (pc := 587) (v := nI 1) (CC d0 hd0) dL_587 rfl ?_
  refine J.iadd (pc := 588) (CC d0 hd0) dL_588 ?_
  refine J.sld (pc := 589) (CC d0 hd0) (SS d0 hd0) (sc_in hi hL (by decide)) dL_589 ?_
  refine J.callVDf (pc := 590) (CC d0 hd0) hd0 (m_X8_load f1 f2) H0 wyX8_load tvX8_load_i tvX8_load_s tL_73 kcX8 rfl H0 [.int (xs (nI i + nI 1).toNatClampNeg)] [] rfl rfl (Nat.le_of_ble_eq_true rfl) (Nat.le_of_ble_eq_true rfl) (Nat.le_of_ble_eq_true rfl) rfl dL_590 (fun r d1 hr hd1 => ?_)
  refine J.f2dD (pc := 593) (CC d1 hd1) hd1 dL_593 (fun p d2 hp hd2 => ?_)
  refine J.dstore (pc := 594) (CC d2 hd2) dL_594 (by decide) rfl ?_
  refine J.aload_n (pc := 596) (CC d2 hd2) dL_596 rfl 3 rfl ?_
  refine J.aload_n (pc := 597) (CC d2 hd2) dL_597 rfl 1 rfl ?_
  refine J.iload_n (pc := 598) (CC d2 hd2) dL_598 rfl 4 rfl ?_
  refine J.iconst (pc := 599) (v := nI 1) (CC d2 hd2) dL_599 rfl ?_
  refine J.iadd (pc := 600) (CC d2 hd2) dL_600 ?_
  refine J.sld (pc := 601) (CC d2 hd2) (SS d2 hd2) (sc_in hi hL (by decide)) dL_601 ?_
  refine J.callVDf (pc := 602) (CC d2 hd2) hd2 (m_X9_load f3 f4) H9 wyX9_load tvX9_load_i tvX9_load_s tL_77 kcX9 rfl H9 [.int (xs (nI i + nI 1).toNatClampNeg)] [] rfl rfl (Nat.le_of_ble_eq_true rfl) (Nat.le_of_ble_eq_true rfl) (Nat.le_of_ble_eq_true rfl) rfl dL_602 (fun s d3 hs hd3 => ?_)
  refine J.f2dD (pc := 605) (CC d3 hd3) hd3 dL_605 (fun q d4 hq hd4 => ?_)
  have C := CC d4 hd4
  refine J.dstore (pc := 606) C dL_606 (by decide) rfl ?_
  have fin : J (Xd X d4) 634 [(6, .double q), (4, .double p), (0, .ref b), (1, .ref (Xad X 0)), (2, .ref (Xad X 105)), (3, .int (nI i))] [] σ := by
    refine J.goto (pc := 634) C (tgt := 928) dL_634 (by decide) ?_
    exact J.sub [2, 3, 4, 5] rfl (K d4 hd4)
  refine J.dload (pc := 608) C dL_608 1 rfl ?_
  refine J.dload (pc := 610) C dL_610 0 rfl ?_
  refine J.dcmp (pc := 612) C dL_612 ?_
  rcases load_cmp hr hs hp hq with e | ⟨e1, e2, e3⟩
  · rw [e]
    exact J.if_eq (pc := 613) (A := true) (B := false) (t := true) C dL_613 (tgt := 634) (by decide) (if_pos rfl) (fun _ => fin) (fun h => Bool.noConfusion h)
  · rw [e1]
    refine J.if_eq (pc := 613) (A := true) (B := false) (t := false) C dL_613 (tgt := 634) (by decide) (if_neg (by decide)) (fun h => Bool.noConfusion h) (fun _ => ?_)
    refine J.dload (pc := 616) C dL_616 1 rfl ?_
    refine J.dload (pc := 618) C dL_618 1 rfl ?_
    refine J.dcmp (pc := 620) C dL_620 ?_
    rw [e2]
    refine J.if_eq (pc := 621) (A := true) (B := false) (t := false) C dL_621 (tgt := 632) (by decide) (if_neg (by decide)) (fun h => Bool.noConfusion h) (fun _ => ?_)
    refine J.dload (pc := 624) C dL_624 0 rfl ?_
    refine J.dload (pc := 626) C dL_626 0 rfl ?_
    refine J.dcmp (pc := 628) C dL_628 ?_
    rw [e3]
    exact J.if_ne (pc := 629) (A := true) (B := false) (t := false) C dL_629 (tgt := 634) (by decide) (if_neg (by decide)) (fun _ => fin) (fun h => Bool.noConfusion h)
