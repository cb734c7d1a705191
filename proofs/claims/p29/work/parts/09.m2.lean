set_option maxHeartbeats 8000000 in
set_option maxRecDepth 100000 in
theorem m_L_ticks {l : Launch} {n : Nat} {w : Nat} {σ : Mem} {x0 : Nat} {x1 : Int32} {t0 : (Int32 × Mem)} (hf : f_L_ticks n w σ x0 x1 = some t0) : CtA l yL_ticks cL_ticks 21 ((some FieldType.boolean)) 6 138 (2 * w + 3) (6 * w + 18) (fun ks => Ok ks x0 8) (fun ad => [.ref (ad x0), .int x1]) σ (fun _ => some (.int t0.1)) t0.2 := by
  have L737 : ∀ (m : Nat) (σ : Mem) (x1 : Int32) (x2 : Int32) (x6 : Int32) (y0 : Int32) (y1 : Int32) (y2 : Int32) (t : ((Int32 × Mem) ⊕ (Mem × Int32))), f_L_ticks_L737 n w σ x0 x1 x2 x6 y0 y1 y2 = some t → ((∀ r1, t = .inl r1 → r1 = t0) ∧ (∀ s1, t = .inr s1 → (∀ (X : Ctx), Cx X RL cL_ticks 21 ((some FieldType.boolean)) 6 138 → Cl (Xks X) → Ok (Xks X) 105 100 → Ok (Xks X) 106 100 → Ok (Xks X) 107 100 → Ok (Xks X) x0 8 → RtE X (2 * m) (6 * m) (fun _ => some (.int t0.1)) t0.2 → J X 24 [(0, .ref (Xad X x0)), (1, .int x1), (2, .int x2), (3, .ref (Xad X 105)), (4, .ref (Xad X 106)), (5, .ref (Xad X 107)), (6, .int (s1.2))] [] s1.1))) → ∀ (X : Ctx), Cx X RL cL_ticks 21 ((some FieldType.boolean)) 6 138 → Cl (Xks X) → Ok (Xks X) 105 100 → Ok (Xks X) 106 100 → Ok (Xks X) 107 100 → Ok (Xks X) x0 8 → RtE X (2 * m) (6 * m) (fun _ => some (.int t0.1)) t0.2 → J X 737 [(0, .ref (Xad X x0)), (1, .int x1), (2, .int x2), (3, .ref (Xad X 105)), (4, .ref (Xad X 106)), (5, .ref (Xad X 107)), (6, .int x6)] [.int y0, .int y1, .int y2] σ := by
    intro m σ x1 x2 x6 y0 y1 y2 t hf hp
    unfold f_L_ticks_L737 at hf
    intro X C hcl h105 h106 h107 hx0 hR
    refine J.iadd (pc := 737) C dL_ticks_737 ?_
    refine J.icmp_eq (pc := 738) C (tgt := 743) dL_ticks_738 (by decide) hf (fun hf => ?_) (fun hf => ?_)
    · obtain ⟨x6_23, hx_x6_23, hf⟩ := nm_some hf
      refine J.iinc (pc := 743) C (v := x6_23) (loc' := [(6, .int x6_23), (0, .ref (Xad X x0)), (1, .int x1), (2, .int x2), (3, .ref (Xad X 105)), (4, .ref (Xad X 106)), (5, .ref (Xad X 107))]) dL_ticks_743 (k := 6) rfl (by rw [hx_x6_23]; rfl) (by decide) rfl ?_
      refine J.goto (pc := 746) C (tgt := 24) dL_ticks_746 (by decide) ?_
      exact J.sub (loc' := [(0, .ref (Xad X x0)), (1, .int x1), (2, .int x2), (3, .ref (Xad X 105)), (4, .ref (Xad X 106)), (5, .ref (Xad X 107)), (6, .int x6_23)]) [1, 2, 3, 4, 5, 6, 0] rfl ((hp.2 _ (Option.some.inj hf).symm) X C hcl h105 h106 h107 hx0 (hR.mono (by omega) (by omega)))
    · refine J.iconst (pc := 741) C (v := 0) dL_ticks_741 (by decide) ?_
      exact J.zretE (pc := 742) C rfl hR ((hp.1 _ (Option.some.inj hf).symm)) dL_ticks_742
  have L673 : ∀ (m : Nat) (σ : Mem) (x1 : Int32) (x2 : Int32) (x6 : Int32) (x8 : Int32) (x13 : Int32) (x14 : Int32) (x15 : Int32) (t : (((Int32 × Mem) ⊕ (Mem × Int32)) ⊕ (Int32))), f_L_ticks_L673 n w σ x0 x1 x2 x6 x8 x13 x14 x15 = some t → ((∀ r2, t = .inl r2 → ((∀ r1, r2 = .inl r1 → r1 = t0) ∧ (∀ s1, r2 = .inr s1 → (∀ (X : Ctx), Cx X RL cL_ticks 21 ((some FieldType.boolean)) 6 138 → Cl (Xks X) → Ok (Xks X) 105 100 → Ok (Xks X) 106 100 → Ok (Xks X) 107 100 → Ok (Xks X) x0 8 → RtE X (2 * m) (6 * m) (fun _ => some (.int t0.1)) t0.2 → J X 24 [(0, .ref (Xad X x0)), (1, .int x1), (2, .int x2), (3, .ref (Xad X 105)), (4, .ref (Xad X 106)), (5, .ref (Xad X 107)), (6, .int (s1.2))] [] s1.1)))) ∧ (∀ s2, t = .inr s2 → (∀ (X : Ctx), Cx X RL cL_ticks 21 ((some FieldType.boolean)) 6 138 → Cl (Xks X) → Ok (Xks X) 105 100 → Ok (Xks X) 106 100 → Ok (Xks X) 107 100 → Ok (Xks X) 108 104 → Ok (Xks X) 109 104 → Ok (Xks X) x0 8 → RtE X (2 * m) (6 * m) (fun _ => some (.int t0.1)) t0.2 → J X 490 [(0, .ref (Xad X x0)), (1, .int x1), (2, .int x2), (3, .ref (Xad X 105)), (4, .ref (Xad X 106)), (5, .ref (Xad X 107)), (6, .int x6), (8, .int x8), (11, .ref (Xad X 108)), (12, .ref (Xad X 109)), (13, .int x13), (14, .int s2)] [] σ))) → ∀ (X : Ctx), Cx X RL cL_ticks 21 ((some FieldType.boolean)) 6 138 → Cl (Xks X) → Ok (Xks X) 105 100 → Ok (Xks X) 106 100 → Ok (Xks X) 107 100 → Ok (Xks X) 108 104 → Ok (Xks X) 109 104 → Ok (Xks X) x0 8 → RtE X (2 * m) (6 * m) (fun _ => some (.int t0.1)) t0.2 → J X 673 [(0, .ref (Xad X x0)), (1, .int x1), (2, .int x2), (3, .ref (Xad X 105)), (4, .ref (Xad X 106)), (5, .ref (Xad X 107)), (6, .int x6), (8, .int x8), (11, .ref (Xad X 108)), (12, .ref (Xad X 109)), (13, .int x13), (14, .int x14), (15, .int x15)] [] σ := by
    intro m σ x1 x2 x6 x8 x13 x14 x15 t hf hp
    unfold f_L_ticks_L673 at hf
    intro X C hcl h105 h106 h107 h108 h109 hx0 hR
    refine J.iload (pc := 673) C dL_ticks_673 12 rfl ?_
    refine J.aload (pc := 675) C dL_ticks_675 4 rfl ?_
    refine J.iload (pc := 677) C dL_ticks_677 11 rfl ?_
    refine J.iald (pc := 679) C h106 hf dL_ticks_679 (fun hf => ?_)
    refine J.icmp_le (pc := 680) C (tgt := 713) dL_ticks_680 (by decide) hf (fun hf => ?_) (fun hf => ?_)
    · obtain ⟨x14_33, hx_x14_33, hf⟩ := nm_some hf
      refine J.iinc (pc := 713) C (v := x14_33) (loc' := [(14, .int x14_33), (0, .ref (Xad X x0)), (1, .int x1), (2, .int x2), (3, .ref (Xad X 105)), (4, .ref (Xad X 106)), (5, .ref (Xad X 107)), (6, .int x6), (8, .int x8), (11, .ref (Xad X 108)), (12, .ref (Xad X 109)), (13, .int x13), (15, .int x15)]) dL_ticks_713 (k := 11) rfl (by rw [hx_x14_33]; rfl) (by decide) rfl ?_
      refine J.goto (pc := 716) C (tgt := 490) dL_ticks_716 (by decide) ?_
      exact J.sub (loc' := [(0, .ref (Xad X x0)), (1, .int x1), (2, .int x2), (3, .ref (Xad X 105)), (4, .ref (Xad X 106)), (5, .ref (Xad X 107)), (6, .int x6), (8, .int x8), (11, .ref (Xad X 108)), (12, .ref (Xad X 109)), (13, .int x13), (14, .int x14_33)]) [1, 2, 3, 4, 5, 6, 7, 8, 9, 10, 11, 0] rfl ((hp.2 _ (Option.some.inj hf).symm) X C hcl h105 h106 h107 h108 h109 hx0 (hR.mono (by omega) (by omega)))
    · refine J.iload (pc := 683) C dL_ticks_683 12 rfl ?_
      refine J.i2l (pc := 685) C dL_ticks_685 ?_
      refine J.aload (pc := 686) C dL_ticks_686 8 rfl ?_
      refine J.iload (pc := 688) C dL_ticks_688 11 rfl ?_
      refine J.lald (pc := 690) C h108 hf dL_ticks_690 (fun hf => ?_)
      refine J.lcmp (pc := 691) C dL_ticks_691 ?_
      refine J.if_gt (pc := 692) C (tgt := 711) dL_ticks_692 (by decide) hf (fun hf => ?_) (fun hf => ?_)
      · refine J.iconst (pc := 711) C (v := 0) dL_ticks_711 (by decide) ?_
        exact J.zretE (pc := 712) C rfl hR (((hp.1 _ (Option.some.inj hf).symm).1 _ rfl)) dL_ticks_712
      · refine J.iload (pc := 695) C dL_ticks_695 12 rfl ?_
        refine J.sipush (pc := 697) C (v := 1000) dL_ticks_697 (by decide) ?_
        refine J.aload_n (pc := 700) C dL_ticks_700 rfl 0 rfl ?_
        refine J.iload (pc := 701) C dL_ticks_701 11 rfl ?_
        refine J.iconst (pc := 703) C (v := 0) dL_ticks_703 (by decide) ?_
        obtain ⟨r_35, h_34, hf⟩ := bnd_some hf
        refine J.callV (pc := 704) C (m_X8_pressure h_34) hx0 wyX8_pressure tvX8_pressure_i tvX8_pressure_s tw_407 kcX8 rfl hx0 [.int x14, .int 0] [.int 1000, .int x15] rfl rfl (Nat.le_of_ble_eq_true rfl) (Nat.le_of_ble_eq_true rfl) (Nat.le_of_ble_eq_true rfl) (stk' := [.int r_35, .int 1000, .int x15]) rfl dL_ticks_704 rfl ?_
        refine J.imul (pc := 707) C dL_ticks_707 ?_
        refine J.icmp_le (pc := 708) C (tgt := 713) dL_ticks_708 (by decide) hf (fun hf => ?_) (fun hf => ?_)
        · obtain ⟨x14_36, hx_x14_36, hf⟩ := nm_some hf
          refine J.iinc (pc := 713) C (v := x14_36) (loc' := [(14, .int x14_36), (0, .ref (Xad X x0)), (1, .int x1), (2, .int x2), (3, .ref (Xad X 105)), (4, .ref (Xad X 106)), (5, .ref (Xad X 107)), (6, .int x6), (8, .int x8), (11, .ref (Xad X 108)), (12, .ref (Xad X 109)), (13, .int x13), (15, .int x15)]) dL_ticks_713 (k := 11) rfl (by rw [hx_x14_36]; rfl) (by decide) rfl ?_
          refine J.goto (pc := 716) C (tgt := 490) dL_ticks_716 (by decide) ?_
          exact J.sub (loc' := [(0, .ref (Xad X x0)), (1, .int x1), (2, .int x2), (3, .ref (Xad X 105)), (4, .ref (Xad X 106)), (5, .ref (Xad X 107)), (6, .int x6), (8, .int x8), (11, .ref (Xad X 108)), (12, .ref (Xad X 109)), (13, .int x13), (14, .int x14_36)]) [1, 2, 3, 4, 5, 6, 7, 8, 9, 10, 11, 0] rfl ((hp.2 _ (Option.some.inj hf).symm) X C hcl h105 h106 h107 h108 h109 hx0 (hR.mono (by omega) (by omega)))
        · refine J.iconst (pc := 711) C (v := 0) dL_ticks_711 (by decide) ?_
          exact J.zretE (pc := 712) C rfl hR (((hp.1 _ (Option.some.inj hf).symm).1 _ rfl)) dL_ticks_712
  have L644 : ∀ (m : Nat) (σ : Mem) (x1 : Int32) (x2 : Int32) (x6 : Int32) (x8 : Int32) (x13 : Int32) (x14 : Int32) (x15 : Int32) (t : (((Int32 × Mem) ⊕ (Mem × Int32)) ⊕ (Int32))), f_L_ticks_L644 n w σ x0 x1 x2 x6 x8 x13 x14 x15 = some t → ((∀ r2, t = .inl r2 → ((∀ r1, r2 = .inl r1 → r1 = t0) ∧ (∀ s1, r2 = .inr s1 → (∀ (X : Ctx), Cx X RL cL_ticks 21 ((some FieldType.boolean)) 6 138 → Cl (Xks X) → Ok (Xks X) 105 100 → Ok (Xks X) 106 100 → Ok (Xks X) 107 100 → Ok (Xks X) x0 8 → RtE X (2 * m) (6 * m) (fun _ => some (.int t0.1)) t0.2 → J X 24 [(0, .ref (Xad X x0)), (1, .int x1), (2, .int x2), (3, .ref (Xad X 105)), (4, .ref (Xad X 106)), (5, .ref (Xad X 107)), (6, .int (s1.2))] [] s1.1)))) ∧ (∀ s2, t = .inr s2 → (∀ (X : Ctx), Cx X RL cL_ticks 21 ((some FieldType.boolean)) 6 138 → Cl (Xks X) → Ok (Xks X) 105 100 → Ok (Xks X) 106 100 → Ok (Xks X) 107 100 → Ok (Xks X) 108 104 → Ok (Xks X) 109 104 → Ok (Xks X) x0 8 → RtE X (2 * m) (6 * m) (fun _ => some (.int t0.1)) t0.2 → J X 490 [(0, .ref (Xad X x0)), (1, .int x1), (2, .int x2), (3, .ref (Xad X 105)), (4, .ref (Xad X 106)), (5, .ref (Xad X 107)), (6, .int x6), (8, .int x8), (11, .ref (Xad X 108)), (12, .ref (Xad X 109)), (13, .int x13), (14, .int s2)] [] σ))) → ∀ (X : Ctx), Cx X RL cL_ticks 21 ((some FieldType.boolean)) 6 138 → Cl (Xks X) → Ok (Xks X) 105 100 → Ok (Xks X) 106 100 → Ok (Xks X) 107 100 → Ok (Xks X) 108 104 → Ok (Xks X) 109 104 → Ok (Xks X) x0 8 → RtE X (2 * m) (6 * m) (fun _ => some (.int t0.1)) t0.2 → J X 644 [(0, .ref (Xad X x0)), (1, .int x1), (2, .int x2), (3, .ref (Xad X 105)), (4, .ref (Xad X 106)), (5, .ref (Xad X 107)), (6, .int x6), (8, .int x8), (11, .ref (Xad X 108)), (12, .ref (Xad X 109)), (13, .int x13), (14, .int x14), (15, .int x15)] [] σ := by
    intro m σ x1 x2 x6 x8 x13 x14 x15 t hf hp
    unfold f_L_ticks_L644 at hf
    intro X C hcl h105 h106 h107 h108 h109 hx0 hR
    refine J.aload (pc := 644) C dL_ticks_644 8 rfl ?_
    refine J.iload (pc := 646) C dL_ticks_646 11 rfl ?_
    refine J.lald (pc := 648) C h108 hf dL_ticks_648 (fun hf => ?_)
    refine J.iload (pc := 649) C dL_ticks_649 12 rfl ?_
    refine J.i2l (pc := 651) C dL_ticks_651 ?_
    refine J.lcmp (pc := 652) C dL_ticks_652 ?_
    refine J.if_le (pc := 653) C (tgt := 673) dL_ticks_653 (by decide) hf (fun hf => ?_) (fun hf => ?_)
    · exact J.sub (loc' := [(0, .ref (Xad X x0)), (1, .int x1), (2, .int x2), (3, .ref (Xad X 105)), (4, .ref (Xad X 106)), (5, .ref (Xad X 107)), (6, .int x6), (8, .int x8), (11, .ref (Xad X 108)), (12, .ref (Xad X 109)), (13, .int x13), (14, .int x14), (15, .int x15)]) [0, 1, 2, 3, 4, 5, 6, 7, 8, 9, 10, 11, 12] rfl (L673 m σ x1 x2 x6 x8 x13 x14 x15 _ hf hp X C hcl h105 h106 h107 h108 h109 hx0 (hR.mono (by omega) (by omega)))
    · refine J.iload (pc := 656) C dL_ticks_656 12 rfl ?_
      refine J.i2l (pc := 658) C dL_ticks_658 ?_
      refine J.aload (pc := 659) C dL_ticks_659 9 rfl ?_
      refine J.iload (pc := 661) C dL_ticks_661 11 rfl ?_
      refine J.lald (pc := 663) C h109 hf dL_ticks_663 (fun hf => ?_)
      refine J.lsub (pc := 664) C dL_ticks_664 ?_
      refine J.iload_n (pc := 665) C dL_ticks_665 rfl 2 rfl ?_
      refine J.i2l (pc := 666) C dL_ticks_666 ?_
      refine J.lcmp (pc := 667) C dL_ticks_667 ?_
      refine J.if_le (pc := 668) C (tgt := 673) dL_ticks_668 (by decide) hf (fun hf => ?_) (fun hf => ?_)
      · exact J.sub (loc' := [(0, .ref (Xad X x0)), (1, .int x1), (2, .int x2), (3, .ref (Xad X 105)), (4, .ref (Xad X 106)), (5, .ref (Xad X 107)), (6, .int x6), (8, .int x8), (11, .ref (Xad X 108)), (12, .ref (Xad X 109)), (13, .int x13), (14, .int x14), (15, .int x15)]) [0, 1, 2, 3, 4, 5, 6, 7, 8, 9, 10, 11, 12] rfl (L673 m σ x1 x2 x6 x8 x13 x14 x15 _ hf hp X C hcl h105 h106 h107 h108 h109 hx0 (hR.mono (by omega) (by omega)))
      · refine J.iconst (pc := 671) C (v := 0) dL_ticks_671 (by decide) ?_
        exact J.zretE (pc := 672) C rfl hR (((hp.1 _ (Option.some.inj hf).symm).1 _ rfl)) dL_ticks_672
  have L612 : ∀ (m : Nat) (σ : Mem) (x1 : Int32) (x2 : Int32) (x6 : Int32) (x8 : Int32) (x13 : Int32) (x14 : Int32) (x15 : Int32) (y0 : Int32) (y1 : Int32) (y2 : Int32) (t : (((Int32 × Mem) ⊕ (Mem × Int32)) ⊕ (Int32))), f_L_ticks_L612 n w σ x0 x1 x2 x6 x8 x13 x14 x15 y0 y1 y2 = some t → ((∀ r2, t = .inl r2 → ((∀ r1, r2 = .inl r1 → r1 = t0) ∧ (∀ s1, r2 = .inr s1 → (∀ (X : Ctx), Cx X RL cL_ticks 21 ((some FieldType.boolean)) 6 138 → Cl (Xks X) → Ok (Xks X) 105 100 → Ok (Xks X) 106 100 → Ok (Xks X) 107 100 → Ok (Xks X) x0 8 → RtE X (2 * m) (6 * m) (fun _ => some (.int t0.1)) t0.2 → J X 24 [(0, .ref (Xad X x0)), (1, .int x1), (2, .int x2), (3, .ref (Xad X 105)), (4, .ref (Xad X 106)), (5, .ref (Xad X 107)), (6, .int (s1.2))] [] s1.1)))) ∧ (∀ s2, t = .inr s2 → (∀ (X : Ctx), Cx X RL cL_ticks 21 ((some FieldType.boolean)) 6 138 → Cl (Xks X) → Ok (Xks X) 105 100 → Ok (Xks X) 106 100 → Ok (Xks X) 107 100 → Ok (Xks X) 108 104 → Ok (Xks X) 109 104 → Ok (Xks X) x0 8 → RtE X (2 * m) (6 * m) (fun _ => some (.int t0.1)) t0.2 → J X 490 [(0, .ref (Xad X x0)), (1, .int x1), (2, .int x2), (3, .ref (Xad X 105)), (4, .ref (Xad X 106)), (5, .ref (Xad X 107)), (6, .int x6), (8, .int x8), (11, .ref (Xad X 108)), (12, .ref (Xad X 109)), (13, .int x13), (14, .int s2)] [] σ))) → ∀ (X : Ctx), Cx X RL cL_ticks 21 ((some FieldType.boolean)) 6 138 → Cl (Xks X) → Ok (Xks X) 105 100 → Ok (Xks X) 106 100 → Ok (Xks X) 107 100 → Ok (Xks X) 108 104 → Ok (Xks X) 109 104 → Ok (Xks X) x0 8 → RtE X (2 * m) (6 * m) (fun _ => some (.int t0.1)) t0.2 → J X 612 [(0, .ref (Xad X x0)), (1, .int x1), (2, .int x2), (3, .ref (Xad X 105)), (4, .ref (Xad X 106)), (5, .ref (Xad X 107)), (6, .int x6), (8, .int x8), (11, .ref (Xad X 108)), (12, .ref (Xad X 109)), (13, .int x13), (14, .int x14), (15, .int x15)] [.int y0, .int y1, .int y2] σ := by
    intro m σ x1 x2 x6 x8 x13 x14 x15 y0 y1 y2 t hf hp
    unfold f_L_ticks_L612 at hf
    intro X C hcl h105 h106 h107 h108 h109 hx0 hR
    refine J.iadd (pc := 612) C dL_ticks_612 ?_
    refine J.icmp_eq (pc := 613) C (tgt := 618) dL_ticks_613 (by decide) hf (fun hf => ?_) (fun hf => ?_)
    · refine J.aload (pc := 618) C dL_ticks_618 8 rfl ?_
      refine J.iload (pc := 620) C dL_ticks_620 11 rfl ?_
      refine J.lald (pc := 622) C h108 hf dL_ticks_622 (fun hf => ?_)
      refine J.iload (pc := 623) C dL_ticks_623 12 rfl ?_
      refine J.i2l (pc := 625) C dL_ticks_625 ?_
      refine J.lcmp (pc := 626) C dL_ticks_626 ?_
      refine J.if_gt (pc := 627) C (tgt := 644) dL_ticks_627 (by decide) hf (fun hf => ?_) (fun hf => ?_)
      · exact J.sub (loc' := [(0, .ref (Xad X x0)), (1, .int x1), (2, .int x2), (3, .ref (Xad X 105)), (4, .ref (Xad X 106)), (5, .ref (Xad X 107)), (6, .int x6), (8, .int x8), (11, .ref (Xad X 108)), (12, .ref (Xad X 109)), (13, .int x13), (14, .int x14), (15, .int x15)]) [0, 1, 2, 3, 4, 5, 6, 7, 8, 9, 10, 11, 12] rfl (L644 m σ x1 x2 x6 x8 x13 x14 x15 _ hf hp X C hcl h105 h106 h107 h108 h109 hx0 (hR.mono (by omega) (by omega)))
      · refine J.aload (pc := 630) C dL_ticks_630 9 rfl ?_
        refine J.iload (pc := 632) C dL_ticks_632 11 rfl ?_
        refine J.lald (pc := 634) C h109 hf dL_ticks_634 (fun hf => ?_)
        refine J.aload (pc := 635) C dL_ticks_635 8 rfl ?_
        refine J.iload (pc := 637) C dL_ticks_637 11 rfl ?_
        refine J.lald (pc := 639) C h108 hf dL_ticks_639 (fun hf => ?_)
        refine J.lcmp (pc := 640) C dL_ticks_640 ?_
        refine J.if_ne (pc := 641) C (tgt := 671) dL_ticks_641 (by decide) hf (fun hf => ?_) (fun hf => ?_)
        · refine J.iconst (pc := 671) C (v := 0) dL_ticks_671 (by decide) ?_
          exact J.zretE (pc := 672) C rfl hR (((hp.1 _ (Option.some.inj hf).symm).1 _ rfl)) dL_ticks_672
        · exact J.sub (loc' := [(0, .ref (Xad X x0)), (1, .int x1), (2, .int x2), (3, .ref (Xad X 105)), (4, .ref (Xad X 106)), (5, .ref (Xad X 107)), (6, .int x6), (8, .int x8), (11, .ref (Xad X 108)), (12, .ref (Xad X 109)), (13, .int x13), (14, .int x14), (15, .int x15)]) [0, 1, 2, 3, 4, 5, 6, 7, 8, 9, 10, 11, 12] rfl (L644 m σ x1 x2 x6 x8 x13 x14 x15 _ hf hp X C hcl h105 h106 h107 h108 h109 hx0 (hR.mono (by omega) (by omega)))
    · refine J.iconst (pc := 616) C (v := 0) dL_ticks_616 (by decide) ?_
      exact J.zretE (pc := 617) C rfl hR (((hp.1 _ (Option.some.inj hf).symm).1 _ rfl)) dL_ticks_617
  have L557 : ∀ (m : Nat) (σ : Mem) (x1 : Int32) (x2 : Int32) (x6 : Int32) (x8 : Int32) (x13 : Int32) (x14 : Int32) (x15 : Int32) (x16 : Int32) (t : (((Int32 × Mem) ⊕ (Mem × Int32)) ⊕ (Int32))), f_L_ticks_L557 n w σ x0 x1 x2 x6 x8 x13 x14 x15 x16 = some t → ((∀ r2, t = .inl r2 → ((∀ r1, r2 = .inl r1 → r1 = t0) ∧ (∀ s1, r2 = .inr s1 → (∀ (X : Ctx), Cx X RL cL_ticks 21 ((some FieldType.boolean)) 6 138 → Cl (Xks X) → Ok (Xks X) 105 100 → Ok (Xks X) 106 100 → Ok (Xks X) 107 100 → Ok (Xks X) x0 8 → RtE X (2 * m) (6 * m) (fun _ => some (.int t0.1)) t0.2 → J X 24 [(0, .ref (Xad X x0)), (1, .int x1), (2, .int x2), (3, .ref (Xad X 105)), (4, .ref (Xad X 106)), (5, .ref (Xad X 107)), (6, .int (s1.2))] [] s1.1)))) ∧ (∀ s2, t = .inr s2 → (∀ (X : Ctx), Cx X RL cL_ticks 21 ((some FieldType.boolean)) 6 138 → Cl (Xks X) → Ok (Xks X) 105 100 → Ok (Xks X) 106 100 → Ok (Xks X) 107 100 → Ok (Xks X) 108 104 → Ok (Xks X) 109 104 → Ok (Xks X) x0 8 → RtE X (2 * m) (6 * m) (fun _ => some (.int t0.1)) t0.2 → J X 490 [(0, .ref (Xad X x0)), (1, .int x1), (2, .int x2), (3, .ref (Xad X 105)), (4, .ref (Xad X 106)), (5, .ref (Xad X 107)), (6, .int x6), (8, .int x8), (11, .ref (Xad X 108)), (12, .ref (Xad X 109)), (13, .int x13), (14, .int s2)] [] σ))) → ∀ (X : Ctx), Cx X RL cL_ticks 21 ((some FieldType.boolean)) 6 138 → Cl (Xks X) → Ok (Xks X) 105 100 → Ok (Xks X) 106 100 → Ok (Xks X) 107 100 → Ok (Xks X) 108 104 → Ok (Xks X) 109 104 → Ok (Xks X) x0 8 → RtE X (2 * m) (6 * m) (fun _ => some (.int t0.1)) t0.2 → J X 557 [(0, .ref (Xad X x0)), (1, .int x1), (2, .int x2), (3, .ref (Xad X 105)), (4, .ref (Xad X 106)), (5, .ref (Xad X 107)), (6, .int x6), (8, .int x8), (11, .ref (Xad X 108)), (12, .ref (Xad X 109)), (13, .int x13), (14, .int x14), (15, .int x15), (16, .int x16)] [] σ := by
    intro m σ x1 x2 x6 x8 x13 x14 x15 x16 t hf hp
    unfold f_L_ticks_L557 at hf
    intro X C hcl h105 h106 h107 h108 h109 hx0 hR
    refine J.iload (pc := 557) C dL_ticks_557 12 rfl ?_
    refine J.aload (pc := 559) C dL_ticks_559 4 rfl ?_
    refine J.iload (pc := 561) C dL_ticks_561 11 rfl ?_
    refine J.iald (pc := 563) C h106 hf dL_ticks_563 (fun hf => ?_)
    refine J.iload (pc := 564) C dL_ticks_564 13 rfl ?_
    refine J.iadd (pc := 566) C dL_ticks_566 ?_
    refine J.icmp_gt (pc := 567) C (tgt := 616) dL_ticks_567 (by decide) hf (fun hf => ?_) (fun hf => ?_)
    · refine J.iconst (pc := 616) C (v := 0) dL_ticks_616 (by decide) ?_
      exact J.zretE (pc := 617) C rfl hR (((hp.1 _ (Option.some.inj hf).symm).1 _ rfl)) dL_ticks_617
    · refine J.iload (pc := 570) C dL_ticks_570 12 rfl ?_
      refine J.aload (pc := 572) C dL_ticks_572 4 rfl ?_
      refine J.iload (pc := 574) C dL_ticks_574 11 rfl ?_
      refine J.iald (pc := 576) C h106 hf dL_ticks_576 (fun hf => ?_)
      refine J.iload (pc := 577) C dL_ticks_577 13 rfl ?_
      refine J.isub (pc := 579) C dL_ticks_579 ?_
      refine J.icmp_lt (pc := 580) C (tgt := 616) dL_ticks_580 (by decide) hf (fun hf => ?_) (fun hf => ?_)
      · refine J.iconst (pc := 616) C (v := 0) dL_ticks_616 (by decide) ?_
        exact J.zretE (pc := 617) C rfl hR (((hp.1 _ (Option.some.inj hf).symm).1 _ rfl)) dL_ticks_617
      · refine J.aload_n (pc := 583) C dL_ticks_583 rfl 0 rfl ?_
        refine J.iload (pc := 584) C dL_ticks_584 11 rfl ?_
        refine J.iconst (pc := 586) C (v := 4) dL_ticks_586 (by decide) ?_
        obtain ⟨r_32, h_31, hf⟩ := bnd_some hf
        refine J.callV (pc := 587) C (m_X8_pressure h_31) hx0 wyX8_pressure tvX8_pressure_i tvX8_pressure_s tw_407 kcX8 rfl hx0 [.int x14, .int 4] [] rfl rfl (Nat.le_of_ble_eq_true rfl) (Nat.le_of_ble_eq_true rfl) (Nat.le_of_ble_eq_true rfl) (stk' := [.int r_32]) rfl dL_ticks_587 rfl ?_
        refine J.aload (pc := 590) C dL_ticks_590 5 rfl ?_
        refine J.iload (pc := 592) C dL_ticks_592 11 rfl ?_
        refine J.iald (pc := 594) C h107 hf dL_ticks_594 (fun hf => ?_)
        refine J.aload (pc := 595) C dL_ticks_595 8 rfl ?_
        refine J.iload (pc := 597) C dL_ticks_597 11 rfl ?_
        refine J.lald (pc := 599) C h108 hf dL_ticks_599 (fun hf => ?_)
        refine J.iload (pc := 600) C dL_ticks_600 12 rfl ?_
        refine J.i2l (pc := 602) C dL_ticks_602 ?_
        refine J.lcmp (pc := 603) C dL_ticks_603 ?_
        refine J.if_le (pc := 604) C (tgt := 611) dL_ticks_604 (by decide) hf (fun hf => ?_) (fun hf => ?_)
        · refine J.iconst (pc := 611) C (v := 0) dL_ticks_611 (by decide) ?_
          exact J.sub (loc' := [(0, .ref (Xad X x0)), (1, .int x1), (2, .int x2), (3, .ref (Xad X 105)), (4, .ref (Xad X 106)), (5, .ref (Xad X 107)), (6, .int x6), (8, .int x8), (11, .ref (Xad X 108)), (12, .ref (Xad X 109)), (13, .int x13), (14, .int x14), (15, .int x15)]) [0, 1, 2, 3, 4, 5, 6, 7, 8, 9, 10, 11, 12] rfl (L612 m σ x1 x2 x6 x8 x13 x14 x15 0 (σ 107 (ix x14)) r_32 _ hf hp X C hcl h105 h106 h107 h108 h109 hx0 (hR.mono (by omega) (by omega)))
        · refine J.iconst (pc := 607) C (v := 1) dL_ticks_607 (by decide) ?_
          refine J.goto (pc := 608) C (tgt := 612) dL_ticks_608 (by decide) ?_
          exact J.sub (loc' := [(0, .ref (Xad X x0)), (1, .int x1), (2, .int x2), (3, .ref (Xad X 105)), (4, .ref (Xad X 106)), (5, .ref (Xad X 107)), (6, .int x6), (8, .int x8), (11, .ref (Xad X 108)), (12, .ref (Xad X 109)), (13, .int x13), (14, .int x14), (15, .int x15)]) [0, 1, 2, 3, 4, 5, 6, 7, 8, 9, 10, 11, 12] rfl (L612 m σ x1 x2 x6 x8 x13 x14 x15 1 (σ 107 (ix x14)) r_32 _ hf hp X C hcl h105 h106 h107 h108 h109 hx0 (hR.mono (by omega) (by omega)))
  have L490 : ∀ (m : Nat) (σ : Mem) (x1 : Int32) (x2 : Int32) (x6 : Int32) (x8 : Int32) (x13 : Int32) (x14 : Int32) (t : ((Int32 × Mem) ⊕ (Mem × Int32))), f_L_ticks_L490 n w σ x0 x1 x2 x6 x8 x13 x14 = some t → ((∀ r1, t = .inl r1 → r1 = t0) ∧ (∀ s1, t = .inr s1 → (∀ (X : Ctx), Cx X RL cL_ticks 21 ((some FieldType.boolean)) 6 138 → Cl (Xks X) → Ok (Xks X) 105 100 → Ok (Xks X) 106 100 → Ok (Xks X) 107 100 → Ok (Xks X) x0 8 → RtE X (2 * m) (6 * m) (fun _ => some (.int t0.1)) t0.2 → J X 24 [(0, .ref (Xad X x0)), (1, .int x1), (2, .int x2), (3, .ref (Xad X 105)), (4, .ref (Xad X 106)), (5, .ref (Xad X 107)), (6, .int (s1.2))] [] s1.1))) → ∀ (X : Ctx), Cx X RL cL_ticks 21 ((some FieldType.boolean)) 6 138 → Cl (Xks X) → Ok (Xks X) 105 100 → Ok (Xks X) 106 100 → Ok (Xks X) 107 100 → Ok (Xks X) 108 104 → Ok (Xks X) 109 104 → Ok (Xks X) x0 8 → RtE X (2 * m) (6 * m) (fun _ => some (.int t0.1)) t0.2 → J X 490 [(0, .ref (Xad X x0)), (1, .int x1), (2, .int x2), (3, .ref (Xad X 105)), (4, .ref (Xad X 106)), (5, .ref (Xad X 107)), (6, .int x6), (8, .int x8), (11, .ref (Xad X 108)), (12, .ref (Xad X 109)), (13, .int x13), (14, .int x14)] [] σ := by
    intro m σ x1 x2 x6 x8 x13 x14 t hf hp
    unfold f_L_ticks_L490 at hf
    refine J_iter (JJ := fun (s : Int32) => (∀ (X : Ctx), Cx X RL cL_ticks 21 ((some FieldType.boolean)) 6 138 → Cl (Xks X) → Ok (Xks X) 105 100 → Ok (Xks X) 106 100 → Ok (Xks X) 107 100 → Ok (Xks X) 108 104 → Ok (Xks X) 109 104 → Ok (Xks X) x0 8 → RtE X (2 * m) (6 * m) (fun _ => some (.int t0.1)) t0.2 → J X 490 [(0, .ref (Xad X x0)), (1, .int x1), (2, .int x2), (3, .ref (Xad X 105)), (4, .ref (Xad X 106)), (5, .ref (Xad X 107)), (6, .int x6), (8, .int x8), (11, .ref (Xad X 108)), (12, .ref (Xad X 109)), (13, .int x13), (14, .int s)] [] σ)) (Ps := fun t => ((∀ r1, t = .inl r1 → r1 = t0) ∧ (∀ s1, t = .inr s1 → (∀ (X : Ctx), Cx X RL cL_ticks 21 ((some FieldType.boolean)) 6 138 → Cl (Xks X) → Ok (Xks X) 105 100 → Ok (Xks X) 106 100 → Ok (Xks X) 107 100 → Ok (Xks X) x0 8 → RtE X (2 * m) (6 * m) (fun _ => some (.int t0.1)) t0.2 → J X 24 [(0, .ref (Xad X x0)), (1, .int x1), (2, .int x2), (3, .ref (Xad X 105)), (4, .ref (Xad X 106)), (5, .ref (Xad X 107)), (6, .int (s1.2))] [] s1.1)))) ?_ w x14 t hf hp
    clear hf hp
    intro s t hf hp hq
    obtain ⟨x14, rfl⟩ : ∃ z, z = s := ⟨_, rfl⟩
    have hp := And.intro hp hq
    clear hq
    have hf : f_L_ticks_B490 n w σ x0 x1 x2 x6 x8 x13 x14 = some t := hf
    intro X C hcl h105 h106 h107 h108 h109 hx0 hR
    show J X 490 [(0, .ref (Xad X x0)), (1, .int x1), (2, .int x2), (3, .ref (Xad X 105)), (4, .ref (Xad X 106)), (5, .ref (Xad X 107)), (6, .int x6), (8, .int x8), (11, .ref (Xad X 108)), (12, .ref (Xad X 109)), (13, .int x13), (14, .int x14)] [] σ
    unfold f_L_ticks_B490 at hf
    refine J.iload (pc := 490) C dL_ticks_490 11 rfl ?_
    refine J.iconst (pc := 492) C (v := 3) dL_ticks_492 (by decide) ?_
    refine J.icmp_ge (pc := 493) C (tgt := 719) dL_ticks_493 (by decide) hf (fun hf => ?_) (fun hf => ?_)
    · refine J.aload_n (pc := 719) C dL_ticks_719 rfl 0 rfl ?_
      refine J.bipush (pc := 720) C (v := 7) dL_ticks_720 (by decide) ?_
      obtain ⟨r_22, h_21, hf⟩ := bnd_some hf
      refine J.callV (pc := 722) C (m_X8_state h_21) hx0 wyX8_state tvX8_state_i tvX8_state_s tw_387 kcX8 rfl hx0 [.int 7] [] rfl rfl (Nat.le_of_ble_eq_true rfl) (Nat.le_of_ble_eq_true rfl) (Nat.le_of_ble_eq_true rfl) (stk' := [.int r_22]) rfl dL_ticks_722 rfl ?_
      refine J.iload (pc := 725) C dL_ticks_725 7 rfl ?_
      refine J.iload (pc := 727) C dL_ticks_727 10 rfl ?_
      refine J.if_eq (pc := 729) C (tgt := 736) dL_ticks_729 (by decide) hf (fun hf => ?_) (fun hf => ?_)
      · refine J.iconst (pc := 736) C (v := 0) dL_ticks_736 (by decide) ?_
        obtain ⟨t0, hf, he⟩ := exi_some hf
        have hp := hp.1 _ he
        exact J.sub (loc' := [(0, .ref (Xad X x0)), (1, .int x1), (2, .int x2), (3, .ref (Xad X 105)), (4, .ref (Xad X 106)), (5, .ref (Xad X 107)), (6, .int x6)]) [0, 1, 2, 3, 4, 5, 6] rfl (L737 m σ x1 x2 x6 0 x8 r_22 _ hf hp X C hcl h105 h106 h107 hx0 (hR.mono (by omega) (by omega)))
      · refine J.iconst (pc := 732) C (v := 1) dL_ticks_732 (by decide) ?_
        refine J.goto (pc := 733) C (tgt := 737) dL_ticks_733 (by decide) ?_
        obtain ⟨t0, hf, he⟩ := exi_some hf
        have hp := hp.1 _ he
        exact J.sub (loc' := [(0, .ref (Xad X x0)), (1, .int x1), (2, .int x2), (3, .ref (Xad X 105)), (4, .ref (Xad X 106)), (5, .ref (Xad X 107)), (6, .int x6)]) [0, 1, 2, 3, 4, 5, 6] rfl (L737 m σ x1 x2 x6 1 x8 r_22 _ hf hp X C hcl h105 h106 h107 hx0 (hR.mono (by omega) (by omega)))
    · refine J.aload_n (pc := 496) C dL_ticks_496 rfl 0 rfl ?_
      refine J.iload (pc := 497) C dL_ticks_497 11 rfl ?_
      refine J.iconst (pc := 499) C (v := 2) dL_ticks_499 (by decide) ?_
      obtain ⟨r_25, h_24, hf⟩ := bnd_some hf
      refine J.callV (pc := 500) C (m_X8_pressure h_24) hx0 wyX8_pressure tvX8_pressure_i tvX8_pressure_s tw_407 kcX8 rfl hx0 [.int x14, .int 2] [] rfl rfl (Nat.le_of_ble_eq_true rfl) (Nat.le_of_ble_eq_true rfl) (Nat.le_of_ble_eq_true rfl) (stk' := [.int r_25]) rfl dL_ticks_500 rfl ?_
      refine J.istore (pc := 503) C (loc' := [(15, .int r_25), (0, .ref (Xad X x0)), (1, .int x1), (2, .int x2), (3, .ref (Xad X 105)), (4, .ref (Xad X 106)), (5, .ref (Xad X 107)), (6, .int x6), (8, .int x8), (11, .ref (Xad X 108)), (12, .ref (Xad X 109)), (13, .int x13), (14, .int x14)]) dL_ticks_503 (by decide) rfl ?_
      refine J.sipush (pc := 505) C (v := 1000) dL_ticks_505 (by decide) ?_
      refine J.aload_n (pc := 508) C dL_ticks_508 rfl 1 rfl ?_
      refine J.iload (pc := 509) C dL_ticks_509 12 rfl ?_
      refine J.iconst (pc := 511) C (v := 1) dL_ticks_511 (by decide) ?_
      obtain ⟨r_27, h_26, hf⟩ := bnd_some hf
      refine J.callV (pc := 512) C (m_X8_pressure h_26) hx0 wyX8_pressure tvX8_pressure_i tvX8_pressure_s tw_407 kcX8 rfl hx0 [.int x14, .int 1] [.int 1000] rfl rfl (Nat.le_of_ble_eq_true rfl) (Nat.le_of_ble_eq_true rfl) (Nat.le_of_ble_eq_true rfl) (stk' := [.int r_27, .int 1000]) rfl dL_ticks_512 rfl ?_
      refine J.imul (pc := 515) C dL_ticks_515 ?_
      refine J.nmI hf (fun x16_28 hf => ?_)
      refine J.istore (pc := 516) C (loc' := [(16, .int x16_28), (15, .int r_25), (0, .ref (Xad X x0)), (1, .int x1), (2, .int x2), (3, .ref (Xad X 105)), (4, .ref (Xad X 106)), (5, .ref (Xad X 107)), (6, .int x6), (8, .int x8), (11, .ref (Xad X 108)), (12, .ref (Xad X 109)), (13, .int x13), (14, .int x14)]) dL_ticks_516 (by decide) rfl ?_
      refine J.aload_n (pc := 518) C dL_ticks_518 rfl 2 rfl ?_
      refine J.iload (pc := 519) C dL_ticks_519 13 rfl ?_
      refine J.iconst (pc := 521) C (v := 3) dL_ticks_521 (by decide) ?_
      obtain ⟨r_30, h_29, hf⟩ := bnd_some hf
      refine J.callV (pc := 522) C (m_X8_pressure h_29) hx0 wyX8_pressure tvX8_pressure_i tvX8_pressure_s tw_407 kcX8 rfl hx0 [.int x14, .int 3] [] rfl rfl (Nat.le_of_ble_eq_true rfl) (Nat.le_of_ble_eq_true rfl) (Nat.le_of_ble_eq_true rfl) (stk' := [.int r_30]) rfl dL_ticks_522 rfl ?_
      refine J.i2l (pc := 525) C dL_ticks_525 ?_
      refine J.aload (pc := 526) C dL_ticks_526 10 rfl ?_
      refine J.iload (pc := 528) C dL_ticks_528 13 rfl ?_
      refine J.lald (pc := 530) C h108 hf dL_ticks_530 (fun hf => ?_)
      refine J.lcmp (pc := 531) C dL_ticks_531 ?_
      refine J.if_ne (pc := 532) C (tgt := 616) dL_ticks_532 (by decide) hf (fun hf => ?_) (fun hf => ?_)
      · refine J.iconst (pc := 616) C (v := 0) dL_ticks_616 (by decide) ?_
        exact J.zretE (pc := 617) C rfl hR (((hp.1 _ (Option.some.inj hf).symm).1 _ rfl)) dL_ticks_617
      · refine J.aload (pc := 535) C dL_ticks_535 11 rfl ?_
        refine J.iload (pc := 537) C dL_ticks_537 13 rfl ?_
        refine J.lald (pc := 539) C h109 hf dL_ticks_539 (fun hf => ?_)
        refine J.iload (pc := 540) C dL_ticks_540 1 rfl ?_
        refine J.i2l (pc := 542) C dL_ticks_542 ?_
        refine J.lcmp (pc := 543) C dL_ticks_543 ?_
        refine J.if_le (pc := 544) C (tgt := 557) dL_ticks_544 (by decide) hf (fun hf => ?_) (fun hf => ?_)
        · exact J.sub (loc' := [(0, .ref (Xad X x0)), (1, .int x1), (2, .int x2), (3, .ref (Xad X 105)), (4, .ref (Xad X 106)), (5, .ref (Xad X 107)), (6, .int x6), (8, .int x8), (11, .ref (Xad X 108)), (12, .ref (Xad X 109)), (13, .int x13), (14, .int x14), (15, .int r_25), (16, .int x16_28)]) [2, 3, 4, 5, 6, 7, 8, 9, 10, 11, 12, 13, 1, 0] rfl (L557 m σ x1 x2 x6 x8 x13 x14 r_25 x16_28 _ hf hp X C hcl h105 h106 h107 h108 h109 hx0 (hR.mono (by omega) (by omega)))
        · refine J.aload (pc := 547) C dL_ticks_547 11 rfl ?_
          refine J.iload (pc := 549) C dL_ticks_549 13 rfl ?_
          refine J.lald (pc := 551) C h109 hf dL_ticks_551 (fun hf => ?_)
          refine J.lconst (pc := 552) C (v := 0) dL_ticks_552 (by decide) ?_
          refine J.lcmp (pc := 553) C dL_ticks_553 ?_
          refine J.if_ne (pc := 554) C (tgt := 616) dL_ticks_554 (by decide) hf (fun hf => ?_) (fun hf => ?_)
          · refine J.iconst (pc := 616) C (v := 0) dL_ticks_616 (by decide) ?_
            exact J.zretE (pc := 617) C rfl hR (((hp.1 _ (Option.some.inj hf).symm).1 _ rfl)) dL_ticks_617
          · exact J.sub (loc' := [(0, .ref (Xad X x0)), (1, .int x1), (2, .int x2), (3, .ref (Xad X 105)), (4, .ref (Xad X 106)), (5, .ref (Xad X 107)), (6, .int x6), (8, .int x8), (11, .ref (Xad X 108)), (12, .ref (Xad X 109)), (13, .int x13), (14, .int x14), (15, .int r_25), (16, .int x16_28)]) [2, 3, 4, 5, 6, 7, 8, 9, 10, 11, 12, 13, 1, 0] rfl (L557 m σ x1 x2 x6 x8 x13 x14 r_25 x16_28 _ hf hp X C hcl h105 h106 h107 h108 h109 hx0 (hR.mono (by omega) (by omega)))
  have L324 : ∀ (m : Nat) (σ : Mem) (x1 : Int32) (x2 : Int32) (x6 : Int32) (x8 : Int32) (x13 : Int32) (x14 : Int32) (x15 : Int32) (x16 : Int32) (x18 : Int32) (t : (((Int32 × Mem) ⊕ (Mem × Int32)) ⊕ (Mem × Int32 × Int32))), f_L_ticks_L324 n w σ x0 x1 x2 x6 x8 x13 x14 x15 x16 x18 = some t → ((∀ r2, t = .inl r2 → ((∀ r1, r2 = .inl r1 → r1 = t0) ∧ (∀ s1, r2 = .inr s1 → (∀ (X : Ctx), Cx X RL cL_ticks 21 ((some FieldType.boolean)) 6 138 → Cl (Xks X) → Ok (Xks X) 105 100 → Ok (Xks X) 106 100 → Ok (Xks X) 107 100 → Ok (Xks X) x0 8 → RtE X (2 * m) (6 * m) (fun _ => some (.int t0.1)) t0.2 → J X 24 [(0, .ref (Xad X x0)), (1, .int x1), (2, .int x2), (3, .ref (Xad X 105)), (4, .ref (Xad X 106)), (5, .ref (Xad X 107)), (6, .int (s1.2))] [] s1.1)))) ∧ (∀ s2, t = .inr s2 → (∀ (X : Ctx), Cx X RL cL_ticks 21 ((some FieldType.boolean)) 6 138 → Cl (Xks X) → Ok (Xks X) 105 100 → Ok (Xks X) 106 100 → Ok (Xks X) 107 100 → Ok (Xks X) 108 104 → Ok (Xks X) 109 104 → Ok (Xks X) x0 8 → RtE X (2 * m) (6 * m) (fun _ => some (.int t0.1)) t0.2 → J X 166 [(0, .ref (Xad X x0)), (1, .int x1), (2, .int x2), (3, .ref (Xad X 105)), (4, .ref (Xad X 106)), (5, .ref (Xad X 107)), (6, .int x6), (8, .int x8), (11, .ref (Xad X 108)), (12, .ref (Xad X 109)), (13, .int (s2.2.1)), (14, .int (s2.2.2))] [] s2.1))) → ∀ (X : Ctx), Cx X RL cL_ticks 21 ((some FieldType.boolean)) 6 138 → Cl (Xks X) → Ok (Xks X) 105 100 → Ok (Xks X) 106 100 → Ok (Xks X) 107 100 → Ok (Xks X) 108 104 → Ok (Xks X) 109 104 → Ok (Xks X) x0 8 → RtE X (2 * m) (6 * m) (fun _ => some (.int t0.1)) t0.2 → J X 324 [(0, .ref (Xad X x0)), (1, .int x1), (2, .int x2), (3, .ref (Xad X 105)), (4, .ref (Xad X 106)), (5, .ref (Xad X 107)), (6, .int x6), (8, .int x8), (11, .ref (Xad X 108)), (12, .ref (Xad X 109)), (13, .int x13), (14, .int x14), (15, .int x15), (16, .int x16), (18, .int x18)] [] σ := by
    intro m σ x1 x2 x6 x8 x13 x14 x15 x16 x18 t hf hp
    unfold f_L_ticks_L324 at hf
    intro X C hcl h105 h106 h107 h108 h109 hx0 hR
    refine J.iload (pc := 324) C dL_ticks_324 14 rfl ?_
    refine J.iload (pc := 326) C dL_ticks_326 13 rfl ?_
    obtain ⟨hne, hf⟩ := chk_some hf
    refine J.idiv (pc := 328) C dL_ticks_328 (of_decide_eq_true hne) ?_
    refine J.i2l (pc := 329) C dL_ticks_329 ?_
    refine J.nmJ hf (fun x19_49 hf => ?_)
    refine J.lstore (pc := 330) C (loc' := [(19, .long x19_49), (0, .ref (Xad X x0)), (1, .int x1), (2, .int x2), (3, .ref (Xad X 105)), (4, .ref (Xad X 106)), (5, .ref (Xad X 107)), (6, .int x6), (8, .int x8), (11, .ref (Xad X 108)), (12, .ref (Xad X 109)), (13, .int x13), (14, .int x14), (15, .int x15), (16, .int x16), (18, .int x18)]) dL_ticks_330 (by decide) rfl ?_
    refine J.aload_n (pc := 332) C dL_ticks_332 rfl 1 rfl ?_
    refine J.iload (pc := 333) C dL_ticks_333 12 rfl ?_
    refine J.bipush (pc := 335) C (v := 9) dL_ticks_335 (by decide) ?_
    obtain ⟨r_51, h_50, hf⟩ := bnd_some hf
    refine J.callV (pc := 337) C (m_X8_spray h_50) hx0 wyX8_spray tvX8_spray_i tvX8_spray_s tw_403 kcX8 rfl hx0 [.int x14, .int 9] [] rfl rfl (Nat.le_of_ble_eq_true rfl) (Nat.le_of_ble_eq_true rfl) (Nat.le_of_ble_eq_true rfl) (stk' := [.int r_51]) rfl dL_ticks_337 rfl ?_
    refine J.lload (pc := 340) C dL_ticks_340 0 rfl ?_
    refine J.lload (pc := 342) C dL_ticks_342 0 rfl ?_
    refine J.lmul (pc := 344) C dL_ticks_344 ?_
    refine J.aload_n (pc := 345) C dL_ticks_345 rfl 1 rfl ?_
    refine J.iload (pc := 346) C dL_ticks_346 12 rfl ?_
    refine J.iconst (pc := 348) C (v := 1) dL_ticks_348 (by decide) ?_
    obtain ⟨r_53, h_52, hf⟩ := bnd_some hf
    refine J.callV (pc := 349) C (m_X8_spray h_52) hx0 wyX8_spray tvX8_spray_i tvX8_spray_s tw_403 kcX8 rfl hx0 [.int x14, .int 1] [.long (x19_49 * x19_49), .int r_51] rfl rfl (Nat.le_of_ble_eq_true rfl) (Nat.le_of_ble_eq_true rfl) (Nat.le_of_ble_eq_true rfl) (stk' := [.int r_53, .long (x19_49 * x19_49), .int r_51]) rfl dL_ticks_349 rfl ?_
    refine J.i2l (pc := 352) C dL_ticks_352 ?_
    refine J.lmul (pc := 353) C dL_ticks_353 ?_
    refine J.ldc2 (pc := 354) C (v := 1000000) dL_ticks_354 tw_520 ?_
    refine J.ldiv (pc := 357) C dL_ticks_357 (by decide) ?_
    refine J.l2i (pc := 358) C dL_ticks_358 ?_
    refine J.icmp_ne (pc := 359) C (tgt := 417) dL_ticks_359 (by decide) hf (fun hf => ?_) (fun hf => ?_)
    · refine J.iconst (pc := 417) C (v := 0) dL_ticks_417 (by decide) ?_
      exact J.zretE (pc := 418) C rfl hR (((hp.1 _ (Option.some.inj hf).symm).1 _ rfl)) dL_ticks_418
    · refine J.aload_n (pc := 362) C dL_ticks_362 rfl 1 rfl ?_
      refine J.iload (pc := 363) C dL_ticks_363 12 rfl ?_
      refine J.bipush (pc := 365) C (v := 10) dL_ticks_365 (by decide) ?_
      obtain ⟨r_55, h_54, hf⟩ := bnd_some hf
      refine J.callV (pc := 367) C (m_X8_spray h_54) hx0 wyX8_spray tvX8_spray_i tvX8_spray_s tw_403 kcX8 rfl hx0 [.int x14, .int 10] [] rfl rfl (Nat.le_of_ble_eq_true rfl) (Nat.le_of_ble_eq_true rfl) (Nat.le_of_ble_eq_true rfl) (stk' := [.int r_55]) rfl dL_ticks_367 rfl ?_
      refine J.aload_n (pc := 370) C dL_ticks_370 rfl 1 rfl ?_
      refine J.iload (pc := 371) C dL_ticks_371 12 rfl ?_
      refine J.bipush (pc := 373) C (v := 9) dL_ticks_373 (by decide) ?_
      obtain ⟨r_57, h_56, hf⟩ := bnd_some hf
      refine J.callV (pc := 375) C (m_X8_spray h_56) hx0 wyX8_spray tvX8_spray_i tvX8_spray_s tw_403 kcX8 rfl hx0 [.int x14, .int 9] [.int r_55] rfl rfl (Nat.le_of_ble_eq_true rfl) (Nat.le_of_ble_eq_true rfl) (Nat.le_of_ble_eq_true rfl) (stk' := [.int r_57, .int r_55]) rfl dL_ticks_375 rfl ?_
      refine J.aload_n (pc := 378) C dL_ticks_378 rfl 1 rfl ?_
      refine J.iconst (pc := 379) C (v := 4) dL_ticks_379 (by decide) ?_
      obtain ⟨r_59, h_58, hf⟩ := bnd_some hf
      refine J.callV (pc := 380) C (m_X8_state h_58) hx0 wyX8_state tvX8_state_i tvX8_state_s tw_387 kcX8 rfl hx0 [.int 4] [.int r_57, .int r_55] rfl rfl (Nat.le_of_ble_eq_true rfl) (Nat.le_of_ble_eq_true rfl) (Nat.le_of_ble_eq_true rfl) (stk' := [.int r_59, .int r_57, .int r_55]) rfl dL_ticks_380 rfl ?_
      refine J.imul (pc := 383) C dL_ticks_383 ?_
      refine J.aload_n (pc := 384) C dL_ticks_384 rfl 1 rfl ?_
      refine J.iload (pc := 385) C dL_ticks_385 12 rfl ?_
      refine J.iconst (pc := 387) C (v := 5) dL_ticks_387 (by decide) ?_
      obtain ⟨r_61, h_60, hf⟩ := bnd_some hf
      refine J.callV (pc := 388) C (m_X8_spray h_60) hx0 wyX8_spray tvX8_spray_i tvX8_spray_s tw_403 kcX8 rfl hx0 [.int x14, .int 5] [.int (r_57 * r_59), .int r_55] rfl rfl (Nat.le_of_ble_eq_true rfl) (Nat.le_of_ble_eq_true rfl) (Nat.le_of_ble_eq_true rfl) (stk' := [.int r_61, .int (r_57 * r_59), .int r_55]) rfl dL_ticks_388 rfl ?_
      refine J.imul (pc := 391) C dL_ticks_391 ?_
      refine J.ldc (pc := 392) C (v := 100000) dL_ticks_392 tw_521 ?_
      refine J.idiv (pc := 394) C dL_ticks_394 (by decide) ?_
      refine J.icmp_ne (pc := 395) C (tgt := 417) dL_ticks_395 (by decide) hf (fun hf => ?_) (fun hf => ?_)
      · refine J.iconst (pc := 417) C (v := 0) dL_ticks_417 (by decide) ?_
        exact J.zretE (pc := 418) C rfl hR (((hp.1 _ (Option.some.inj hf).symm).1 _ rfl)) dL_ticks_418
      · refine J.aload_n (pc := 398) C dL_ticks_398 rfl 1 rfl ?_
        refine J.iload (pc := 399) C dL_ticks_399 12 rfl ?_
        refine J.bipush (pc := 401) C (v := 11) dL_ticks_401 (by decide) ?_
        obtain ⟨r_63, h_62, hf⟩ := bnd_some hf
        refine J.callV (pc := 403) C (m_X8_spray h_62) hx0 wyX8_spray tvX8_spray_i tvX8_spray_s tw_403 kcX8 rfl hx0 [.int x14, .int 11] [] rfl rfl (Nat.le_of_ble_eq_true rfl) (Nat.le_of_ble_eq_true rfl) (Nat.le_of_ble_eq_true rfl) (stk' := [.int r_63]) rfl dL_ticks_403 rfl ?_
        refine J.aload_n (pc := 406) C dL_ticks_406 rfl 1 rfl ?_
        refine J.iload (pc := 407) C dL_ticks_407 12 rfl ?_
        refine J.bipush (pc := 409) C (v := 9) dL_ticks_409 (by decide) ?_
        obtain ⟨r_65, h_64, hf⟩ := bnd_some hf
        refine J.callV (pc := 411) C (m_X8_spray h_64) hx0 wyX8_spray tvX8_spray_i tvX8_spray_s tw_403 kcX8 rfl hx0 [.int x14, .int 9] [.int r_63] rfl rfl (Nat.le_of_ble_eq_true rfl) (Nat.le_of_ble_eq_true rfl) (Nat.le_of_ble_eq_true rfl) (stk' := [.int r_65, .int r_63]) rfl dL_ticks_411 rfl ?_
        refine J.icmp_ge (pc := 414) C (tgt := 419) dL_ticks_414 (by decide) hf (fun hf => ?_) (fun hf => ?_)
        · refine J.aload (pc := 419) C dL_ticks_419 9 rfl ?_
          refine J.aload_n (pc := 421) C dL_ticks_421 rfl 1 rfl ?_
          refine J.iload (pc := 422) C dL_ticks_422 12 rfl ?_
          refine J.iconst (pc := 424) C (v := 4) dL_ticks_424 (by decide) ?_
          obtain ⟨r_67, h_66, hf⟩ := bnd_some hf
          refine J.callV (pc := 425) C (m_X8_spray h_66) hx0 wyX8_spray tvX8_spray_i tvX8_spray_s tw_403 kcX8 rfl hx0 [.int x14, .int 4] [.ref (Xad X 108)] rfl rfl (Nat.le_of_ble_eq_true rfl) (Nat.le_of_ble_eq_true rfl) (Nat.le_of_ble_eq_true rfl) (stk' := [.int r_67, .ref (Xad X 108)]) rfl dL_ticks_425 rfl ?_
          refine J.dup2 (pc := 428) C dL_ticks_428 rfl rfl ?_
          refine J.lald (pc := 429) C h108 hf dL_ticks_429 (fun hf => ?_)
          refine J.iload (pc := 430) C dL_ticks_430 13 rfl ?_
          refine J.iload (pc := 432) C dL_ticks_432 14 rfl ?_
          refine J.imul (pc := 434) C dL_ticks_434 ?_
          refine J.i2l (pc := 435) C dL_ticks_435 ?_
          refine J.ladd (pc := 436) C dL_ticks_436 ?_
          refine J.lastM (pc := 437) C h108 hf dL_ticks_437 (fun σ_68 hf => ?_)
          refine J.aload (pc := 438) C dL_ticks_438 10 rfl ?_
          refine J.aload_n (pc := 440) C dL_ticks_440 rfl 1 rfl ?_
          refine J.iload (pc := 441) C dL_ticks_441 12 rfl ?_
          refine J.iconst (pc := 443) C (v := 4) dL_ticks_443 (by decide) ?_
          obtain ⟨r_70, h_69, hf⟩ := bnd_some hf
          refine J.callV (pc := 444) C (m_X8_spray h_69) hx0 wyX8_spray tvX8_spray_i tvX8_spray_s tw_403 kcX8 rfl hx0 [.int x14, .int 4] [.ref (Xad X 109)] rfl rfl (Nat.le_of_ble_eq_true rfl) (Nat.le_of_ble_eq_true rfl) (Nat.le_of_ble_eq_true rfl) (stk' := [.int r_70, .ref (Xad X 109)]) rfl dL_ticks_444 rfl ?_
          refine J.dup2 (pc := 447) C dL_ticks_447 rfl rfl ?_
          refine J.lald (pc := 448) C h109 hf dL_ticks_448 (fun hf => ?_)
          refine J.iload (pc := 449) C dL_ticks_449 15 rfl ?_
          refine J.i2l (pc := 451) C dL_ticks_451 ?_
          refine J.ladd (pc := 452) C dL_ticks_452 ?_
          refine J.lastM (pc := 453) C h109 hf dL_ticks_453 (fun σ_71 hf => ?_)
          refine J.iload (pc := 454) C dL_ticks_454 11 rfl ?_
          refine J.aload_n (pc := 456) C dL_ticks_456 rfl 1 rfl ?_
          refine J.iload (pc := 457) C dL_ticks_457 12 rfl ?_
          refine J.bipush (pc := 459) C (v := 10) dL_ticks_459 (by decide) ?_
          obtain ⟨r_73, h_72, hf⟩ := bnd_some hf
          refine J.callV (pc := 461) C (m_X8_spray h_72) hx0 wyX8_spray tvX8_spray_i tvX8_spray_s tw_403 kcX8 rfl hx0 [.int x14, .int 10] [.int x13] rfl rfl (Nat.le_of_ble_eq_true rfl) (Nat.le_of_ble_eq_true rfl) (Nat.le_of_ble_eq_true rfl) (stk' := [.int r_73, .int x13]) rfl dL_ticks_461 rfl ?_
          refine J.aload_n (pc := 464) C dL_ticks_464 rfl 1 rfl ?_
          refine J.bipush (pc := 465) C (v := 15) dL_ticks_465 (by decide) ?_
          obtain ⟨r_75, h_74, hf⟩ := bnd_some hf
          refine J.callV (pc := 467) C (m_X8_state h_74) hx0 wyX8_state tvX8_state_i tvX8_state_s tw_387 kcX8 rfl hx0 [.int 15] [.int r_73, .int x13] rfl rfl (Nat.le_of_ble_eq_true rfl) (Nat.le_of_ble_eq_true rfl) (Nat.le_of_ble_eq_true rfl) (stk' := [.int r_75, .int r_73, .int x13]) rfl dL_ticks_467 rfl ?_
          refine J.icmp_le (pc := 470) C (tgt := 477) dL_ticks_470 (by decide) hf (fun hf => ?_) (fun hf => ?_)
          · refine J.iconst (pc := 477) C (v := 0) dL_ticks_477 (by decide) ?_
            refine J.ior (pc := 478) C dL_ticks_478 ?_
            refine J.nmI hf (fun x13_76 hf => ?_)
            refine J.istore (pc := 479) C (loc' := [(13, .int x13_76), (19, .long x19_49), (0, .ref (Xad X x0)), (1, .int x1), (2, .int x2), (3, .ref (Xad X 105)), (4, .ref (Xad X 106)), (5, .ref (Xad X 107)), (6, .int x6), (8, .int x8), (11, .ref (Xad X 108)), (12, .ref (Xad X 109)), (14, .int x14), (15, .int x15), (16, .int x16), (18, .int x18)]) dL_ticks_479 (by decide) rfl ?_
            obtain ⟨x14_77, hx_x14_77, hf⟩ := nm_some hf
            refine J.iinc (pc := 481) C (v := x14_77) (loc' := [(14, .int x14_77), (13, .int x13_76), (19, .long x19_49), (0, .ref (Xad X x0)), (1, .int x1), (2, .int x2), (3, .ref (Xad X 105)), (4, .ref (Xad X 106)), (5, .ref (Xad X 107)), (6, .int x6), (8, .int x8), (11, .ref (Xad X 108)), (12, .ref (Xad X 109)), (15, .int x15), (16, .int x16), (18, .int x18)]) dL_ticks_481 (k := 12) rfl (by rw [hx_x14_77]; rfl) (by decide) rfl ?_
            refine J.goto (pc := 484) C (tgt := 166) dL_ticks_484 (by decide) ?_
            exact J.sub (loc' := [(0, .ref (Xad X x0)), (1, .int x1), (2, .int x2), (3, .ref (Xad X 105)), (4, .ref (Xad X 106)), (5, .ref (Xad X 107)), (6, .int x6), (8, .int x8), (11, .ref (Xad X 108)), (12, .ref (Xad X 109)), (13, .int x13_76), (14, .int x14_77)]) [3, 4, 5, 6, 7, 8, 9, 10, 11, 12, 1, 0] rfl ((hp.2 _ (Option.some.inj hf).symm) X C hcl h105 h106 h107 h108 h109 hx0 (hR.mono (by omega) (by omega)))
          · refine J.iconst (pc := 473) C (v := 1) dL_ticks_473 (by decide) ?_
            refine J.goto (pc := 474) C (tgt := 478) dL_ticks_474 (by decide) ?_
            refine J.ior (pc := 478) C dL_ticks_478 ?_
            refine J.nmI hf (fun x13_78 hf => ?_)
            refine J.istore (pc := 479) C (loc' := [(13, .int x13_78), (19, .long x19_49), (0, .ref (Xad X x0)), (1, .int x1), (2, .int x2), (3, .ref (Xad X 105)), (4, .ref (Xad X 106)), (5, .ref (Xad X 107)), (6, .int x6), (8, .int x8), (11, .ref (Xad X 108)), (12, .ref (Xad X 109)), (14, .int x14), (15, .int x15), (16, .int x16), (18, .int x18)]) dL_ticks_479 (by decide) rfl ?_
            obtain ⟨x14_79, hx_x14_79, hf⟩ := nm_some hf
            refine J.iinc (pc := 481) C (v := x14_79) (loc' := [(14, .int x14_79), (13, .int x13_78), (19, .long x19_49), (0, .ref (Xad X x0)), (1, .int x1), (2, .int x2), (3, .ref (Xad X 105)), (4, .ref (Xad X 106)), (5, .ref (Xad X 107)), (6, .int x6), (8, .int x8), (11, .ref (Xad X 108)), (12, .ref (Xad X 109)), (15, .int x15), (16, .int x16), (18, .int x18)]) dL_ticks_481 (k := 12) rfl (by rw [hx_x14_79]; rfl) (by decide) rfl ?_
            refine J.goto (pc := 484) C (tgt := 166) dL_ticks_484 (by decide) ?_
            exact J.sub (loc' := [(0, .ref (Xad X x0)), (1, .int x1), (2, .int x2), (3, .ref (Xad X 105)), (4, .ref (Xad X 106)), (5, .ref (Xad X 107)), (6, .int x6), (8, .int x8), (11, .ref (Xad X 108)), (12, .ref (Xad X 109)), (13, .int x13_78), (14, .int x14_79)]) [3, 4, 5, 6, 7, 8, 9, 10, 11, 12, 1, 0] rfl ((hp.2 _ (Option.some.inj hf).symm) X C hcl h105 h106 h107 h108 h109 hx0 (hR.mono (by omega) (by omega)))
        · refine J.iconst (pc := 417) C (v := 0) dL_ticks_417 (by decide) ?_
          exact J.zretE (pc := 418) C rfl hR (((hp.1 _ (Option.some.inj hf).symm).1 _ rfl)) dL_ticks_418
  have L290 : ∀ (m : Nat) (σ : Mem) (x1 : Int32) (x2 : Int32) (x6 : Int32) (x8 : Int32) (x13 : Int32) (x14 : Int32) (x15 : Int32) (x16 : Int32) (x17 : Int32) (x18 : Int32) (t : (((Int32 × Mem) ⊕ (Mem × Int32)) ⊕ (Mem × Int32 × Int32))), f_L_ticks_L290 n w σ x0 x1 x2 x6 x8 x13 x14 x15 x16 x17 x18 = some t → ((∀ r2, t = .inl r2 → ((∀ r1, r2 = .inl r1 → r1 = t0) ∧ (∀ s1, r2 = .inr s1 → (∀ (X : Ctx), Cx X RL cL_ticks 21 ((some FieldType.boolean)) 6 138 → Cl (Xks X) → Ok (Xks X) 105 100 → Ok (Xks X) 106 100 → Ok (Xks X) 107 100 → Ok (Xks X) x0 8 → RtE X (2 * m) (6 * m) (fun _ => some (.int t0.1)) t0.2 → J X 24 [(0, .ref (Xad X x0)), (1, .int x1), (2, .int x2), (3, .ref (Xad X 105)), (4, .ref (Xad X 106)), (5, .ref (Xad X 107)), (6, .int (s1.2))] [] s1.1)))) ∧ (∀ s2, t = .inr s2 → (∀ (X : Ctx), Cx X RL cL_ticks 21 ((some FieldType.boolean)) 6 138 → Cl (Xks X) → Ok (Xks X) 105 100 → Ok (Xks X) 106 100 → Ok (Xks X) 107 100 → Ok (Xks X) 108 104 → Ok (Xks X) 109 104 → Ok (Xks X) x0 8 → RtE X (2 * m) (6 * m) (fun _ => some (.int t0.1)) t0.2 → J X 166 [(0, .ref (Xad X x0)), (1, .int x1), (2, .int x2), (3, .ref (Xad X 105)), (4, .ref (Xad X 106)), (5, .ref (Xad X 107)), (6, .int x6), (8, .int x8), (11, .ref (Xad X 108)), (12, .ref (Xad X 109)), (13, .int (s2.2.1)), (14, .int (s2.2.2))] [] s2.1))) → ∀ (X : Ctx), Cx X RL cL_ticks 21 ((some FieldType.boolean)) 6 138 → Cl (Xks X) → Ok (Xks X) 105 100 → Ok (Xks X) 106 100 → Ok (Xks X) 107 100 → Ok (Xks X) 108 104 → Ok (Xks X) 109 104 → Ok (Xks X) x0 8 → RtE X (2 * m) (6 * m) (fun _ => some (.int t0.1)) t0.2 → J X 290 [(0, .ref (Xad X x0)), (1, .int x1), (2, .int x2), (3, .ref (Xad X 105)), (4, .ref (Xad X 106)), (5, .ref (Xad X 107)), (6, .int x6), (8, .int x8), (11, .ref (Xad X 108)), (12, .ref (Xad X 109)), (13, .int x13), (14, .int x14), (15, .int x15), (16, .int x16), (17, .int x17), (18, .int x18)] [] σ := by
    intro m σ x1 x2 x6 x8 x13 x14 x15 x16 x17 x18 t hf hp
    unfold f_L_ticks_L290 at hf
    intro X C hcl h105 h106 h107 h108 h109 hx0 hR
    refine J.aload_n (pc := 290) C dL_ticks_290 rfl 0 rfl ?_
    refine J.iconst (pc := 291) C (v := 5) dL_ticks_291 (by decide) ?_
    obtain ⟨r_48, h_47, hf⟩ := bnd_some hf
    refine J.callV (pc := 292) C (m_X8_state h_47) hx0 wyX8_state tvX8_state_i tvX8_state_s tw_387 kcX8 rfl hx0 [.int 5] [] rfl rfl (Nat.le_of_ble_eq_true rfl) (Nat.le_of_ble_eq_true rfl) (Nat.le_of_ble_eq_true rfl) (stk' := [.int r_48]) rfl dL_ticks_292 rfl ?_
    refine J.iconst (pc := 295) C (v := 1) dL_ticks_295 (by decide) ?_
    refine J.icmp_ne (pc := 296) C (tgt := 324) dL_ticks_296 (by decide) hf (fun hf => ?_) (fun hf => ?_)
    · exact J.sub (loc' := [(0, .ref (Xad X x0)), (1, .int x1), (2, .int x2), (3, .ref (Xad X 105)), (4, .ref (Xad X 106)), (5, .ref (Xad X 107)), (6, .int x6), (8, .int x8), (11, .ref (Xad X 108)), (12, .ref (Xad X 109)), (13, .int x13), (14, .int x14), (15, .int x15), (16, .int x16), (18, .int x18)]) [0, 1, 2, 3, 4, 5, 6, 7, 8, 9, 10, 11, 12, 13, 15] rfl (L324 m σ x1 x2 x6 x8 x13 x14 x15 x16 x18 _ hf hp X C hcl h105 h106 h107 h108 h109 hx0 (hR.mono (by omega) (by omega)))
    · refine J.iload (pc := 299) C dL_ticks_299 12 rfl ?_
      refine J.aload_n (pc := 301) C dL_ticks_301 rfl 0 rfl ?_
      refine J.bipush (pc := 302) C (v := 13) dL_ticks_302 (by decide) ?_
      obtain ⟨r_81, h_80, hf⟩ := bnd_some hf
      refine J.callV (pc := 304) C (m_X8_state h_80) hx0 wyX8_state tvX8_state_i tvX8_state_s tw_387 kcX8 rfl hx0 [.int 13] [.int x15] rfl rfl (Nat.le_of_ble_eq_true rfl) (Nat.le_of_ble_eq_true rfl) (Nat.le_of_ble_eq_true rfl) (stk' := [.int r_81, .int x15]) rfl dL_ticks_304 rfl ?_
      refine J.icmp_le (pc := 307) C (tgt := 324) dL_ticks_307 (by decide) hf (fun hf => ?_) (fun hf => ?_)
      · exact J.sub (loc' := [(0, .ref (Xad X x0)), (1, .int x1), (2, .int x2), (3, .ref (Xad X 105)), (4, .ref (Xad X 106)), (5, .ref (Xad X 107)), (6, .int x6), (8, .int x8), (11, .ref (Xad X 108)), (12, .ref (Xad X 109)), (13, .int x13), (14, .int x14), (15, .int x15), (16, .int x16), (18, .int x18)]) [0, 1, 2, 3, 4, 5, 6, 7, 8, 9, 10, 11, 12, 13, 15] rfl (L324 m σ x1 x2 x6 x8 x13 x14 x15 x16 x18 _ hf hp X C hcl h105 h106 h107 h108 h109 hx0 (hR.mono (by omega) (by omega)))
      · refine J.iload (pc := 310) C dL_ticks_310 12 rfl ?_
        refine J.aload_n (pc := 312) C dL_ticks_312 rfl 3 rfl ?_
        refine J.iload (pc := 313) C dL_ticks_313 11 rfl ?_
        refine J.iald (pc := 315) C h105 hf dL_ticks_315 (fun hf => ?_)
        refine J.iload (pc := 316) C dL_ticks_316 14 rfl ?_
        refine J.isub (pc := 318) C dL_ticks_318 ?_
        refine J.icmp_eq (pc := 319) C (tgt := 324) dL_ticks_319 (by decide) hf (fun hf => ?_) (fun hf => ?_)
        · exact J.sub (loc' := [(0, .ref (Xad X x0)), (1, .int x1), (2, .int x2), (3, .ref (Xad X 105)), (4, .ref (Xad X 106)), (5, .ref (Xad X 107)), (6, .int x6), (8, .int x8), (11, .ref (Xad X 108)), (12, .ref (Xad X 109)), (13, .int x13), (14, .int x14), (15, .int x15), (16, .int x16), (18, .int x18)]) [0, 1, 2, 3, 4, 5, 6, 7, 8, 9, 10, 11, 12, 13, 15] rfl (L324 m σ x1 x2 x6 x8 x13 x14 x15 x16 x18 _ hf hp X C hcl h105 h106 h107 h108 h109 hx0 (hR.mono (by omega) (by omega)))
        · refine J.iconst (pc := 322) C (v := 0) dL_ticks_322 (by decide) ?_
          exact J.zretE (pc := 323) C rfl hR (((hp.1 _ (Option.some.inj hf).symm).1 _ rfl)) dL_ticks_323
  have L166 : ∀ (m : Nat) (σ : Mem) (x1 : Int32) (x2 : Int32) (x6 : Int32) (x8 : Int32) (x13 : Int32) (x14 : Int32) (t : ((Int32 × Mem) ⊕ (Mem × Int32))), f_L_ticks_L166 n w σ x0 x1 x2 x6 x8 x13 x14 = some t → ((∀ r1, t = .inl r1 → r1 = t0) ∧ (∀ s1, t = .inr s1 → (∀ (X : Ctx), Cx X RL cL_ticks 21 ((some FieldType.boolean)) 6 138 → Cl (Xks X) → Ok (Xks X) 105 100 → Ok (Xks X) 106 100 → Ok (Xks X) 107 100 → Ok (Xks X) x0 8 → RtE X (2 * m) (6 * m) (fun _ => some (.int t0.1)) t0.2 → J X 24 [(0, .ref (Xad X x0)), (1, .int x1), (2, .int x2), (3, .ref (Xad X 105)), (4, .ref (Xad X 106)), (5, .ref (Xad X 107)), (6, .int (s1.2))] [] s1.1))) → ∀ (X : Ctx), Cx X RL cL_ticks 21 ((some FieldType.boolean)) 6 138 → Cl (Xks X) → Ok (Xks X) 105 100 → Ok (Xks X) 106 100 → Ok (Xks X) 107 100 → Ok (Xks X) 108 104 → Ok (Xks X) 109 104 → Ok (Xks X) x0 8 → RtE X (2 * m) (6 * m) (fun _ => some (.int t0.1)) t0.2 → J X 166 [(0, .ref (Xad X x0)), (1, .int x1), (2, .int x2), (3, .ref (Xad X 105)), (4, .ref (Xad X 106)), (5, .ref (Xad X 107)), (6, .int x6), (8, .int x8), (11, .ref (Xad X 108)), (12, .ref (Xad X 109)), (13, .int x13), (14, .int x14)] [] σ := by
    intro m σ x1 x2 x6 x8 x13 x14 t hf hp
    unfold f_L_ticks_L166 at hf
    refine J_iter (JJ := fun (s : Mem × Int32 × Int32) => (∀ (X : Ctx), Cx X RL cL_ticks 21 ((some FieldType.boolean)) 6 138 → Cl (Xks X) → Ok (Xks X) 105 100 → Ok (Xks X) 106 100 → Ok (Xks X) 107 100 → Ok (Xks X) 108 104 → Ok (Xks X) 109 104 → Ok (Xks X) x0 8 → RtE X (2 * m) (6 * m) (fun _ => some (.int t0.1)) t0.2 → J X 166 [(0, .ref (Xad X x0)), (1, .int x1), (2, .int x2), (3, .ref (Xad X 105)), (4, .ref (Xad X 106)), (5, .ref (Xad X 107)), (6, .int x6), (8, .int x8), (11, .ref (Xad X 108)), (12, .ref (Xad X 109)), (13, .int (s.2.1)), (14, .int (s.2.2))] [] s.1)) (Ps := fun t => ((∀ r1, t = .inl r1 → r1 = t0) ∧ (∀ s1, t = .inr s1 → (∀ (X : Ctx), Cx X RL cL_ticks 21 ((some FieldType.boolean)) 6 138 → Cl (Xks X) → Ok (Xks X) 105 100 → Ok (Xks X) 106 100 → Ok (Xks X) 107 100 → Ok (Xks X) x0 8 → RtE X (2 * m) (6 * m) (fun _ => some (.int t0.1)) t0.2 → J X 24 [(0, .ref (Xad X x0)), (1, .int x1), (2, .int x2), (3, .ref (Xad X 105)), (4, .ref (Xad X 106)), (5, .ref (Xad X 107)), (6, .int (s1.2))] [] s1.1)))) ?_ w (σ, x13, x14) t hf hp
    clear hf hp
    intro s t hf hp hq
    obtain ⟨σ, x13, x14⟩ := s
    have hp := And.intro hp hq
    clear hq
    have hf : f_L_ticks_B166 n w σ x0 x1 x2 x6 x8 x13 x14 = some t := hf
    intro X C hcl h105 h106 h107 h108 h109 hx0 hR
    show J X 166 [(0, .ref (Xad X x0)), (1, .int x1), (2, .int x2), (3, .ref (Xad X 105)), (4, .ref (Xad X 106)), (5, .ref (Xad X 107)), (6, .int x6), (8, .int x8), (11, .ref (Xad X 108)), (12, .ref (Xad X 109)), (13, .int x13), (14, .int x14)] [] σ
    unfold f_L_ticks_B166 at hf
    refine J.iload (pc := 166) C dL_ticks_166 11 rfl ?_
    refine J.iload_n (pc := 168) C dL_ticks_168 rfl 2 rfl ?_
    refine J.icmp_ge (pc := 169) C (tgt := 487) dL_ticks_169 (by decide) hf (fun hf => ?_) (fun hf => ?_)
    · refine J.iconst (pc := 487) C (v := 0) dL_ticks_487 (by decide) ?_
      refine J.istore (pc := 488) C (loc' := [(14, .int 0), (0, .ref (Xad X x0)), (1, .int x1), (2, .int x2), (3, .ref (Xad X 105)), (4, .ref (Xad X 106)), (5, .ref (Xad X 107)), (6, .int x6), (8, .int x8), (11, .ref (Xad X 108)), (12, .ref (Xad X 109)), (13, .int x13)]) dL_ticks_488 (by decide) rfl ?_
      obtain ⟨t0, hf, he⟩ := exi_some hf
      have hp := hp.1 _ he
      exact J.sub (loc' := [(0, .ref (Xad X x0)), (1, .int x1), (2, .int x2), (3, .ref (Xad X 105)), (4, .ref (Xad X 106)), (5, .ref (Xad X 107)), (6, .int x6), (8, .int x8), (11, .ref (Xad X 108)), (12, .ref (Xad X 109)), (13, .int x13), (14, .int 0)]) [1, 2, 3, 4, 5, 6, 7, 8, 9, 10, 11, 0] rfl (L490 m σ x1 x2 x6 x8 x13 0 _ hf hp X C hcl h105 h106 h107 h108 h109 hx0 (hR.mono (by omega) (by omega)))
    · refine J.aload_n (pc := 172) C dL_ticks_172 rfl 0 rfl ?_
      refine J.iload (pc := 173) C dL_ticks_173 11 rfl ?_
      refine J.bipush (pc := 175) C (v := 7) dL_ticks_175 (by decide) ?_
      obtain ⟨r_38, h_37, hf⟩ := bnd_some hf
      refine J.callV (pc := 177) C (m_X8_spray h_37) hx0 wyX8_spray tvX8_spray_i tvX8_spray_s tw_403 kcX8 rfl hx0 [.int x14, .int 7] [] rfl rfl (Nat.le_of_ble_eq_true rfl) (Nat.le_of_ble_eq_true rfl) (Nat.le_of_ble_eq_true rfl) (stk' := [.int r_38]) rfl dL_ticks_177 rfl ?_
      refine J.istore (pc := 180) C (loc' := [(15, .int r_38), (0, .ref (Xad X x0)), (1, .int x1), (2, .int x2), (3, .ref (Xad X 105)), (4, .ref (Xad X 106)), (5, .ref (Xad X 107)), (6, .int x6), (8, .int x8), (11, .ref (Xad X 108)), (12, .ref (Xad X 109)), (13, .int x13), (14, .int x14)]) dL_ticks_180 (by decide) rfl ?_
      refine J.aload_n (pc := 182) C dL_ticks_182 rfl 1 rfl ?_
      refine J.iload (pc := 183) C dL_ticks_183 12 rfl ?_
      refine J.iconst (pc := 185) C (v := 0) dL_ticks_185 (by decide) ?_
      obtain ⟨r_40, h_39, hf⟩ := bnd_some hf
      refine J.callV (pc := 186) C (m_X8_spray h_39) hx0 wyX8_spray tvX8_spray_i tvX8_spray_s tw_403 kcX8 rfl hx0 [.int x14, .int 0] [] rfl rfl (Nat.le_of_ble_eq_true rfl) (Nat.le_of_ble_eq_true rfl) (Nat.le_of_ble_eq_true rfl) (stk' := [.int r_40]) rfl dL_ticks_186 rfl ?_
      refine J.istore (pc := 189) C (loc' := [(16, .int r_40), (15, .int r_38), (0, .ref (Xad X x0)), (1, .int x1), (2, .int x2), (3, .ref (Xad X 105)), (4, .ref (Xad X 106)), (5, .ref (Xad X 107)), (6, .int x6), (8, .int x8), (11, .ref (Xad X 108)), (12, .ref (Xad X 109)), (13, .int x13), (14, .int x14)]) dL_ticks_189 (by decide) rfl ?_
      refine J.aload_n (pc := 191) C dL_ticks_191 rfl 2 rfl ?_
      refine J.iload (pc := 192) C dL_ticks_192 13 rfl ?_
      refine J.iconst (pc := 194) C (v := 3) dL_ticks_194 (by decide) ?_
      obtain ⟨r_42, h_41, hf⟩ := bnd_some hf
      refine J.callV (pc := 195) C (m_X8_spray h_41) hx0 wyX8_spray tvX8_spray_i tvX8_spray_s tw_403 kcX8 rfl hx0 [.int x14, .int 3] [] rfl rfl (Nat.le_of_ble_eq_true rfl) (Nat.le_of_ble_eq_true rfl) (Nat.le_of_ble_eq_true rfl) (stk' := [.int r_42]) rfl dL_ticks_195 rfl ?_
      refine J.istore (pc := 198) C (loc' := [(17, .int r_42), (16, .int r_40), (15, .int r_38), (0, .ref (Xad X x0)), (1, .int x1), (2, .int x2), (3, .ref (Xad X 105)), (4, .ref (Xad X 106)), (5, .ref (Xad X 107)), (6, .int x6), (8, .int x8), (11, .ref (Xad X 108)), (12, .ref (Xad X 109)), (13, .int x13), (14, .int x14)]) dL_ticks_198 (by decide) rfl ?_
      refine J.aload_n (pc := 200) C dL_ticks_200 rfl 3 rfl ?_
      refine J.iload (pc := 201) C dL_ticks_201 14 rfl ?_
      refine J.bipush (pc := 203) C (v := 8) dL_ticks_203 (by decide) ?_
      obtain ⟨r_44, h_43, hf⟩ := bnd_some hf
      refine J.callV (pc := 205) C (m_X8_spray h_43) hx0 wyX8_spray tvX8_spray_i tvX8_spray_s tw_403 kcX8 rfl hx0 [.int x14, .int 8] [] rfl rfl (Nat.le_of_ble_eq_true rfl) (Nat.le_of_ble_eq_true rfl) (Nat.le_of_ble_eq_true rfl) (stk' := [.int r_44]) rfl dL_ticks_205 rfl ?_
      refine J.istore (pc := 208) C (loc' := [(18, .int r_44), (17, .int r_42), (16, .int r_40), (15, .int r_38), (0, .ref (Xad X x0)), (1, .int x1), (2, .int x2), (3, .ref (Xad X 105)), (4, .ref (Xad X 106)), (5, .ref (Xad X 107)), (6, .int x6), (8, .int x8), (11, .ref (Xad X 108)), (12, .ref (Xad X 109)), (13, .int x13), (14, .int x14)]) dL_ticks_208 (by decide) rfl ?_
      refine J.iload (pc := 210) C dL_ticks_210 3 rfl ?_
      refine J.aload_n (pc := 212) C dL_ticks_212 rfl 7 rfl ?_
      refine J.iload (pc := 213) C dL_ticks_213 15 rfl ?_
      refine J.iald (pc := 215) C h105 hf dL_ticks_215 (fun hf => ?_)
      refine J.iload (pc := 216) C dL_ticks_216 1 rfl ?_
      refine J.isub (pc := 218) C dL_ticks_218 ?_
      refine J.icmp_lt (pc := 219) C (tgt := 262) dL_ticks_219 (by decide) hf (fun hf => ?_) (fun hf => ?_)
      · refine J.iconst (pc := 262) C (v := 0) dL_ticks_262 (by decide) ?_
        exact J.zretE (pc := 263) C rfl hR (((hp.1 _ (Option.some.inj hf).symm).1 _ rfl)) dL_ticks_263
      · refine J.iload (pc := 222) C dL_ticks_222 3 rfl ?_
        refine J.aload_n (pc := 224) C dL_ticks_224 rfl 7 rfl ?_
        refine J.iload (pc := 225) C dL_ticks_225 15 rfl ?_
        refine J.iald (pc := 227) C h105 hf dL_ticks_227 (fun hf => ?_)
        refine J.iload (pc := 228) C dL_ticks_228 1 rfl ?_
        refine J.iadd (pc := 230) C dL_ticks_230 ?_
        refine J.icmp_gt (pc := 231) C (tgt := 262) dL_ticks_231 (by decide) hf (fun hf => ?_) (fun hf => ?_)
        · refine J.iconst (pc := 262) C (v := 0) dL_ticks_262 (by decide) ?_
          exact J.zretE (pc := 263) C rfl hR (((hp.1 _ (Option.some.inj hf).symm).1 _ rfl)) dL_ticks_263
        · refine J.iload (pc := 234) C dL_ticks_234 3 rfl ?_
          refine J.if_lt (pc := 236) C (tgt := 262) dL_ticks_236 (by decide) hf (fun hf => ?_) (fun hf => ?_)
          · refine J.iconst (pc := 262) C (v := 0) dL_ticks_262 (by decide) ?_
            exact J.zretE (pc := 263) C rfl hR (((hp.1 _ (Option.some.inj hf).symm).1 _ rfl)) dL_ticks_263
          · refine J.iload (pc := 239) C dL_ticks_239 3 rfl ?_
            refine J.sipush (pc := 241) C (v := 1000) dL_ticks_241 (by decide) ?_
            refine J.icmp_gt (pc := 244) C (tgt := 262) dL_ticks_244 (by decide) hf (fun hf => ?_) (fun hf => ?_)
            · refine J.iconst (pc := 262) C (v := 0) dL_ticks_262 (by decide) ?_
              exact J.zretE (pc := 263) C rfl hR (((hp.1 _ (Option.some.inj hf).symm).1 _ rfl)) dL_ticks_263
            · refine J.iload (pc := 247) C dL_ticks_247 0 rfl ?_
              refine J.iload (pc := 249) C dL_ticks_249 3 rfl ?_
              refine J.iload (pc := 251) C dL_ticks_251 2 rfl ?_
              refine J.imul (pc := 253) C dL_ticks_253 ?_
              refine J.icmp_gt (pc := 254) C (tgt := 262) dL_ticks_254 (by decide) hf (fun hf => ?_) (fun hf => ?_)
              · refine J.iconst (pc := 262) C (v := 0) dL_ticks_262 (by decide) ?_
                exact J.zretE (pc := 263) C rfl hR (((hp.1 _ (Option.some.inj hf).symm).1 _ rfl)) dL_ticks_263
              · refine J.iload (pc := 257) C dL_ticks_257 0 rfl ?_
                refine J.if_ge (pc := 259) C (tgt := 264) dL_ticks_259 (by decide) hf (fun hf => ?_) (fun hf => ?_)
                · refine J.aload_n (pc := 264) C dL_ticks_264 rfl 4 rfl ?_
                  refine J.iconst (pc := 265) C (v := 5) dL_ticks_265 (by decide) ?_
                  obtain ⟨r_46, h_45, hf⟩ := bnd_some hf
                  refine J.callV (pc := 266) C (m_X8_state h_45) hx0 wyX8_state tvX8_state_i tvX8_state_s tw_387 kcX8 rfl hx0 [.int 5] [] rfl rfl (Nat.le_of_ble_eq_true rfl) (Nat.le_of_ble_eq_true rfl) (Nat.le_of_ble_eq_true rfl) (stk' := [.int r_46]) rfl dL_ticks_266 rfl ?_
                  refine J.iconst (pc := 269) C (v := 2) dL_ticks_269 (by decide) ?_
                  refine J.icmp_ne (pc := 270) C (tgt := 290) dL_ticks_270 (by decide) hf (fun hf => ?_) (fun hf => ?_)
                  · exact J.sub (loc' := [(0, .ref (Xad X x0)), (1, .int x1), (2, .int x2), (3, .ref (Xad X 105)), (4, .ref (Xad X 106)), (5, .ref (Xad X 107)), (6, .int x6), (8, .int x8), (11, .ref (Xad X 108)), (12, .ref (Xad X 109)), (13, .int x13), (14, .int x14), (15, .int r_38), (16, .int r_40), (17, .int r_42), (18, .int r_44)]) [4, 5, 6, 7, 8, 9, 10, 11, 12, 13, 14, 15, 3, 2, 1, 0] rfl (L290 m σ x1 x2 x6 x8 x13 x14 r_38 r_40 r_42 r_44 _ hf hp X C hcl h105 h106 h107 h108 h109 hx0 (hR.mono (by omega) (by omega)))
                  · refine J.iload (pc := 273) C dL_ticks_273 3 rfl ?_
                    refine J.if_le (pc := 275) C (tgt := 290) dL_ticks_275 (by decide) hf (fun hf => ?_) (fun hf => ?_)
                    · exact J.sub (loc' := [(0, .ref (Xad X x0)), (1, .int x1), (2, .int x2), (3, .ref (Xad X 105)), (4, .ref (Xad X 106)), (5, .ref (Xad X 107)), (6, .int x6), (8, .int x8), (11, .ref (Xad X 108)), (12, .ref (Xad X 109)), (13, .int x13), (14, .int x14), (15, .int r_38), (16, .int r_40), (17, .int r_42), (18, .int r_44)]) [4, 5, 6, 7, 8, 9, 10, 11, 12, 13, 14, 15, 3, 2, 1, 0] rfl (L290 m σ x1 x2 x6 x8 x13 x14 r_38 r_40 r_42 r_44 _ hf hp X C hcl h105 h106 h107 h108 h109 hx0 (hR.mono (by omega) (by omega)))
                    · refine J.iload (pc := 278) C dL_ticks_278 3 rfl ?_
                      refine J.aload_n (pc := 280) C dL_ticks_280 rfl 7 rfl ?_
                      refine J.iload (pc := 281) C dL_ticks_281 15 rfl ?_
                      refine J.iald (pc := 283) C h105 hf dL_ticks_283 (fun hf => ?_)
                      refine J.iload (pc := 284) C dL_ticks_284 1 rfl ?_
                      refine J.isub (pc := 286) C dL_ticks_286 ?_
                      refine J.icmp_ne (pc := 287) C (tgt := 322) dL_ticks_287 (by decide) hf (fun hf => ?_) (fun hf => ?_)
                      · refine J.iconst (pc := 322) C (v := 0) dL_ticks_322 (by decide) ?_
                        exact J.zretE (pc := 323) C rfl hR (((hp.1 _ (Option.some.inj hf).symm).1 _ rfl)) dL_ticks_323
                      · exact J.sub (loc' := [(0, .ref (Xad X x0)), (1, .int x1), (2, .int x2), (3, .ref (Xad X 105)), (4, .ref (Xad X 106)), (5, .ref (Xad X 107)), (6, .int x6), (8, .int x8), (11, .ref (Xad X 108)), (12, .ref (Xad X 109)), (13, .int x13), (14, .int x14), (15, .int r_38), (16, .int r_40), (17, .int r_42), (18, .int r_44)]) [4, 5, 6, 7, 8, 9, 10, 11, 12, 13, 14, 15, 3, 2, 1, 0] rfl (L290 m σ x1 x2 x6 x8 x13 x14 r_38 r_40 r_42 r_44 _ hf hp X C hcl h105 h106 h107 h108 h109 hx0 (hR.mono (by omega) (by omega)))
                · refine J.iconst (pc := 262) C (v := 0) dL_ticks_262 (by decide) ?_
                  exact J.zretE (pc := 263) C rfl hR (((hp.1 _ (Option.some.inj hf).symm).1 _ rfl)) dL_ticks_263
  have L89 : ∀ (m : Nat) (σ : Mem) (x1 : Int32) (x2 : Int32) (x6 : Int32) (x7 : Int32) (x8 : Int32) (x9 : Int32) (x10 : Int32) (x11 : Int32) (t : ((Int32 × Mem) ⊕ (Mem × Int32))), f_L_ticks_L89 n w σ x0 x1 x2 x6 x7 x8 x9 x10 x11 = some t → ((∀ r1, t = .inl r1 → r1 = t0) ∧ (∀ s1, t = .inr s1 → (∀ (X : Ctx), Cx X RL cL_ticks 21 ((some FieldType.boolean)) 6 138 → Cl (Xks X) → Ok (Xks X) 105 100 → Ok (Xks X) 106 100 → Ok (Xks X) 107 100 → Ok (Xks X) x0 8 → RtE X (2 * m) (6 * m) (fun _ => some (.int t0.1)) t0.2 → J X 24 [(0, .ref (Xad X x0)), (1, .int x1), (2, .int x2), (3, .ref (Xad X 105)), (4, .ref (Xad X 106)), (5, .ref (Xad X 107)), (6, .int (s1.2))] [] s1.1))) → ∀ (X : Ctx), Cx X RL cL_ticks 21 ((some FieldType.boolean)) 6 138 → Cl (Xks X) → Ok (Xks X) 105 100 → Ok (Xks X) 106 100 → Ok (Xks X) 107 100 → Ok (Xks X) x0 8 → RtE X (2 * m + 2) (6 * m + 6) (fun _ => some (.int t0.1)) t0.2 → J X 89 [(0, .ref (Xad X x0)), (1, .int x1), (2, .int x2), (3, .ref (Xad X 105)), (4, .ref (Xad X 106)), (5, .ref (Xad X 107)), (6, .int x6), (7, .int x7), (8, .int x8), (9, .int x9), (10, .int x10), (11, .int x11)] [] σ := by
    intro m σ x1 x2 x6 x7 x8 x9 x10 x11 t hf hp
    unfold f_L_ticks_L89 at hf
    refine J_iter (JJ := fun (s : Mem × Int32) => (∀ (X : Ctx), Cx X RL cL_ticks 21 ((some FieldType.boolean)) 6 138 → Cl (Xks X) → Ok (Xks X) 105 100 → Ok (Xks X) 106 100 → Ok (Xks X) 107 100 → Ok (Xks X) x0 8 → RtE X (2 * m + 2) (6 * m + 6) (fun _ => some (.int t0.1)) t0.2 → J X 89 [(0, .ref (Xad X x0)), (1, .int x1), (2, .int x2), (3, .ref (Xad X 105)), (4, .ref (Xad X 106)), (5, .ref (Xad X 107)), (6, .int x6), (7, .int x7), (8, .int x8), (9, .int x9), (10, .int x10), (11, .int (s.2))] [] s.1)) (Ps := fun t => ((∀ r1, t = .inl r1 → r1 = t0) ∧ (∀ s1, t = .inr s1 → (∀ (X : Ctx), Cx X RL cL_ticks 21 ((some FieldType.boolean)) 6 138 → Cl (Xks X) → Ok (Xks X) 105 100 → Ok (Xks X) 106 100 → Ok (Xks X) 107 100 → Ok (Xks X) x0 8 → RtE X (2 * m) (6 * m) (fun _ => some (.int t0.1)) t0.2 → J X 24 [(0, .ref (Xad X x0)), (1, .int x1), (2, .int x2), (3, .ref (Xad X 105)), (4, .ref (Xad X 106)), (5, .ref (Xad X 107)), (6, .int (s1.2))] [] s1.1)))) ?_ w (σ, x11) t hf hp
    clear hf hp
    intro s t hf hp hq
    obtain ⟨σ, x11⟩ := s
    have hp := And.intro hp hq
    clear hq
    have hf : f_L_ticks_B89 n w σ x0 x1 x2 x6 x7 x8 x9 x10 x11 = some t := hf
    intro X C hcl h105 h106 h107 hx0 hR
    show J X 89 [(0, .ref (Xad X x0)), (1, .int x1), (2, .int x2), (3, .ref (Xad X 105)), (4, .ref (Xad X 106)), (5, .ref (Xad X 107)), (6, .int x6), (7, .int x7), (8, .int x8), (9, .int x9), (10, .int x10), (11, .int x11)] [] σ
    unfold f_L_ticks_B89 at hf
    refine J.iload (pc := 89) C dL_ticks_89 11 rfl ?_
    refine J.iconst (pc := 91) C (v := 3) dL_ticks_91 (by decide) ?_
    refine J.icmp_ge (pc := 92) C (tgt := 125) dL_ticks_92 (by decide) hf (fun hf => ?_) (fun hf => ?_)
    · refine J.aload_n (pc := 125) C dL_ticks_125 rfl 0 rfl ?_
      refine J.iconst (pc := 126) C (v := 1) dL_ticks_126 (by decide) ?_
      obtain ⟨r_15, σ_16, h_14, hf⟩ := bnd2_some hf
      refine J.callV (pc := 127) C (m_X8_tick h_14) hx0 wyX8_tick tvX8_tick_i tvX8_tick_s tw_411 kcX8 rfl hx0 [.int 1] [] rfl rfl (Nat.le_of_ble_eq_true rfl) (Nat.le_of_ble_eq_true rfl) (Nat.le_of_ble_eq_true rfl) (stk' := [.int r_15]) rfl dL_ticks_127 rfl ?_
      refine J.iload (pc := 130) C dL_ticks_130 7 rfl ?_
      refine J.iconst (pc := 132) C (v := 1) dL_ticks_132 (by decide) ?_
      refine J.iadd (pc := 133) C dL_ticks_133 ?_
      refine J.icmp_ne (pc := 134) C (tgt := 148) dL_ticks_134 (by decide) hf (fun hf => ?_) (fun hf => ?_)
      · refine J.iconst (pc := 148) C (v := 0) dL_ticks_148 (by decide) ?_
        exact J.zretE (pc := 149) C rfl hR (((hp.1 _ (Option.some.inj hf).symm).1 _ rfl)) dL_ticks_149
      · refine J.aload_n (pc := 137) C dL_ticks_137 rfl 0 rfl ?_
        refine J.iload (pc := 138) C dL_ticks_138 9 rfl ?_
        refine J.iload (pc := 140) C dL_ticks_140 10 rfl ?_
        obtain ⟨r_18, h_17, hf⟩ := bnd_some hf
        refine J.callS (pc := 142) C (m_L_wind h_17) hx0 wyL_wind tsL_wind tw_517 [.ref (Xad X x0), .int x9, .int x10] [] rfl rfl (Nat.le_of_ble_eq_true rfl) (Nat.le_of_ble_eq_true rfl) (Nat.le_of_ble_eq_true rfl) (stk' := [.int r_18]) rfl dL_ticks_142 rfl ?_
        refine J.if_ne (pc := 145) C (tgt := 150) dL_ticks_145 (by decide) hf (fun hf => ?_) (fun hf => ?_)
        · refine J.iconst (pc := 150) C (v := 3) dL_ticks_150 (by decide) ?_
          refine J.newE (pc := 151) C hcl (hR) (c := 108) (N := 3) (a := 2 * m + 1) (b := 6 * m + 3) (by omega) (by omega) (Or.inr ⟨rfl, rfl⟩) (by decide) rfl (by decide) rfl ta_long rfl hf dL_ticks_151 (fun X C hcl hok hc had hR σ_19 hf => ?_)
          rw [← had 105 (by decide)]
          have h105 := hok 105 100 (by decide) h105
          rw [← had 106 (by decide)]
          have h106 := hok 106 100 (by decide) h106
          rw [← had 107 (by decide)]
          have h107 := hok 107 100 (by decide) h107
          rw [← had x0 (ok_ne hx0 (by decide))]
          have hx0 := hok x0 8 (ok_ne hx0 (by decide)) hx0
          have h108 : Ok (Xks X) 108 104 := hc
          refine J.astore (pc := 153) C (loc' := [(11, .ref (Xad X 108)), (0, .ref (Xad X x0)), (1, .int x1), (2, .int x2), (3, .ref (Xad X 105)), (4, .ref (Xad X 106)), (5, .ref (Xad X 107)), (6, .int x6), (7, .int x7), (8, .int x8), (9, .int x9), (10, .int x10)]) dL_ticks_153 (by decide) rfl ?_
          refine J.iconst (pc := 155) C (v := 3) dL_ticks_155 (by decide) ?_
          refine J.newE (pc := 156) C hcl (hR) (c := 109) (N := 3) (a := 2 * m) (b := 6 * m) (by omega) (by omega) (Or.inr ⟨rfl, rfl⟩) (by decide) rfl (by decide) rfl ta_long rfl hf dL_ticks_156 (fun X C hcl hok hc had hR σ_20 hf => ?_)
          rw [← had 105 (by decide)]
          have h105 := hok 105 100 (by decide) h105
          rw [← had 106 (by decide)]
          have h106 := hok 106 100 (by decide) h106
          rw [← had 107 (by decide)]
          have h107 := hok 107 100 (by decide) h107
          rw [← had 108 (by decide)]
          have h108 := hok 108 104 (by decide) h108
          rw [← had x0 (ok_ne hx0 (by decide))]
          have hx0 := hok x0 8 (ok_ne hx0 (by decide)) hx0
          have h109 : Ok (Xks X) 109 104 := hc
          refine J.astore (pc := 158) C (loc' := [(12, .ref (Xad X 109)), (11, .ref (Xad X 108)), (0, .ref (Xad X x0)), (1, .int x1), (2, .int x2), (3, .ref (Xad X 105)), (4, .ref (Xad X 106)), (5, .ref (Xad X 107)), (6, .int x6), (7, .int x7), (8, .int x8), (9, .int x9), (10, .int x10)]) dL_ticks_158 (by decide) rfl ?_
          refine J.iconst (pc := 160) C (v := 0) dL_ticks_160 (by decide) ?_
          refine J.istore (pc := 161) C (loc' := [(13, .int 0), (12, .ref (Xad X 109)), (11, .ref (Xad X 108)), (0, .ref (Xad X x0)), (1, .int x1), (2, .int x2), (3, .ref (Xad X 105)), (4, .ref (Xad X 106)), (5, .ref (Xad X 107)), (6, .int x6), (7, .int x7), (8, .int x8), (9, .int x9), (10, .int x10)]) dL_ticks_161 (by decide) rfl ?_
          refine J.iconst (pc := 163) C (v := 0) dL_ticks_163 (by decide) ?_
          refine J.istore (pc := 164) C (loc' := [(14, .int 0), (13, .int 0), (12, .ref (Xad X 109)), (11, .ref (Xad X 108)), (0, .ref (Xad X x0)), (1, .int x1), (2, .int x2), (3, .ref (Xad X 105)), (4, .ref (Xad X 106)), (5, .ref (Xad X 107)), (6, .int x6), (7, .int x7), (8, .int x8), (9, .int x9), (10, .int x10)]) dL_ticks_164 (by decide) rfl ?_
          obtain ⟨t0, hf, he⟩ := exi_some hf
          have hp := hp.1 _ he
          exact J.sub (loc' := [(0, .ref (Xad X x0)), (1, .int x1), (2, .int x2), (3, .ref (Xad X 105)), (4, .ref (Xad X 106)), (5, .ref (Xad X 107)), (6, .int x6), (8, .int x8), (11, .ref (Xad X 108)), (12, .ref (Xad X 109)), (13, .int 0), (14, .int 0)]) [4, 5, 6, 7, 8, 9, 10, 12, 3, 2, 1, 0] rfl (L166 m σ_20 x1 x2 x6 x8 0 0 _ hf hp X C hcl h105 h106 h107 h108 h109 hx0 (hR.mono (by omega) (by omega)))
        · refine J.iconst (pc := 148) C (v := 0) dL_ticks_148 (by decide) ?_
          exact J.zretE (pc := 149) C rfl hR (((hp.1 _ (Option.some.inj hf).symm).1 _ rfl)) dL_ticks_149
    · refine J.aload (pc := 95) C dL_ticks_95 4 rfl ?_
      refine J.iload (pc := 97) C dL_ticks_97 11 rfl ?_
      refine J.aload_n (pc := 99) C dL_ticks_99 rfl 0 rfl ?_
      refine J.iload (pc := 100) C dL_ticks_100 11 rfl ?_
      refine J.iconst (pc := 102) C (v := 2) dL_ticks_102 (by decide) ?_
      obtain ⟨r_83, h_82, hf⟩ := bnd_some hf
      refine J.callV (pc := 103) C (m_X8_pressure h_82) hx0 wyX8_pressure tvX8_pressure_i tvX8_pressure_s tw_407 kcX8 rfl hx0 [.int x11, .int 2] [.int x11, .ref (Xad X 106)] rfl rfl (Nat.le_of_ble_eq_true rfl) (Nat.le_of_ble_eq_true rfl) (Nat.le_of_ble_eq_true rfl) (stk' := [.int r_83, .int x11, .ref (Xad X 106)]) rfl dL_ticks_103 rfl ?_
      refine J.iastM (pc := 106) C h106 hf dL_ticks_106 (fun σ_84 hf => ?_)
      refine J.aload (pc := 107) C dL_ticks_107 5 rfl ?_
      refine J.iload (pc := 109) C dL_ticks_109 11 rfl ?_
      refine J.aload_n (pc := 111) C dL_ticks_111 rfl 0 rfl ?_
      refine J.iload (pc := 112) C dL_ticks_112 11 rfl ?_
      refine J.iconst (pc := 114) C (v := 4) dL_ticks_114 (by decide) ?_
      obtain ⟨r_86, h_85, hf⟩ := bnd_some hf
      refine J.callV (pc := 115) C (m_X8_pressure h_85) hx0 wyX8_pressure tvX8_pressure_i tvX8_pressure_s tw_407 kcX8 rfl hx0 [.int x11, .int 4] [.int x11, .ref (Xad X 107)] rfl rfl (Nat.le_of_ble_eq_true rfl) (Nat.le_of_ble_eq_true rfl) (Nat.le_of_ble_eq_true rfl) (stk' := [.int r_86, .int x11, .ref (Xad X 107)]) rfl dL_ticks_115 rfl ?_
      refine J.iastM (pc := 118) C h107 hf dL_ticks_118 (fun σ_87 hf => ?_)
      obtain ⟨x11_88, hx_x11_88, hf⟩ := nm_some hf
      refine J.iinc (pc := 119) C (v := x11_88) (loc' := [(11, .int x11_88), (0, .ref (Xad X x0)), (1, .int x1), (2, .int x2), (3, .ref (Xad X 105)), (4, .ref (Xad X 106)), (5, .ref (Xad X 107)), (6, .int x6), (7, .int x7), (8, .int x8), (9, .int x9), (10, .int x10)]) dL_ticks_119 (k := 11) rfl (by rw [hx_x11_88]; rfl) (by decide) rfl ?_
      refine J.goto (pc := 122) C (tgt := 89) dL_ticks_122 (by decide) ?_
      exact J.sub (loc' := [(0, .ref (Xad X x0)), (1, .int x1), (2, .int x2), (3, .ref (Xad X 105)), (4, .ref (Xad X 106)), (5, .ref (Xad X 107)), (6, .int x6), (7, .int x7), (8, .int x8), (9, .int x9), (10, .int x10), (11, .int x11_88)]) [1, 2, 3, 4, 5, 6, 7, 8, 9, 10, 11, 0] rfl ((hp.2 _ (Option.some.inj hf).symm) X C hcl h105 h106 h107 hx0 (hR.mono (by omega) (by omega)))
  have L62 : ∀ (m : Nat) (σ : Mem) (x1 : Int32) (x2 : Int32) (x6 : Int32) (x7 : Int32) (x8 : Int32) (x9 : Int32) (x10 : Int32) (x11 : Int32) (t : ((Int32 × Mem) ⊕ (Mem × Int32))), f_L_ticks_L62 n w σ x0 x1 x2 x6 x7 x8 x9 x10 x11 = some t → ((∀ r1, t = .inl r1 → r1 = t0) ∧ (∀ s1, t = .inr s1 → (∀ (X : Ctx), Cx X RL cL_ticks 21 ((some FieldType.boolean)) 6 138 → Cl (Xks X) → Ok (Xks X) 105 100 → Ok (Xks X) 106 100 → Ok (Xks X) 107 100 → Ok (Xks X) x0 8 → RtE X (2 * m) (6 * m) (fun _ => some (.int t0.1)) t0.2 → J X 24 [(0, .ref (Xad X x0)), (1, .int x1), (2, .int x2), (3, .ref (Xad X 105)), (4, .ref (Xad X 106)), (5, .ref (Xad X 107)), (6, .int (s1.2))] [] s1.1))) → ∀ (X : Ctx), Cx X RL cL_ticks 21 ((some FieldType.boolean)) 6 138 → Cl (Xks X) → Ok (Xks X) 105 100 → Ok (Xks X) 106 100 → Ok (Xks X) 107 100 → Ok (Xks X) x0 8 → RtE X (2 * m + 2) (6 * m + 6) (fun _ => some (.int t0.1)) t0.2 → J X 62 [(0, .ref (Xad X x0)), (1, .int x1), (2, .int x2), (3, .ref (Xad X 105)), (4, .ref (Xad X 106)), (5, .ref (Xad X 107)), (6, .int x6), (7, .int x7), (8, .int x8), (9, .int x9), (10, .int x10), (11, .int x11)] [] σ := by
    intro m σ x1 x2 x6 x7 x8 x9 x10 x11 t hf hp
    unfold f_L_ticks_L62 at hf
    refine J_iter (JJ := fun (s : Mem × Int32) => (∀ (X : Ctx), Cx X RL cL_ticks 21 ((some FieldType.boolean)) 6 138 → Cl (Xks X) → Ok (Xks X) 105 100 → Ok (Xks X) 106 100 → Ok (Xks X) 107 100 → Ok (Xks X) x0 8 → RtE X (2 * m + 2) (6 * m + 6) (fun _ => some (.int t0.1)) t0.2 → J X 62 [(0, .ref (Xad X x0)), (1, .int x1), (2, .int x2), (3, .ref (Xad X 105)), (4, .ref (Xad X 106)), (5, .ref (Xad X 107)), (6, .int x6), (7, .int x7), (8, .int x8), (9, .int x9), (10, .int x10), (11, .int (s.2))] [] s.1)) (Ps := fun t => ((∀ r1, t = .inl r1 → r1 = t0) ∧ (∀ s1, t = .inr s1 → (∀ (X : Ctx), Cx X RL cL_ticks 21 ((some FieldType.boolean)) 6 138 → Cl (Xks X) → Ok (Xks X) 105 100 → Ok (Xks X) 106 100 → Ok (Xks X) 107 100 → Ok (Xks X) x0 8 → RtE X (2 * m) (6 * m) (fun _ => some (.int t0.1)) t0.2 → J X 24 [(0, .ref (Xad X x0)), (1, .int x1), (2, .int x2), (3, .ref (Xad X 105)), (4, .ref (Xad X 106)), (5, .ref (Xad X 107)), (6, .int (s1.2))] [] s1.1)))) ?_ w (σ, x11) t hf hp
    clear hf hp
    intro s t hf hp hq
    obtain ⟨σ, x11⟩ := s
    have hp := And.intro hp hq
    clear hq
    have hf : f_L_ticks_B62 n w σ x0 x1 x2 x6 x7 x8 x9 x10 x11 = some t := hf
    intro X C hcl h105 h106 h107 hx0 hR
    show J X 62 [(0, .ref (Xad X x0)), (1, .int x1), (2, .int x2), (3, .ref (Xad X 105)), (4, .ref (Xad X 106)), (5, .ref (Xad X 107)), (6, .int x6), (7, .int x7), (8, .int x8), (9, .int x9), (10, .int x10), (11, .int x11)] [] σ
    unfold f_L_ticks_B62 at hf
    refine J.iload (pc := 62) C dL_ticks_62 11 rfl ?_
    refine J.iload_n (pc := 64) C dL_ticks_64 rfl 2 rfl ?_
    refine J.icmp_ge (pc := 65) C (tgt := 86) dL_ticks_65 (by decide) hf (fun hf => ?_) (fun hf => ?_)
    · refine J.iconst (pc := 86) C (v := 0) dL_ticks_86 (by decide) ?_
      refine J.istore (pc := 87) C (loc' := [(11, .int 0), (0, .ref (Xad X x0)), (1, .int x1), (2, .int x2), (3, .ref (Xad X 105)), (4, .ref (Xad X 106)), (5, .ref (Xad X 107)), (6, .int x6), (7, .int x7), (8, .int x8), (9, .int x9), (10, .int x10)]) dL_ticks_87 (by decide) rfl ?_
      obtain ⟨t0, hf, he⟩ := exi_some hf
      have hp := hp.1 _ he
      exact J.sub (loc' := [(0, .ref (Xad X x0)), (1, .int x1), (2, .int x2), (3, .ref (Xad X 105)), (4, .ref (Xad X 106)), (5, .ref (Xad X 107)), (6, .int x6), (7, .int x7), (8, .int x8), (9, .int x9), (10, .int x10), (11, .int 0)]) [1, 2, 3, 4, 5, 6, 7, 8, 9, 10, 11, 0] rfl (L89 m σ x1 x2 x6 x7 x8 x9 x10 0 _ hf hp X C hcl h105 h106 h107 hx0 (hR.mono (by omega) (by omega)))
    · refine J.aload_n (pc := 68) C dL_ticks_68 rfl 3 rfl ?_
      refine J.iload (pc := 69) C dL_ticks_69 11 rfl ?_
      refine J.aload_n (pc := 71) C dL_ticks_71 rfl 0 rfl ?_
      refine J.iload (pc := 72) C dL_ticks_72 11 rfl ?_
      refine J.bipush (pc := 74) C (v := 7) dL_ticks_74 (by decide) ?_
      obtain ⟨r_90, h_89, hf⟩ := bnd_some hf
      refine J.callV (pc := 76) C (m_X8_spray h_89) hx0 wyX8_spray tvX8_spray_i tvX8_spray_s tw_403 kcX8 rfl hx0 [.int x11, .int 7] [.int x11, .ref (Xad X 105)] rfl rfl (Nat.le_of_ble_eq_true rfl) (Nat.le_of_ble_eq_true rfl) (Nat.le_of_ble_eq_true rfl) (stk' := [.int r_90, .int x11, .ref (Xad X 105)]) rfl dL_ticks_76 rfl ?_
      refine J.iastM (pc := 79) C h105 hf dL_ticks_79 (fun σ_91 hf => ?_)
      obtain ⟨x11_92, hx_x11_92, hf⟩ := nm_some hf
      refine J.iinc (pc := 80) C (v := x11_92) (loc' := [(11, .int x11_92), (0, .ref (Xad X x0)), (1, .int x1), (2, .int x2), (3, .ref (Xad X 105)), (4, .ref (Xad X 106)), (5, .ref (Xad X 107)), (6, .int x6), (7, .int x7), (8, .int x8), (9, .int x9), (10, .int x10)]) dL_ticks_80 (k := 11) rfl (by rw [hx_x11_92]; rfl) (by decide) rfl ?_
      refine J.goto (pc := 83) C (tgt := 62) dL_ticks_83 (by decide) ?_
      exact J.sub (loc' := [(0, .ref (Xad X x0)), (1, .int x1), (2, .int x2), (3, .ref (Xad X 105)), (4, .ref (Xad X 106)), (5, .ref (Xad X 107)), (6, .int x6), (7, .int x7), (8, .int x8), (9, .int x9), (10, .int x10), (11, .int x11_92)]) [1, 2, 3, 4, 5, 6, 7, 8, 9, 10, 11, 0] rfl ((hp.2 _ (Option.some.inj hf).symm) X C hcl h105 h106 h107 hx0 (hR.mono (by omega) (by omega)))
  have L24 : ∀ (σ : Mem) (x1 : Int32) (x2 : Int32) (x6 : Int32) (t : (Int32 × Mem)), f_L_ticks_L24 n w σ x0 x1 x2 x6 = some t → t = t0 → ∀ (X : Ctx), Cx X RL cL_ticks 21 ((some FieldType.boolean)) 6 138 → Cl (Xks X) → Ok (Xks X) 105 100 → Ok (Xks X) 106 100 → Ok (Xks X) 107 100 → Ok (Xks X) x0 8 → RtE X (2 * w) (6 * w) (fun _ => some (.int t0.1)) t0.2 → J X 24 [(0, .ref (Xad X x0)), (1, .int x1), (2, .int x2), (3, .ref (Xad X 105)), (4, .ref (Xad X 106)), (5, .ref (Xad X 107)), (6, .int x6)] [] σ := by
    intro σ x1 x2 x6 t hf hp
    unfold f_L_ticks_L24 at hf
    refine J_iterN (JJ := fun (m : Nat) (s : Mem × Int32) => (∀ (X : Ctx), Cx X RL cL_ticks 21 ((some FieldType.boolean)) 6 138 → Cl (Xks X) → Ok (Xks X) 105 100 → Ok (Xks X) 106 100 → Ok (Xks X) 107 100 → Ok (Xks X) x0 8 → RtE X (2 * m) (6 * m) (fun _ => some (.int t0.1)) t0.2 → J X 24 [(0, .ref (Xad X x0)), (1, .int x1), (2, .int x2), (3, .ref (Xad X 105)), (4, .ref (Xad X 106)), (5, .ref (Xad X 107)), (6, .int (s.2))] [] s.1)) (Ps := fun t => t = t0) ?_ w (σ, x6) t hf hp
    clear hf hp
    intro m s t hf hp hq
    obtain ⟨σ, x6⟩ := s
    have hp := And.intro hp hq
    clear hq
    have hf : f_L_ticks_B24 n w σ x0 x1 x2 x6 = some t := hf
    intro X C hcl h105 h106 h107 hx0 hR
    show J X 24 [(0, .ref (Xad X x0)), (1, .int x1), (2, .int x2), (3, .ref (Xad X 105)), (4, .ref (Xad X 106)), (5, .ref (Xad X 107)), (6, .int x6)] [] σ
    unfold f_L_ticks_B24 at hf
    refine J.iload (pc := 24) C dL_ticks_24 6 rfl ?_
    refine J.iload_n (pc := 26) C dL_ticks_26 rfl 1 rfl ?_
    refine J.icmp_ge (pc := 27) C (tgt := 749) dL_ticks_27 (by decide) hf (fun hf => ?_) (fun hf => ?_)
    · refine J.iconst (pc := 749) C (v := 1) dL_ticks_749 (by decide) ?_
      exact J.zretE (pc := 750) C rfl hR ((hp.1 _ (Option.some.inj hf).symm)) dL_ticks_750
    · refine J.aload_n (pc := 30) C dL_ticks_30 rfl 0 rfl ?_
      refine J.iconst (pc := 31) C (v := 0) dL_ticks_31 (by decide) ?_
      obtain ⟨r_7, h_6, hf⟩ := bnd_some hf
      refine J.callV (pc := 32) C (m_X8_state h_6) hx0 wyX8_state tvX8_state_i tvX8_state_s tw_387 kcX8 rfl hx0 [.int 0] [] rfl rfl (Nat.le_of_ble_eq_true rfl) (Nat.le_of_ble_eq_true rfl) (Nat.le_of_ble_eq_true rfl) (stk' := [.int r_7]) rfl dL_ticks_32 rfl ?_
      refine J.istore (pc := 35) C (loc' := [(7, .int r_7), (0, .ref (Xad X x0)), (1, .int x1), (2, .int x2), (3, .ref (Xad X 105)), (4, .ref (Xad X 106)), (5, .ref (Xad X 107)), (6, .int x6)]) dL_ticks_35 (by decide) rfl ?_
      refine J.aload_n (pc := 37) C dL_ticks_37 rfl 1 rfl ?_
      refine J.bipush (pc := 38) C (v := 7) dL_ticks_38 (by decide) ?_
      obtain ⟨r_9, h_8, hf⟩ := bnd_some hf
      refine J.callV (pc := 40) C (m_X8_state h_8) hx0 wyX8_state tvX8_state_i tvX8_state_s tw_387 kcX8 rfl hx0 [.int 7] [] rfl rfl (Nat.le_of_ble_eq_true rfl) (Nat.le_of_ble_eq_true rfl) (Nat.le_of_ble_eq_true rfl) (stk' := [.int r_9]) rfl dL_ticks_40 rfl ?_
      refine J.istore (pc := 43) C (loc' := [(8, .int r_9), (7, .int r_7), (0, .ref (Xad X x0)), (1, .int x1), (2, .int x2), (3, .ref (Xad X 105)), (4, .ref (Xad X 106)), (5, .ref (Xad X 107)), (6, .int x6)]) dL_ticks_43 (by decide) rfl ?_
      refine J.aload_n (pc := 45) C dL_ticks_45 rfl 2 rfl ?_
      refine J.iconst (pc := 46) C (v := 5) dL_ticks_46 (by decide) ?_
      obtain ⟨r_11, h_10, hf⟩ := bnd_some hf
      refine J.callV (pc := 47) C (m_X8_state h_10) hx0 wyX8_state tvX8_state_i tvX8_state_s tw_387 kcX8 rfl hx0 [.int 5] [] rfl rfl (Nat.le_of_ble_eq_true rfl) (Nat.le_of_ble_eq_true rfl) (Nat.le_of_ble_eq_true rfl) (stk' := [.int r_11]) rfl dL_ticks_47 rfl ?_
      refine J.istore (pc := 50) C (loc' := [(9, .int r_11), (8, .int r_9), (7, .int r_7), (0, .ref (Xad X x0)), (1, .int x1), (2, .int x2), (3, .ref (Xad X 105)), (4, .ref (Xad X 106)), (5, .ref (Xad X 107)), (6, .int x6)]) dL_ticks_50 (by decide) rfl ?_
      refine J.aload_n (pc := 52) C dL_ticks_52 rfl 3 rfl ?_
      refine J.iconst (pc := 53) C (v := 4) dL_ticks_53 (by decide) ?_
      obtain ⟨r_13, h_12, hf⟩ := bnd_some hf
      refine J.callV (pc := 54) C (m_X8_state h_12) hx0 wyX8_state tvX8_state_i tvX8_state_s tw_387 kcX8 rfl hx0 [.int 4] [] rfl rfl (Nat.le_of_ble_eq_true rfl) (Nat.le_of_ble_eq_true rfl) (Nat.le_of_ble_eq_true rfl) (stk' := [.int r_13]) rfl dL_ticks_54 rfl ?_
      refine J.istore (pc := 57) C (loc' := [(10, .int r_13), (9, .int r_11), (8, .int r_9), (7, .int r_7), (0, .ref (Xad X x0)), (1, .int x1), (2, .int x2), (3, .ref (Xad X 105)), (4, .ref (Xad X 106)), (5, .ref (Xad X 107)), (6, .int x6)]) dL_ticks_57 (by decide) rfl ?_
      refine J.iconst (pc := 59) C (v := 0) dL_ticks_59 (by decide) ?_
      refine J.istore (pc := 60) C (loc' := [(11, .int 0), (10, .int r_13), (9, .int r_11), (8, .int r_9), (7, .int r_7), (0, .ref (Xad X x0)), (1, .int x1), (2, .int x2), (3, .ref (Xad X 105)), (4, .ref (Xad X 106)), (5, .ref (Xad X 107)), (6, .int x6)]) dL_ticks_60 (by decide) rfl ?_
      exact J.sub (loc' := [(0, .ref (Xad X x0)), (1, .int x1), (2, .int x2), (3, .ref (Xad X 105)), (4, .ref (Xad X 106)), (5, .ref (Xad X 107)), (6, .int x6), (7, .int r_7), (8, .int r_9), (9, .int r_11), (10, .int r_13), (11, .int 0)]) [5, 6, 7, 8, 9, 10, 11, 4, 3, 2, 1, 0] rfl (L62 m σ x1 x2 x6 r_7 r_9 r_11 r_13 0 _ hf hp X C hcl h105 h106 h107 hx0 (hR.mono (by omega) (by omega)))
  have hp : t0 = t0 := rfl
  refine CtA.of (plainFor_of_name (by decide)) (fun _ => Nat.le_of_ble_eq_true rfl) ?_
  intro X C hcl hlow hx0 hR
  have C : Cx X RL cL_ticks 21 ((some FieldType.boolean)) 6 138 := C
  show J X 0 [(0, .ref (Xad X x0)), (1, .int x1)] [] σ
  unfold f_L_ticks at hf
  refine J.aload_n (pc := 0) C dL_ticks_0 rfl 0 rfl ?_
  refine J.iconst (pc := 1) C (v := 1) dL_ticks_1 (by decide) ?_
  obtain ⟨r_2, h_1, hf⟩ := bnd_some hf
  refine J.callV (pc := 2) C (m_X8_state h_1) hx0 wyX8_state tvX8_state_i tvX8_state_s tw_387 kcX8 rfl hx0 [.int 1] [] rfl rfl (Nat.le_of_ble_eq_true rfl) (Nat.le_of_ble_eq_true rfl) (Nat.le_of_ble_eq_true rfl) (stk' := [.int r_2]) rfl dL_ticks_2 rfl ?_
  refine J.istore_n (pc := 5) C (loc' := [(2, .int r_2), (0, .ref (Xad X x0)), (1, .int x1)]) dL_ticks_5 rfl (by decide) rfl ?_
  refine J.bipush (pc := 6) C (v := 12) dL_ticks_6 (by decide) ?_
  refine J.newE (pc := 8) C hcl (hR) (c := 105) (N := 12) (a := 2 * w + 2) (b := 6 * w + 6) (by omega) (by omega) (Or.inl ⟨rfl, rfl⟩) (by decide) rfl (by decide) rfl ta_int rfl hf dL_ticks_8 (fun X C hcl hok hc had hR σ_3 hf => ?_)
  rw [← had x0 (ok_ne hx0 (by decide))]
  have hx0 := hok x0 8 (ok_ne hx0 (by decide)) hx0
  have h105 : Ok (Xks X) 105 100 := hc
  refine J.astore_n (pc := 10) C (loc' := [(3, .ref (Xad X 105)), (2, .int r_2), (0, .ref (Xad X x0)), (1, .int x1)]) dL_ticks_10 rfl (by decide) rfl ?_
  refine J.iconst (pc := 11) C (v := 3) dL_ticks_11 (by decide) ?_
  refine J.newE (pc := 12) C hcl (hR) (c := 106) (N := 3) (a := 2 * w + 1) (b := 6 * w + 3) (by omega) (by omega) (Or.inl ⟨rfl, rfl⟩) (by decide) rfl (by decide) rfl ta_int rfl hf dL_ticks_12 (fun X C hcl hok hc had hR σ_4 hf => ?_)
  rw [← had 105 (by decide)]
  have h105 := hok 105 100 (by decide) h105
  rw [← had x0 (ok_ne hx0 (by decide))]
  have hx0 := hok x0 8 (ok_ne hx0 (by decide)) hx0
  have h106 : Ok (Xks X) 106 100 := hc
  refine J.astore (pc := 14) C (loc' := [(4, .ref (Xad X 106)), (3, .ref (Xad X 105)), (2, .int r_2), (0, .ref (Xad X x0)), (1, .int x1)]) dL_ticks_14 (by decide) rfl ?_
  refine J.iconst (pc := 16) C (v := 3) dL_ticks_16 (by decide) ?_
  refine J.newE (pc := 17) C hcl (hR) (c := 107) (N := 3) (a := 2 * w) (b := 6 * w) (by omega) (by omega) (Or.inl ⟨rfl, rfl⟩) (by decide) rfl (by decide) rfl ta_int rfl hf dL_ticks_17 (fun X C hcl hok hc had hR σ_5 hf => ?_)
  rw [← had 105 (by decide)]
  have h105 := hok 105 100 (by decide) h105
  rw [← had 106 (by decide)]
  have h106 := hok 106 100 (by decide) h106
  rw [← had x0 (ok_ne hx0 (by decide))]
  have hx0 := hok x0 8 (ok_ne hx0 (by decide)) hx0
  have h107 : Ok (Xks X) 107 100 := hc
  refine J.astore (pc := 19) C (loc' := [(5, .ref (Xad X 107)), (4, .ref (Xad X 106)), (3, .ref (Xad X 105)), (2, .int r_2), (0, .ref (Xad X x0)), (1, .int x1)]) dL_ticks_19 (by decide) rfl ?_
  refine J.iconst (pc := 21) C (v := 0) dL_ticks_21 (by decide) ?_
  refine J.istore (pc := 22) C (loc' := [(6, .int 0), (5, .ref (Xad X 107)), (4, .ref (Xad X 106)), (3, .ref (Xad X 105)), (2, .int r_2), (0, .ref (Xad X x0)), (1, .int x1)]) dL_ticks_22 (by decide) rfl ?_
  exact J.sub (loc' := [(0, .ref (Xad X x0)), (1, .int x1), (2, .int r_2), (3, .ref (Xad X 105)), (4, .ref (Xad X 106)), (5, .ref (Xad X 107)), (6, .int 0)]) [5, 6, 4, 3, 2, 1, 0] rfl (L24 σ_5 x1 r_2 0 _ hf hp X C hcl h105 h106 h107 hx0 (hR.mono (by omega) (by omega)))
