/-! THE LAW: its loop -/
theorem sc_end {i L : Nat} (hL : L ≤ 2048) (h : L ≤ i + 3) (h2 : i ≤ L + 4) : Int32.ofNat L - nI 4 < nI i := by
  rw [show Int32.ofNat L = nI L from rfl, lt_i, ti_sub (by rw [nI_toInt (by omega), nI_toInt (by omega)]; omega) (by rw [nI_toInt (by omega), nI_toInt (by omega)]; omega), nI_toInt (by omega), nI_toInt (by omega), nI_toInt (by omega)]
  omega
theorem sc_go {i L : Nat} (hL : L ≤ 2048) (h : i + 3 < L) : ¬ Int32.ofNat L - nI 4 < nI i := by
  rw [show Int32.ofNat L = nI L from rfl, lt_i, ti_sub (by rw [nI_toInt (by omega), nI_toInt (by omega)]; omega) (by rw [nI_toInt (by omega), nI_toInt (by omega)]; omega), nI_toInt (by omega), nI_toInt (by omega), nI_toInt (by omega)]
  omega
theorem sw_out {x : Int32} (h : ∀ v : Nat, v < 26 → ¬ x = nI v) : x.toInt < 0 ∨ 25 < x.toInt := by
  by_cases q : x.toInt < 0 ∨ 25 < x.toInt
  · exact q
  · exfalso
    exact h x.toInt.toNat (by omega) (eq_nI (by omega) (by omega))
/-- from the head of the loop: every round keeps what holds; at the end 1 is on the stack. F14, F15: the two rounds that answer a number with a point -/
theorem law_loop {Y : Drawn → Ctx} {G : Drawn → Prop} {b L : Nat} {xs : Nat → Int32} {rt : Option FieldType} (CC : ∀ d, G d → Cx (Y d) RL code 8 rt 9 326) (SS : ∀ d, G d → Sx (Y d) b L xs) (HH0 : ∀ d, G d → Ok (Xks (Y d)) 0 8) (HH9 : ∀ d, G d → Ok (Xks (Y d)) 105 9) (hL : L ≤ 2048)
    (F : ∀ pc, pc = 584 ∨ pc = 637 → ∀ (d : Drawn) (σ : Mem) (i : Nat), G d → Inv σ → i + 3 < L → (∀ d' σ', G d' → Inv σ' → J (Y d') 928 [(0, .ref b), (1, .ref (Xad (Y d') 0)), (2, .ref (Xad (Y d') 105)), (3, .int (nI i))] [] σ') → J (Y d) pc [(0, .ref b), (1, .ref (Xad (Y d) 0)), (2, .ref (Xad (Y d) 105)), (3, .int (nI i))] [] σ)
    (E : ∀ d σ i, G d → Inv σ → J (Y d) 935 [(0, .ref b), (1, .ref (Xad (Y d) 0)), (2, .ref (Xad (Y d) 105)), (3, .int (nI i))] [.int 1] σ) : ∀ (m i : Nat) (d : Drawn) (σ : Mem), L ≤ i + m → i ≤ L + 4 → G d → Inv σ → J (Y d) 18 [(0, .ref b), (1, .ref (Xad (Y d) 0)), (2, .ref (Xad (Y d) 105)), (3, .int (nI i))] [] σ := by
  intro m
  induction m with
  | zero =>
    intro i d σ h h4 hg hI
    have C := CC d hg
    have S := SS d hg
    have H0 := HH0 d hg
    have H9 := HH9 d hg
    refine J.iload_n C dL_18 rfl 3 rfl ?_
    refine J.aload_n C dL_19 rfl 0 rfl ?_
    refine J.slen C S dL_20 ?_
    refine J.iconst (v := nI 4) C dL_21 rfl ?_
    refine J.isub C dL_22 ?_
    refine J.icmp_gt (A := true) (B := false) (t := true) C dL_23 (tgt := 934) rfl (if_pos (sc_end hL (by omega) (by omega))) (fun _ => ?_) (fun h => Bool.noConfusion h)
    refine J.iconst (v := 1) C dL_934 rfl ?_
    exact E d σ i hg hI
  | succ m ih =>
    intro i d σ h h4 hg hI
    have C := CC d hg
    have S := SS d hg
    have H0 := HH0 d hg
    have H9 := HH9 d hg
    refine J.iload_n C dL_18 rfl 3 rfl ?_
    refine J.aload_n C dL_19 rfl 0 rfl ?_
    refine J.slen C S dL_20 ?_
    refine J.iconst (v := nI 4) C dL_21 rfl ?_
    refine J.isub C dL_22 ?_
    by_cases hi : i + 3 < L
    · refine J.icmp_gt (A := true) (B := false) (t := false) C dL_23 (tgt := 934) rfl (if_neg (sc_go hL hi)) (fun h => Bool.noConfusion h) (fun _ => ?_)
      have KK : ∀ d' σ', G d' → Inv σ' → J (Y d') 928 [(0, .ref b), (1, .ref (Xad (Y d') 0)), (2, .ref (Xad (Y d') 105)), (3, .int (nI i))] [] σ' := by
        intro d σ' hg hI'
        have C := CC d hg
        refine J.iinc (k := 3) (v := nI (i + 4)) C dL_928 rfl (by rw [show Int32.ofInt 4 = nI 4 from rfl, nI_add]) (by decide) (loc' := [(3, .int (nI (i + 4))), (0, .ref b), (1, .ref (Xad (Y d) 0)), (2, .ref (Xad (Y d) 105))]) rfl ?_
        refine J.goto C dL_931 (tgt := 18) rfl ?_
        refine J.sub [1, 2, 3, 0] rfl ?_
        exact ih (i + 4) d σ' (by omega) (by omega) hg hI'
      have K := fun σ' hI' => KK d σ' hg hI'
      refine J.aload_n C dL_26 rfl 0 rfl ?_
      refine J.iload_n C dL_27 rfl 3 rfl ?_
      refine J.sld C S (by have := sc_in (j := 0) hi hL (by decide); rw [nI_add] at this; exact this) dL_28 ?_
      refine J.bipush (v := 31) C dL_29 rfl ?_
      refine J.iand C dL_31 ?_
      generalize xs (nI i).toNatClampNeg &&& 31 = op
      refine J.tblIn (A := true) (B := false) (t := decide (op = 0)) C dL_32 0 (by by_cases q : op = 0 <;> simp [q]) (by decide) (by decide) (off := 120) rfl (tgt := 152) rfl (fun _ => ?_) (fun h0 _ => ?_)
      · exact law_0 C S H0 H9 hI hi hL K
      refine J.tblIn (A := true) (B := false) (t := decide (op = 1)) C dL_32 1 (by by_cases q : op = 1 <;> simp [q]) (by decide) (by decide) (off := 143) rfl (tgt := 175) rfl (fun _ => ?_) (fun h1 _ => ?_)
      · exact law_1 C S H0 H9 hI hi hL K
      refine J.tblIn (A := true) (B := false) (t := decide (op = 2)) C dL_32 2 (by by_cases q : op = 2 <;> simp [q]) (by decide) (by decide) (off := 186) rfl (tgt := 218) rfl (fun _ => ?_) (fun h2 _ => ?_)
      · exact law_2 C S H0 H9 hI hi hL K
      refine J.tblIn (A := true) (B := false) (t := decide (op = 3)) C dL_32 3 (by by_cases q : op = 3 <;> simp [q]) (by decide) (by decide) (off := 229) rfl (tgt := 261) rfl (fun _ => ?_) (fun h3 _ => ?_)
      · exact law_3 C S H0 H9 hI hi hL K
      refine J.tblIn (A := true) (B := false) (t := decide (op = 4)) C dL_32 4 (by by_cases q : op = 4 <;> simp [q]) (by decide) (by decide) (off := 262) rfl (tgt := 294) rfl (fun _ => ?_) (fun h4 _ => ?_)
      · exact law_4 C S H0 H9 hI hi hL K
      refine J.tblIn (A := true) (B := false) (t := decide (op = 5)) C dL_32 5 (by by_cases q : op = 5 <;> simp [q]) (by decide) (by decide) (off := 285) rfl (tgt := 317) rfl (fun _ => ?_) (fun h5 _ => ?_)
      · exact law_5 C S H0 H9 hI hi hL K
      refine J.tblIn (A := true) (B := false) (t := decide (op = 6)) C dL_32 6 (by by_cases q : op = 6 <;> simp [q]) (by decide) (by decide) (off := 328) rfl (tgt := 360) rfl (fun _ => ?_) (fun h6 _ => ?_)
      · exact law_6 C S H0 H9 hI hi hL K
      refine J.tblIn (A := true) (B := false) (t := decide (op = 7)) C dL_32 7 (by by_cases q : op = 7 <;> simp [q]) (by decide) (by decide) (off := 351) rfl (tgt := 383) rfl (fun _ => ?_) (fun h7 _ => ?_)
      · exact law_7 C S H0 H9 hI hi hL K
      refine J.tblIn (A := true) (B := false) (t := decide (op = 8)) C dL_32 8 (by by_cases q : op = 8 <;> simp [q]) (by decide) (by decide) (off := 384) rfl (tgt := 416) rfl (fun _ => ?_) (fun h8 _ => ?_)
      · exact law_8 C S H0 H9 hI hi hL K
      refine J.tblIn (A := true) (B := false) (t := decide (op = 9)) C dL_32 9 (by by_cases q : op = 9 <;> simp [q]) (by decide) (by decide) (off := 417) rfl (tgt := 449) rfl (fun _ => ?_) (fun h9 _ => ?_)
      · exact law_9 C S H0 H9 hI hi hL K
      refine J.tblIn (A := true) (B := false) (t := decide (op = 10)) C dL_32 10 (by by_cases q : op = 10 <;> simp [q]) (by decide) (by decide) (off := 450) rfl (tgt := 482) rfl (fun _ => ?_) (fun h10 _ => ?_)
      · exact law_10 C S H0 H9 hI hi hL K
      refine J.tblIn (A := true) (B := false) (t := decide (op = 11)) C dL_32 11 (by by_cases q : op = 11 <;> simp [q]) (by decide) (by decide) (off := 473) rfl (tgt := 505) rfl (fun _ => ?_) (fun h11 _ => ?_)
      · exact law_11 C S H0 H9 hI hi hL K
      refine J.tblIn (A := true) (B := false) (t := decide (op = 12)) C dL_32 12 (by by_cases q : op = 12 <;> simp [q]) (by decide) (by decide) (off := 486) rfl (tgt := 518) rfl (fun _ => ?_) (fun h12 _ => ?_)
      · exact law_12 C S H0 H9 hI hi hL K
      refine J.tblIn (A := true) (B := false) (t := decide (op = 13)) C dL_32 13 (by by_cases q : op = 13 <;> simp [q]) (by decide) (by decide) (off := 519) rfl (tgt := 551) rfl (fun _ => ?_) (fun h13 _ => ?_)
      · exact law_13 C S H0 H9 hI hi hL K
      refine J.tblIn (A := true) (B := false) (t := decide (op = 14)) C dL_32 14 (by by_cases q : op = 14 <;> simp [q]) (by decide) (by decide) (off := 552) rfl (tgt := 584) rfl (fun _ => ?_) (fun h14 _ => ?_)
      · exact F 584 (by decide) d σ i hg hI hi KK
      refine J.tblIn (A := true) (B := false) (t := decide (op = 15)) C dL_32 15 (by by_cases q : op = 15 <;> simp [q]) (by decide) (by decide) (off := 605) rfl (tgt := 637) rfl (fun _ => ?_) (fun h15 _ => ?_)
      · exact F 637 (by decide) d σ i hg hI hi KK
      refine J.tblIn (A := true) (B := false) (t := decide (op = 16)) C dL_32 16 (by by_cases q : op = 16 <;> simp [q]) (by decide) (by decide) (off := 646) rfl (tgt := 678) rfl (fun _ => ?_) (fun h16 _ => ?_)
      · exact law_16 C S H0 H9 hI hi hL K
      refine J.tblIn (A := true) (B := false) (t := decide (op = 17)) C dL_32 17 (by by_cases q : op = 17 <;> simp [q]) (by decide) (by decide) (off := 669) rfl (tgt := 701) rfl (fun _ => ?_) (fun h17 _ => ?_)
      · exact law_17 C S H0 H9 hI hi hL K
      refine J.tblIn (A := true) (B := false) (t := decide (op = 18)) C dL_32 18 (by by_cases q : op = 18 <;> simp [q]) (by decide) (by decide) (off := 712) rfl (tgt := 744) rfl (fun _ => ?_) (fun h18 _ => ?_)
      · exact law_18 C S H0 H9 hI hi hL K
      refine J.tblIn (A := true) (B := false) (t := decide (op = 19)) C dL_32 19 (by by_cases q : op = 19 <;> simp [q]) (by decide) (by decide) (off := 755) rfl (tgt := 787) rfl (fun _ => ?_) (fun h19 _ => ?_)
      · exact law_19 C S H0 H9 hI hi hL K
      refine J.tblIn (A := true) (B := false) (t := decide (op = 20)) C dL_32 20 (by by_cases q : op = 20 <;> simp [q]) (by decide) (by decide) (off := 778) rfl (tgt := 810) rfl (fun _ => ?_) (fun h20 _ => ?_)
      · exact law_20 C S H0 H9 hI hi hL K
      refine J.tblIn (A := true) (B := false) (t := decide (op = 21)) C dL_32 21 (by by_cases q : op = 21 <;> simp [q]) (by decide) (by decide) (off := 801) rfl (tgt := 833) rfl (fun _ => ?_) (fun h21 _ => ?_)
      · exact law_21 C S H0 H9 hI hi hL K
      refine J.tblIn (A := true) (B := false) (t := decide (op = 22)) C dL_32 22 (by by_cases q : op = 22 <;> simp [q]) (by decide) (by decide) (off := 814) rfl (tgt := 846) rfl (fun _ => ?_) (fun h22 _ => ?_)
      · exact law_22 C S H0 H9 hI hi hL K
      refine J.tblIn (A := true) (B := false) (t := decide (op = 23)) C dL_32 23 (by by_cases q : op = 23 <;> simp [q]) (by decide) (by decide) (off := 827) rfl (tgt := 859) rfl (fun _ => ?_) (fun h23 _ => ?_)
      · exact law_23 C S H0 H9 hI hi hL K
      refine J.tblIn (A := true) (B := false) (t := decide (op = 24)) C dL_32 24 (by by_cases q : op = 24 <;> simp [q]) (by decide) (by decide) (off := 850) rfl (tgt := 882) rfl (fun _ => ?_) (fun h24 _ => ?_)
      · exact law_24 C S H0 H9 hI hi hL K
      refine J.tblIn (A := true) (B := false) (t := decide (op = 25)) C dL_32 25 (by by_cases q : op = 25 <;> simp [q]) (by decide) (by decide) (off := 873) rfl (tgt := 905) rfl (fun _ => ?_) (fun h25 _ => ?_)
      · exact law_25 C S H0 H9 hI hi hL K
      refine J.tblOut C dL_32 (sw_out ?_) (tgt := 928) rfl (K σ hI)
      intro v hv e
      have hv : v < 26 := hv
      have : v = 0 ∨ v = 1 ∨ v = 2 ∨ v = 3 ∨ v = 4 ∨ v = 5 ∨ v = 6 ∨ v = 7 ∨ v = 8 ∨ v = 9 ∨ v = 10 ∨ v = 11 ∨ v = 12 ∨ v = 13 ∨ v = 14 ∨ v = 15 ∨ v = 16 ∨ v = 17 ∨ v = 18 ∨ v = 19 ∨ v = 20 ∨ v = 21 ∨ v = 22 ∨ v = 23 ∨ v = 24 ∨ v = 25 := by omega
      rcases this with q | q | q | q | q | q | q | q | q | q | q | q | q | q | q | q | q | q | q | q | q | q | q | q | q | q <;> subst q
      · exact h0 e
      · exact h1 e
      · exact h2 e
      · exact h3 e
      · exact h4 e
      · exact h5 e
      · exact h6 e
      · exact h7 e
      · exact h8 e
      · exact h9 e
      · exact h10 e
      · exact h11 e
      · exact h12 e
      · exact h13 e
      · exact h14 e
      · exact h15 e
      · exact h16 e
      · exact h17 e
      · exact h18 e
      · exact h19 e
      · exact h20 e
      · exact h21 e
      · exact h22 e
      · exact h23 e
      · exact h24 e
      · exact h25 e
    · refine J.icmp_gt (A := true) (B := false) (t := true) C dL_23 (tgt := 934) rfl (if_pos (sc_end hL (by omega) (by omega))) (fun _ => ?_) (fun h => Bool.noConfusion h)
      refine J.iconst (v := 1) C dL_934 rfl ?_
      exact E d σ i hg hI
