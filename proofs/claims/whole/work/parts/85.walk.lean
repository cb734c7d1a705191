/-! THE LAW'S FIRST STEPS -/
theorem first_of {s1 s2 : Mem} (h1 : FoF s1) (h2 : MoF s2) : First (mx (fun k => if k < 105 then s1 k else s2 k) st0) := by
  obtain ⟨⟨a1, a25, a50, a75⟩, g49, g74, g99⟩ := h1
  obtain ⟨r, g5, g0, g1⟩ := h2
  have e : ∀ k, k < 105 → mx (fun k => if k < 105 then s1 k else s2 k) st0 k = s1 k := fun k hk => by
    rw [mx_lo (by omega), if_pos hk]
  have e2 : ∀ k, 105 ≤ k → k < 112 → mx (fun k => if k < 105 then s1 k else s2 k) st0 k = s2 k := fun k hk hk2 => by
    rw [mx_lo hk2, if_neg (by omega)]
  have sh : ∀ b, SB b → ShF b (mx (fun k => if k < 105 then s1 k else s2 k) st0) := by
    intro b hb
    rcases hb with rfl | rfl | rfl | rfl
    · exact ShF_shift a1 (fun i hi => e _ (by omega))
    · exact ShF_shift a25 (fun i hi => e _ (by omega))
    · exact ShF_shift a50 (fun i hi => e _ (by omega))
    · exact ShF_shift a75 (fun i hi => e _ (by omega))
  refine ⟨fun b hb => (sh b hb).2, fun b hb => (sh b hb).1, ⟨fun j _ => ⟨rfl, rfl, rfl⟩, fun j _ => ⟨rfl, rfl, rfl⟩, fun j _ => ⟨rfl, rfl, rfl⟩⟩, ?_, ?_, ?_, ?_, ?_, ?_, ?_⟩
  · rw [e2 106 (by decide) (by decide)]; exact r
  · rw [e 49 (by decide)]; exact g49
  · rw [e 74 (by decide)]; exact g74
  · rw [e 99 (by decide)]; exact g99
  · rw [e2 105 (by decide) (by decide)]; exact g5
  · rw [e2 109 (by decide) (by decide)]; exact g0
  · rw [e2 109 (by decide) (by decide)]; exact g1
set_option maxRecDepth 20000 in
theorem start_walk {X : CtxC} {b : Nat} {rt : Option FieldType} (C : CxC X RL code 8 rt 9 326 600000 7302250) (K : ∀ (ad : Nat → Nat) (σ : Mem), First (mx σ st0) → J (toJ X ad (List.range 112) 112 8920) 18 [(0, .ref b), (1, .ref (mx ad (Ysd X) 0)), (2, .ref (mx ad (Ysd X) 105)), (3, .int (nI 0))] [] (mx σ st0)) : JC X 0 0 0 [(0, .ref b)] [] [] := by
  refine JC.new (pc := 0) C kcX8 tlL_7 tn_X8 tz_X8 [.null, .null, .null, .null, .null] (fun j hj => by rcases (show j = 0 ∨ j = 1 ∨ j = 2 ∨ j = 3 ∨ j = 4 by omega) with rfl | rfl | rfl | rfl | rfl <;> rfl) (Nat.le_of_ble_eq_true rfl) (Nat.le_of_ble_eq_true rfl) dL_0 (fun q8 => ?_)
  refine JC.dup (pc := 3) C dL_3 rfl ?_
  refine JC.mkI (pc := 4) C (kX8 (Yl X)) wyX8_init tiX8_init rfl tmL_9 [] [.ref q8] rfl rfl (Nat.le_of_ble_eq_true rfl) (Nat.le_of_ble_eq_true rfl) (Nat.le_of_ble_eq_true rfl) (Nat.le_of_ble_eq_true rfl) (Nat.le_of_ble_eq_true rfl) rfl dL_4 (fun blk hB => ?_)
  obtain ⟨a1, s1, ha1, hw1, hP1⟩ := hB
  subst hw1
  subst ha1
  refine JC.astore_n (pc := 7) (loc' := [(1, .ref (a1 0)), (0, .ref b)]) C dL_7 rfl (by decide) rfl ?_
  refine JC.new (pc := 8) C kcX9 tlL_10 tn_X9 tz_X9 [.null, .null, .null, .null, .null, .int 0, .int 0, .int 0, .null, .int 0] (fun j hj => by rcases (show j = 0 ∨ j = 1 ∨ j = 2 ∨ j = 3 ∨ j = 4 ∨ j = 5 ∨ j = 6 ∨ j = 7 ∨ j = 8 ∨ j = 9 by omega) with rfl | rfl | rfl | rfl | rfl | rfl | rfl | rfl | rfl | rfl <;> rfl) (Nat.le_of_ble_eq_true rfl) (Nat.le_of_ble_eq_true rfl) dL_8 (fun q9 => ?_)
  refine JC.dup (pc := 11) C dL_11 rfl ?_
  refine JC.mkI (pc := 12) C (kX9 (Yl X)) wyX9_init tiX9_init rfl tmL_12 [] [.ref q9] rfl rfl (Nat.le_of_ble_eq_true rfl) (Nat.le_of_ble_eq_true rfl) (Nat.le_of_ble_eq_true rfl) (Nat.le_of_ble_eq_true rfl) (Nat.le_of_ble_eq_true rfl) rfl dL_12 (fun blk hB => ?_)
  obtain ⟨a2, s2, ha2, hw2, hP2⟩ := hB
  subst hw2
  subst ha2
  refine JC.astore_n (pc := 15) (loc' := [(2, .ref (a2 105)), (1, .ref (a1 0)), (0, .ref b)]) C dL_15 rfl (by decide) rfl ?_
  refine JC.iconst (pc := 16) (v := nI 0) C dL_16 (by decide) ?_
  refine JC.istore_n (pc := 17) (loc' := [(3, .int (nI 0)), (2, .ref (a2 105)), (1, .ref (a1 0)), (0, .ref b)]) C dL_17 rfl (by decide) rfl ?_
  refine JC.into (ad := fun k => if k < 105 then a1 k else a2 k) (σ := fun k => if k < 105 then s1 k else s2 k) (ks := List.range 112) C rfl ?_
  exact J.sub [3, 2, 1, 0] rfl (K (fun k => if k < 105 then a1 k else a2 k) (fun k => if k < 105 then s1 k else s2 k) (first_of hP1 hP2))
