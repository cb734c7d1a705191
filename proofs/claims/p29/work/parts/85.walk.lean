/-! THE LAW'S FIRST STEPS -/
theorem first_lv {s1 : Mem} (h1 : FoF s1) : Lv (iniV 4 0) none none (mx s1 st0) := by
  obtain ⟨⟨a1, a25, a50, a75⟩, g49, g74, g99⟩ := h1
  have e : ∀ k, k < 105 → mx s1 st0 k = s1 k := fun k hk => mx_lo (by omega)
  have sh : ∀ b, SB b → ShF b (mx s1 st0) := by
    intro b hb
    rcases hb with rfl | rfl | rfl | rfl
    · exact ShF_shift a1 (fun i hi => e _ (by omega))
    · exact ShF_shift a25 (fun i hi => e _ (by omega))
    · exact ShF_shift a50 (fun i hi => e _ (by omega))
    · exact ShF_shift a75 (fun i hi => e _ (by omega))
  refine ⟨⟨vok_ini ⟨by omega, by omega⟩ (by omega), by show 0 ≤ 200000; omega, ?_⟩, fun b hb => (sh b hb).1, ⟨fun j _ => ⟨rfl, rfl, rfl⟩, fun j _ => ⟨rfl, rfl, rfl⟩, fun j _ => ⟨rfl, rfl, rfl⟩⟩, by rw [e 99 (by decide)]; exact g99, by show mx s1 st0 49 1 = 0; rw [e 49 (by decide)]; exact g49, by show mx s1 st0 74 1 = 0; rw [e 74 (by decide)]; exact g74, fun b hb _ => ⟨0, by omega, (sh b hb).2.2.2.2.2.2.2.2.2.2.1⟩⟩
  obtain ⟨-, a1, a2, a3, a4, a5, a6, a7, a8, a9, a10, a11⟩ := sh 1 SB1
  refine ⟨?_, ?_, ?_, ?_, ?_⟩
  · intro i hi
    have hi : i < 4 := hi
    obtain ⟨c6, c7, c8, c9, c10, c11⟩ := a4 i (by omega)
    refine ⟨fun j hj => ?_, c6, c7, c8, c9, c10, c11⟩
    rw [a1 i j (by omega) hj]
    unfold iniV
    rw [if_pos hj]
  · intro p hp
    obtain ⟨c1, c2, c3⟩ := a5 p hp
    refine ⟨fun j hj => ?_, c1, c2, c3⟩
    rw [a2 p j hp hj]
    unfold iniV
    rw [if_neg (by omega), if_pos (by omega), show 12 + j - 12 = j by omega]
  · exact ⟨a3, a6 0 (by decide), a6 1 (by decide), a6 2 (by decide), a6 3 (by decide), a7, a9, a8, a11, a10⟩
  · intro k hk
    have : k < 0 := hk
    omega
  · intro i t _ h
    have : t < 0 := h
    omega
set_option maxRecDepth 20000 in
theorem start_walk {X : CtxC} {b : Nat} {rt : Option FieldType} (C : CxC X RL code 6 rt 8 207 600000 7302249) (K : ∀ (ad : Nat → Nat) (σ : Mem), FoF σ → J (toJ X ad (List.range 105) 105 4284) 7 [(0, .ref b)] [.ref (mx ad (Ysd X) 0)] (mx σ st0)) : JC X 0 0 0 [(0, .ref b)] [] [] := by
  refine JC.new (pc := 0) C kcX8 tlL_9 tn_X8 tz_X8 [.null, .null, .null, .null, .null] (fun j hj => by rcases (show j = 0 ∨ j = 1 ∨ j = 2 ∨ j = 3 ∨ j = 4 by omega) with rfl | rfl | rfl | rfl | rfl <;> rfl) (Nat.le_of_ble_eq_true rfl) (Nat.le_of_ble_eq_true rfl) dL_law_0 (fun q8 => ?_)
  refine JC.dup (pc := 3) C dL_law_3 rfl ?_
  refine JC.mkI (pc := 4) C (kX8 (Yl X)) wyX8_init tiX8_init rfl tmL_11 [] [.ref q8] rfl rfl (Nat.le_of_ble_eq_true rfl) (Nat.le_of_ble_eq_true rfl) (Nat.le_of_ble_eq_true rfl) (Nat.le_of_ble_eq_true rfl) (Nat.le_of_ble_eq_true rfl) rfl dL_law_4 (fun blk hB => ?_)
  obtain ⟨a1, s1, ha1, hw1, hP1⟩ := hB
  subst hw1
  subst ha1
  refine JC.into (ad := a1) (σ := s1) (ks := List.range 105) C rfl ?_
  exact K a1 s1 hP1
