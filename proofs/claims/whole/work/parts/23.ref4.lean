/-! the reference's tick -/
theorem Ret_for2 {R : Type} {body : Mem × Int32 × Int32 → Option (R ⊕ (Mem × Int32 × Int32))} (e : Nat) (Inv : Nat → Int32 → Mem → Prop) {P : R → Prop} (hs : ∀ i v σ, i < e → Inv i v σ → Ret (body (σ, v, nI i)) (Lp P (fun s => ∃ v' σ', s = (σ', v', nI (i + 1)) ∧ Inv (i + 1) v' σ'))) (he : ∀ v σ, Inv e v σ → Ret (body (σ, v, nI e)) (Lp P (fun _ => False))) {n i : Nat} {v : Int32} {σ : Mem} (hi : i ≤ e) (hn : e < n) (h0 : Inv i v σ) : Ret (iter body n (σ, v, nI i)) P := by
  refine Ret_iter (fun m s => ∃ i v σ, m = e - i ∧ i ≤ e ∧ s = (σ, v, nI i) ∧ Inv i v σ) ?_ n (e - i) _ ⟨i, v, σ, rfl, hi, rfl, h0⟩ (by omega)
  rintro m s ⟨i, v, σ, rfl, hi, rfl, h⟩
  rcases Nat.lt_or_ge i e with q | q
  · refine Ret_mono (hs i v σ q h) ?_
    intro t ht
    cases t with
    | inl r => exact ht
    | inr s' =>
      obtain ⟨v', σ', e1, e2⟩ := ht
      exact ⟨e - (i + 1), by omega, i + 1, v', σ', rfl, by omega, e1, e2⟩
  · have : i = e := by omega
    subst this
    refine Ret_mono (he v σ h) ?_
    intro t ht
    cases t with
    | inl r => exact ht
    | inr s' => exact ht.elim
def T1 (V : Sh) : Sh := scaV (vrow V 6 (cmdV V)) (filtV V) (windV V).1 (windV V).2
def T2 (V : Sh) : Sh := vrow (T1 V) 7 (openV V)
def T3 (V : Sh) (p : Nat) : Sh := fun r c => if r = 14 ∧ c < p then runV V c else if r = 15 ∧ c < p then demV V c else if r = 16 ∧ c < p then V 16 c + (if runV V c < demV V c then 1 else 0) else T2 V r c
def T4 (V : Sh) (i : Nat) : Sh := fun r c => if r = 8 ∧ c < i then flowV V c else if r = 9 ∧ c < i then highV V c else if r = 10 ∧ c < i then driftV V c else if r = 11 ∧ c < i then max (V 11 c) (highV V c) else T3 V 3 r c
/-- the commands of this tick, kept -/
def Hn (V : Sh) (σ : Mem) (i : Nat) : Prop := ∀ j, j < i → σ 106 (144 + 64 * j + V 18 4 % 64) = nI (cmdV V j)
theorem tick233 {V : Sh} {σ σ0 : Mem} {n w : Nat} (hV : Vok V) (h : RrB (V 18 4) (V 18 5) (V 18 7) (T4 V (V 18 5)) (σ 106)) (hh : Hn V σ (V 18 5)) (ho : Only [106] σ0 σ) (hw : w = if wetV V = true then 1 else 0) : Ret (f_X9_makeTick_L233 n σ 105 (nI w) (nI (V 18 6)) 939) (fun σ' => RrA (tickV V) (σ' 106) ∧ Only [106] σ0 σ') := by
  have hM : V 18 5 ≤ 12 := by have := hV.2.2.1; unfold VokS at this; omega
  have hK : V 18 7 ≤ 60 := by have := hV.2.2.1; unfold VokS at this; omega
  have R := rr_sets h
  have r4 : σ 106 937 = nI (V 18 4) := R.2.2.2.2.2.2.2.2.2.2.1
  unfold f_X9_makeTick_L233
  rw [PM0, AM0, show ix 939 = 939 from rfl, show ix 937 = 937 from rfl, nI_add]
  refine Ret_chk (by decide) (Ret_nm ?_)
  have e1 := gst_self σ 106 939 (nI (V 18 6 + w))
  have o1 := ho.one (gst_only σ 106 939 (nI (V 18 6 + w)))
  generalize gst σ 106 939 (nI (V 18 6 + w)) = σ1 at e1 o1
  refine Ret_chk (by decide) (Ret_chk (by decide) (Ret_nm (Ret_some ⟨?_, o1.one (gst_only _ _ _ _)⟩)))
  rw [gst_self, e1, upd_n (by decide), r4, nI_1]
  obtain ⟨a1, a2, a3, a4, a5, a6⟩ := h
  refine ⟨?_, ?_, ?_, ?_, ?_, ?_⟩
  · intro i hi j hj
    have hi : i < V 18 5 := hi
    rw [upd_n (by omega), upd_n (by omega), a1 i hi j hj]
    have : j = 0 ∨ j = 1 ∨ j = 2 ∨ j = 3 ∨ j = 4 ∨ j = 5 ∨ j = 6 ∨ j = 7 ∨ j = 8 ∨ j = 9 ∨ j = 10 ∨ j = 11 := by omega
    rcases this with q | q | q | q | q | q | q | q | q | q | q | q <;> subst q <;> first | rfl | (unfold T4; simp [hi]; rfl)
  · intro p hp j hj
    rw [upd_n (by omega), upd_n (by omega), a2 p hp j hj]
    have : j = 0 ∨ j = 1 ∨ j = 2 ∨ j = 3 ∨ j = 4 := by omega
    rcases this with q | q | q | q | q <;> subst q <;> first | rfl | (unfold T4 T3; simp [hp]; rfl)
  · intro j hj
    rw [upd_n (by omega), upd_n (by omega), a3 j hj]
    rfl
  · intro j hj
    have : j = 0 ∨ j = 1 ∨ j = 2 ∨ j = 3 ∨ j = 4 ∨ j = 5 ∨ j = 6 ∨ j = 7 := by omega
    rcases this with q | q | q | q | q | q | q | q <;> subst q
    · rw [upd_n (by decide), upd_n (by decide), a4 0 (by decide)]; rfl
    · rw [upd_n (by decide), upd_n (by decide), a4 1 (by decide)]; rfl
    · rw [upd_n (by decide), upd_n (by decide), a4 2 (by decide)]; rfl
    · rw [upd_n (by decide), upd_n (by decide), a4 3 (by decide)]; rfl
    · rw [upd_s]; rfl
    · rw [upd_n (by decide), upd_n (by decide), a4 5 (by decide)]; rfl
    · rw [upd_n (by decide), upd_s, hw]; rfl
    · rw [upd_n (by decide), upd_n (by decide), a4 7 (by decide)]; rfl
  · intro k hk c hc
    have hk : k < V 18 7 := hk
    rw [upd_n (by omega), upd_n (by omega), a5 k hk c hc]
    have : c = 0 ∨ c = 1 ∨ c = 2 := by omega
    rcases this with q | q | q <;> subst q <;> rfl
  · intro i t hi h1 h2
    have hi : i < V 18 5 := hi
    have h1 : t < V 18 4 + 1 := h1
    have h2 : V 18 4 + 1 ≤ t + 50 := h2
    rw [upd_n (by omega), upd_n (by omega), tick_hist]
    by_cases e : t = V 18 4
    · rw [if_pos e, e]
      exact hh i hi
    · rw [if_neg e, a6 i t hi (by omega) (by omega)]
      unfold T4 T3 T2 T1 scaV vrow
      rw [if_neg (by omega), if_neg (by omega), if_neg (by omega), if_neg (by omega), if_neg (by omega), if_neg (by omega), if_neg (by omega), if_neg (by omega), if_neg (by omega), if_neg (by omega)]
theorem tick179 {V : Sh} {σ σ0 : Mem} {n : Nat} (hn : 60 < n) (hV : Vok V) (h : RrB (V 18 4) (V 18 5) (V 18 7) (T3 V 3) (σ 106)) (hh : Hn V σ (V 18 5)) (ho : Only [106] σ0 σ) : Ret (f_X9_makeTick_L179 n σ 105 0 0) (fun σ' => RrA (tickV V) (σ' 106) ∧ Only [106] σ0 σ') := by
  have hVV := hV
  obtain ⟨hN, hP, hS, hC, hH⟩ := hV
  have fl := (filt_eq hS).2
  obtain ⟨b0, b1, b2, b3, b4, b5, w0, w1, w2, w3, w4, w5, w6, w7, w8⟩ := hS
  unfold f_X9_makeTick_L179
  refine Ret_for2 (V 18 5) (fun i v σ' => v = nI (if anyV (fun i => decide (V 17 5 < driftV V i)) i = true then 1 else 0) ∧ RrB (V 18 4) (V 18 5) (V 18 7) (T4 V i) (σ' 106) ∧ Hn V σ' (V 18 5) ∧ Only [106] σ0 σ') ?_ ?_ (i := 0) (Nat.zero_le _) (by omega) ⟨rfl, by
    have e : T4 V 0 = T3 V 3 := by
      funext r c
      unfold T4
      rw [if_neg (by omega), if_neg (by omega), if_neg (by omega), if_neg (by omega)]
    rw [e]; exact h, hh, ho⟩
  · rintro i v σ' hi ⟨rfl, hR, hh', ho'⟩
    have r5 : σ' 106 938 = nI (V 18 5) := (rr_sets hR).2.2.2.2.2.2.2.2.2.2.2.1
    show Ret (f_X9_makeTick_B179 n σ' 105 _ (nI i)) _
    unfold f_X9_makeTick_B179
    rw [PM0, AM0, show ix 938 = 938 from rfl, r5]
    refine Ret_chk (by decide) (Ret_iteF (nI_ge hi (by omega)) ?_)
    obtain ⟨x0, x1, x2, x3, x4, x5, x6, x7, x8, x9, x10, x11⟩ := hN i hi
    have p4 : V 4 i < 3 := by omega
    have n11 : T4 V i 11 i = V 11 i := by unfold T4; simp; rfl
    refine Ret_bnd2 (stepNozzle_ok (W := T4 V i) (own := ownV V i) (D := demV V (V 4 i)) (f := runV V (V 4 i)) (fl := flowV V i) (hi := highV V i) (dr := driftV V i) (m := measV V) (sp := V 17 5) hR w5.2 hi ⟨x0, x1.2, x4, x5, openV_le hVV hi, by rw [n11]; exact x11⟩ fl rfl rfl b5 rfl (by show _ = T3 V 3 15 (V 4 i); unfold T3; simp [p4]) (by show _ = T3 V 3 14 (V 4 i); unfold T3; simp [p4]) (demV_le hVV _) (runV_le hVV p4) rfl rfl rfl) ?_
    rintro r8 σ8 ⟨e8, R8, o8, h8⟩
    have e8 : r8 = if V 17 5 < driftV V i then 1 else 0 := e8
    have S8 : RrB (V 18 4) (V 18 5) (V 18 7) (T4 V (i + 1)) (σ8 106) := by
      refine R8 _ ?_ ?_ ?_ ?_ ?_
      · unfold T4; simp
      · unfold T4; simp
      · unfold T4; simp
      · rw [n11]; unfold T4; simp
      · intro r c hrc
        unfold T4
        by_cases e : c < i
        · simp only [e, show c < i + 1 by omega]
        · by_cases e2 : c = i
          · rw [if_neg (by omega), if_neg (by omega), if_neg (by omega), if_neg (by omega), if_neg (by omega), if_neg (by omega), if_neg (by omega), if_neg (by omega)]
          · simp only [e, show ¬ c < i + 1 by omega]
    have H8 : Hn V σ8 (V 18 5) := fun j hj => (h8 _ (by omega)).trans (hh' j hj)
    have O8 := ho'.one o8
    have L203 : anyV (fun i => decide (V 17 5 < driftV V i)) (i + 1) = true → Ret (f_X9_makeTick_L203 n σ8 105 (nI i)) (Lp (fun σ' => RrA (tickV V) (σ' 106) ∧ Only [106] σ0 σ') (fun s => ∃ v' σ', s = (σ', v', nI (i + 1)) ∧ v' = nI (if anyV (fun i => decide (V 17 5 < driftV V i)) (i + 1) = true then 1 else 0) ∧ RrB (V 18 4) (V 18 5) (V 18 7) (T4 V (i + 1)) (σ' 106) ∧ Hn V σ' (V 18 5) ∧ Only [106] σ0 σ')) := by
      intro hany
      unfold f_X9_makeTick_L203
      refine Ret_nm ?_
      rw [nI_1]
      exact Ret_some ⟨1, σ8, rfl, by rw [if_pos hany]; rfl, S8, H8, O8⟩
    by_cases c : V 17 5 < driftV V i
    · rw [if_pos c] at e8
      subst e8
      refine Ret_iteF (by decide) (L203 ?_)
      show (anyV _ i || _) = true
      simp [c]
    · rw [if_neg c] at e8
      subst e8
      refine Ret_iteT rfl ?_
      by_cases a : anyV (fun i => decide (V 17 5 < driftV V i)) i = true
      · rw [if_pos a]
        refine Ret_iteF (show ¬ nI 1 = 0 by decide) (L203 ?_)
        show (anyV _ i || _) = true
        rw [a]; rfl
      · rw [if_neg a]
        refine Ret_iteT rfl (Ret_nm ?_)
        rw [nI_1]
        refine Ret_some ⟨0, σ8, rfl, ?_, S8, H8, O8⟩
        rw [if_neg]
        · rfl
        · show ¬ (anyV _ i || _) = true
          simp [c, a]
  · rintro v σ' ⟨rfl, hR, hh', ho'⟩
    have R := rr_sets hR
    have r5 : σ' 106 938 = nI (V 18 5) := R.2.2.2.2.2.2.2.2.2.2.2.1
    have r6 : σ' 106 939 = nI (V 18 6) := R.2.2.2.2.2.2.2.2.2.2.2.2.1
    show Ret (f_X9_makeTick_B179 n σ' 105 _ (nI (V 18 5))) _
    unfold f_X9_makeTick_B179
    rw [PM0, AM0, show ix 938 = 938 from rfl, show ix 939 = 939 from rfl, r5, r6]
    refine Ret_chk (by decide) (Ret_iteT (nI_le (Nat.le_refl _) (by omega)) (Ret_chk (by decide) ?_))
    by_cases a : anyV (fun i => decide (V 17 5 < driftV V i)) (V 18 5) = true
    · rw [if_pos a]
      exact Ret_iteF (show ¬ nI 1 = 0 by decide) (Ret_exi (tick233 (w := 1) hVV hR hh' ho' (by have : wetV V = true := a; rw [if_pos this])))
    · rw [if_neg a]
      exact Ret_iteT rfl (Ret_exi (tick233 (w := 0) hVV hR hh' ho' (by have : ¬ wetV V = true := a; rw [if_neg this])))
theorem tick159 {V : Sh} {σ σ0 : Mem} {n : Nat} (hn : 60 < n) (hV : Vok V) (h : RrB (V 18 4) (V 18 5) (V 18 7) (T2 V) (σ 106)) (hh : Hn V σ (V 18 5)) (ho : Only [106] σ0 σ) : Ret (f_X9_makeTick_L159 n σ 105 0) (fun σ' => RrA (tickV V) (σ' 106) ∧ Only [106] σ0 σ') := by
  have hVV := hV
  obtain ⟨hN, hP, hS, hC, hH⟩ := hV
  obtain ⟨b0, b1, b2, b3, b4, b5, w0, w1, w2, w3, w4, w5, w6, w7, w8⟩ := hS
  unfold f_X9_makeTick_L159
  refine Ret_for 3 (fun p σ' => RrB (V 18 4) (V 18 5) (V 18 7) (T3 V p) (σ' 106) ∧ Hn V σ' (V 18 5) ∧ Only [106] σ0 σ') ?_ ?_ (i := 0) (by decide) (by omega) ⟨by
    have e : T3 V 0 = T2 V := by
      funext r c
      unfold T3
      rw [if_neg (by omega), if_neg (by omega), if_neg (by omega)]
    rw [e]; exact h, hh, ho⟩
  · rintro p σ' hp ⟨hR, hh', ho'⟩
    show Ret (f_X9_makeTick_B159 n σ' 105 (nI p)) _
    unfold f_X9_makeTick_B159
    refine Ret_iteF (by rw [l_3]; exact nI_ge hp (by decide)) ?_
    obtain ⟨y0, y1, y2, y3, y4⟩ := hP p hp
    have n14 : T3 V p 14 p = V 14 p := by unfold T3; simp; rfl
    have n16 : T3 V p 16 p = V 16 p := by unfold T3; simp; rfl
    refine Ret_bnd (stepPump_ok (W := T3 V p) (dem := demV V p) (run := runV V p) hR w5.2 rfl (by omega) hp (fun i hi => ⟨openV_le hVV hi, (hN i hi).1.2, (hN i hi).2.2.2.2.1⟩) ⟨y0, y1.2, by rw [n14]; exact y2, by rw [n16]; omega⟩ rfl (by rw [n14]; rfl)) ?_
    rintro σ1 ⟨R1, o1, h1⟩
    refine Ret_nm ?_
    rw [nI_1]
    refine Ret_some ⟨_, rfl, ?_, fun j hj => by rw [h1 _ (by omega)]; exact hh' j hj, ho'.one o1⟩
    refine R1 _ ?_ ?_ ?_ ?_
    · unfold T3; simp
    · unfold T3; simp
    · rw [n16]; unfold T3; simp
    · intro r c hrc
      unfold T3
      by_cases e : c < p
      · simp only [e, show c < p + 1 by omega]
      · by_cases e2 : c = p
        · rw [if_neg (by omega), if_neg (by omega), if_neg (by omega), if_neg (by omega), if_neg (by omega), if_neg (by omega)]
        · simp only [e, show ¬ c < p + 1 by omega]
  · rintro σ' ⟨hR, hh', ho'⟩
    show Ret (f_X9_makeTick_B159 n σ' 105 (nI 3)) _
    unfold f_X9_makeTick_B159
    exact Ret_iteT (by decide) (Ret_exi (tick179 hn hVV hR hh' ho'))
theorem tick59 {V : Sh} {σ σ0 : Mem} {n : Nat} (hn : 60 < n) (hV : Vok V) (h : RrB (V 18 4) (V 18 5) (V 18 7) (T1 V) (σ 106)) (ho : Only [106] σ0 σ) : Ret (f_X9_makeTick_L59 n σ 105 0) (fun σ' => RrA (tickV V) (σ' 106) ∧ Only [106] σ0 σ') := by
  have hVV := hV
  obtain ⟨hN, hP, hS, hC, hH⟩ := hV
  have hw := windV_le hS
  obtain ⟨b0, b1, b2, b3, b4, b5, w0, w1, w2, w3, w4, w5, w6, w7, w8⟩ := hS
  unfold f_X9_makeTick_L59
  refine Ret_for (V 18 5) (fun i σ' => RrB (V 18 4) (V 18 5) (V 18 7) (vcut (T1 V) 7 (openV V) i) (σ' 106) ∧ Hn V σ' i ∧ Only [106] σ0 σ') ?_ ?_ (i := 0) (Nat.zero_le _) (by omega) ⟨by rw [vcut_0]; exact h, fun j hj => by omega, ho⟩
  · rintro i σ' hi ⟨hR, hh', ho'⟩
    obtain ⟨x0, x1, x2, x3, x4, x5, x6, x7, -⟩ := hN i hi
    have R := rr_sets hR
    have r4 : σ' 106 937 = nI (V 18 4) := R.2.2.2.2.2.2.2.2.2.2.1
    have r5 : σ' 106 938 = nI (V 18 5) := R.2.2.2.2.2.2.2.2.2.2.2.1
    have n6 : σ' 106 (12 * i + 6) = nI (cmdV V i) := hR.1 i hi 6 (by decide)
    have hm : V 18 4 % 64 < 64 := Nat.mod_lt _ (by decide)
    show Ret (f_X9_makeTick_B59 n σ' 105 (nI i)) _
    unfold f_X9_makeTick_B59
    rw [PM0, AM0, show ix 938 = 938 from rfl, show ix 937 = 937 from rfl, r5, r4]
    refine Ret_chk (by decide) (Ret_iteF (nI_ge hi (by omega)) (Ret_chk (by decide) ?_))
    rw [l_12, l_144, l_64, l_6, l_7, l_3, nI_mul, nI_mul, nI_add, nI_add, nI_add, nI_add, irm_nI (by omega) (by decide) (by decide), nI_add, ix_nI (by omega), ix_nI (by omega), n6]
    refine Ret_chk (ckI_nI (by omega) (by decide)) (Ret_chk (ckI_nI (by omega) (by decide)) (Ret_nm ?_))
    have R1 : RrB (V 18 4) (V 18 5) (V 18 7) (vcut (T1 V) 7 (openV V) i) (gst σ' 106 (144 + 64 * i + V 18 4 % 64) (nI (cmdV V i)) 106) := by
      rw [gst_self]
      exact rr_his hR w5.2 hi
    have H1 : Hn V (gst σ' 106 (144 + 64 * i + V 18 4 % 64) (nI (cmdV V i))) (i + 1) := by
      intro j hj
      rw [gst_self]
      by_cases e : j = i
      · subst e; rw [upd_s]
      · rw [upd_n (by omega)]; exact hh' j (by omega)
    have O1 := ho'.one (gst_only σ' 106 (144 + 64 * i + V 18 4 % 64) (nI (cmdV V i)))
    generalize gst σ' 106 (144 + 64 * i + V 18 4 % 64) (nI (cmdV V i)) = σ1 at R1 H1 O1
    have Q := rr_sets R1
    have q4 : σ1 106 937 = nI (V 18 4) := Q.2.2.2.2.2.2.2.2.2.2.1
    have q2 : σ1 106 935 = nI (windV V).1 := Q.2.2.2.2.2.2.2.2.1
    have q0 : σ1 106 930 = nI (V 17 3) := Q.2.2.2.1
    have m2 : σ1 106 (12 * i + 2) = nI (V 2 i) := R1.1 i hi 2 (by decide)
    have m3 : σ1 106 (12 * i + 3) = nI (V 3 i) := R1.1 i hi 3 (by decide)
    have m7 : σ1 106 (12 * i + 7) = nI (V 7 i) := by
      have := R1.1 i hi 7 (by decide)
      rw [vcut_at (Nat.le_refl i)] at this
      exact this
    have hg : ∀ t', t' ≤ V 18 4 → V 18 4 ≤ t' + 50 → σ1 106 (144 + 64 * i + t' % 64) = nI (histV V t' i) := by
      intro t' g1 g2
      unfold histV
      by_cases e : t' = V 18 4
      · rw [if_pos e, e]; exact H1 i (by omega)
      · rw [if_neg e, R1.2.2.2.2.2 i t' hi (by omega) g2]
        unfold vcut T1 scaV vrow
        rw [if_neg (by omega), if_neg (by omega), if_neg (by omega)]
    have hgl := goal0_le hVV hi
    refine Ret_chk (ckI_nI (by omega) (by decide)) (Ret_bndE (goal9_ok (g := fun t' => histV V t' i) (by omega) w4 x2 hw.1 b3 q4 m2 q2 q0 hg (fun _ => Or.inr trivial) hgl) ?_)
    have hgo : goalX (windV V).1 (V 17 3) (if V 2 i ≤ V 18 4 then histV V (V 18 4 - V 2 i) i else 0) = goalV V i := rfl
    have hgo2 : goalV V i ≤ 1000 := goalX_le hgl
    rw [hgo, ix_nI (by omega), ix_nI (by omega), m3, m7]
    refine Ret_chk (ckI_nI (by omega) (by decide)) (Ret_bndE (tow_X9 (by omega) (by omega) (by omega)) (Ret_chk (ckI_nI (by omega) (by decide)) (Ret_nm (Ret_nm ?_))))
    rw [nI_1]
    refine Ret_some ⟨_, rfl, ?_, ?_, O1.one (gst_only _ _ _ _)⟩
    · rw [gst_self]
      exact rr_noz R1 w5.2 hi (by decide) (vcut_new _ _ _ _) (vcut_same _ _ _ _)
    · intro j hj
      rw [gst_self, upd_n (by omega)]
      exact H1 j hj
  · rintro σ' ⟨hR, hh', ho'⟩
    have r5 : σ' 106 938 = nI (V 18 5) := (rr_sets hR).2.2.2.2.2.2.2.2.2.2.2.1
    show Ret (f_X9_makeTick_B59 n σ' 105 (nI (V 18 5))) _
    unfold f_X9_makeTick_B59
    rw [PM0, AM0, show ix 938 = 938 from rfl, r5]
    exact Ret_chk (by decide) (Ret_iteT (nI_le (Nat.le_refl _) (by omega)) (Ret_exi (tick159 hn hVV (vcut_end (by decide) hR) hh' ho')))
theorem ofCue_ok {T M K : Nat} {V : Sh} {σ : Mem} {k c : Nat} (h : RrB T M K V (σ 106)) (hK : K ≤ 60) (hk : k < K) (hc : c < 3) : f_X9_ofCue σ 105 (nI k) (nI c) = some (nI (V (19 + c) k)) := by
  unfold f_X9_ofCue
  rw [PM0, AM0, show (941 : Int32) = nI 941 from rfl, l_3, nI_mul, nI_add, nI_add, ckI_nI (by omega) (by decide), ix_nI (by omega), h.2.2.2.2.1 k hk c hc]
  rfl
theorem tickR {V : Sh} {σ : Mem} {n : Nat} (hn : 60 < n) (hV : Vok V) (h : RrA V (σ 106)) : Ret (f_X9_makeTick n σ 105) (fun σ' => RrA (tickV V) (σ' 106) ∧ Only [106] σ σ') := by
  have hVV := hV
  obtain ⟨hN, hP, hS, hC, hH⟩ := hV
  have hSS := hS
  obtain ⟨b0, b1, b2, b3, b4, b5, w0, w1, w2, w3, w4, w5, w6, w7, w8⟩ := hS
  unfold f_X9_makeTick f_X9_makeTick_L2
  refine Ret_for (V 18 7) (fun k σ' => RrB (V 18 4) (V 18 5) (V 18 7) (vrow V 6 (carryV V k)) (σ' 106) ∧ Only [106] σ σ') ?_ ?_ (i := 0) (Nat.zero_le _) (by omega) ⟨by
    have e : vrow V 6 (carryV V 0) = V := by
      funext r c
      unfold vrow
      by_cases q : r = 6
      · subst q; rw [if_pos rfl]; rfl
      · rw [if_neg q]
    rw [e]; exact h, fun _ _ => rfl⟩
  · rintro k σ' hk ⟨hR, ho⟩
    have R := rr_sets hR
    have r4 : σ' 106 937 = nI (V 18 4) := R.2.2.2.2.2.2.2.2.2.2.1
    have r7 : σ' 106 940 = nI (V 18 7) := R.2.2.2.2.2.2.2.2.2.2.2.2.2
    obtain ⟨c1, c2, c3⟩ := hC.1 k hk
    show Ret (f_X9_makeTick_B2 n σ' 105 (nI k)) _
    unfold f_X9_makeTick_B2
    rw [PM0, AM0, show ix 940 = 940 from rfl, show ix 937 = 937 from rfl, r4, r7, l_0, l_1, l_2]
    refine Ret_chk (by decide) (Ret_iteF (nI_ge hk (by omega)) (Ret_bndE (ofCue_ok hR w7 hk (by decide)) (Ret_chk (by decide) ?_)))
    show Ret (if nI (V 19 k) = nI (V 18 4) then _ else _) _
    by_cases e : V 19 k = V 18 4
    · refine Ret_iteT (by rw [e]) (Ret_bndE (ofCue_ok hR w7 hk (by decide)) (Ret_bndE (ofCue_ok hR w7 hk (by decide)) ?_))
      refine Ret_bnd (carryOut9_ok hR w5.2 rfl (by omega) c2) ?_
      rintro σ1 ⟨R1, o1⟩
      refine Ret_nm ?_
      rw [nI_add]
      refine Ret_some ⟨_, rfl, ?_, ho.one o1⟩
      have q : vrow (vrow V 6 (carryV V k)) 6 (obeyV (vrow V 6 (carryV V k) 6) (vrow V 6 (carryV V k) (19 + 1) k) (vrow V 6 (carryV V k) (19 + 2) k)) = vrow V 6 (carryV V (k + 1)) := by
        rw [vrow_vrow, vrow_s]
        congr 1
        show obeyV (carryV V k) (V 20 k) (V 21 k) = if V 19 k = V 18 4 then obeyV (carryV V k) (V 20 k) (V 21 k) else carryV V k
        rw [if_pos e]
      rw [← q]
      exact R1
    · refine Ret_iteF (fun z => e (nI_inj (by omega) (by omega) z)) (Ret_nm ?_)
      rw [nI_add]
      refine Ret_some ⟨_, rfl, ?_, ho⟩
      have q : carryV V (k + 1) = carryV V k := by
        show (if V 19 k = V 18 4 then obeyV (carryV V k) (V 20 k) (V 21 k) else carryV V k) = carryV V k
        rw [if_neg e]
      rw [q]
      exact hR
  · rintro σ' ⟨hR, ho⟩
    have r7 : σ' 106 940 = nI (V 18 7) := (rr_sets hR).2.2.2.2.2.2.2.2.2.2.2.2.2
    show Ret (f_X9_makeTick_B2 n σ' 105 (nI (V 18 7))) _
    unfold f_X9_makeTick_B2
    rw [PM0, AM0, show ix 940 = 940 from rfl, r7]
    refine Ret_chk (by decide) (Ret_iteT (nI_le (Nat.le_refl _) (by omega)) ?_)
    refine Ret_bnd (stepWind_ok (V := vrow V 6 (cmdV V)) hR w5.2 hSS) ?_
    rintro σ1 ⟨R1, o1⟩
    exact Ret_exi (tick59 hn hVV R1 (ho.one o1))
