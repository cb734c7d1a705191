/-! THE CLASS'S TICK, method by method -/
theorem xor_nn {a b : Nat} (ha : a < 2 ^ 31) (hb : b < 2 ^ 31) : 0 ≤ (nI a ^^^ nI b) := by
  have h2 : ∀ z : Int32, (0 ≤ z.toInt) ↔ z.toBitVec.msb = false := by
    intro z
    rw [BitVec.msb_eq_toInt]
    constructor
    · intro h; exact decide_eq_false (by show ¬ z.toInt < 0; omega)
    · intro h; have := of_decide_eq_false h; have : ¬ z.toInt < 0 := this; omega
  rw [le_i, Int32.toInt_zero, h2, Int32.toBitVec_xor, BitVec.msb_xor, (h2 (nI a)).mp (by rw [nI_toInt ha]; omega), (h2 (nI b)).mp (by rw [nI_toInt hb]; omega)]
  rfl
theorem rowOf_ok {t : Nat} (ht : t < 2 ^ 31) : f_X1_rowOf (nI t) = some (nI (12 * (t % 51))) := by
  unfold f_X1_rowOf f_J9_floorMod_7cf53 nm
  rw [show (51 : Int32) = nI 51 from rfl, show decide (¬ nI 51 = 0) = true from rfl]
  show bnd (if 0 ≤ (nI t ^^^ nI 51) then some (irm (nI t) (nI 51)) else _) _ = _
  rw [if_pos (xor_nn ht (by decide)), irm_nI ht (by decide) (by decide)]
  show some (nI (t % 51) * nI 12) = _
  rw [nI_mul, Nat.mul_comm]
theorem cmdAt_ok {b : Nat} (hb : SB b) {σ : Mem} {t lag i : Nat} {g : Nat → Nat} (ht : t ≤ 2000000) (hl : lag ≤ 50) (hi : i < 12) (hH : ∀ t', t' ≤ t → t ≤ t' + 50 → σ (b + 12) (12 * (t' % 51) + i) = nI (g t')) : f_X1_commandAt σ (b + 3) (nI t - nI lag) (nI i) = some (nI (if lag ≤ t then g (t - lag) else 0)) := by
  unfold f_X1_commandAt
  by_cases h : lag ≤ t
  · have hm : (t - lag) % 51 < 51 := Nat.mod_lt _ (by decide)
    rw [nI_sub h, if_pos (nI_pos' (by omega)), if_pos h, rowOf_ok (by omega)]
    show chk (ckI (nI (12 * ((t - lag) % 51)) + nI i) (alen (ptr (b + 3) 7))) _ = _
    rw [P3_7 hb, A12 hb, nI_add, ckI_nI (by omega) (by decide)]
    show some (σ (b + 12) (ix (nI (12 * ((t - lag) % 51) + i)))) = _
    rw [ix_nI (by omega), hH _ (by omega) (by omega)]
  · have hs := pk_sneg (a := t) (b := lag) (by omega) (by omega)
    rw [if_neg (by rw [le_i]; rw [lt_i] at hs; rw [Int32.toInt_zero] at *; omega), if_neg h]
    rfl
def goalX (st cut g : Nat) : Nat := if st = 1 then min g cut else if st = 2 then 0 else g
theorem goalX_le {st cut g : Nat} (h : g ≤ 1000) : goalX st cut g ≤ 1000 := by unfold goalX; split <;> (try split) <;> omega
theorem maxV_le {f : Nat → Nat} {a m : Nat} : ∀ {n : Nat}, a ≤ m → (∀ i, i < n → f i ≤ m) → maxV f a n ≤ m
  | 0, h, _ => h
  | n + 1, h, hf => by
    have := maxV_le (n := n) h (fun i hi => hf i (by omega))
    have := hf n (by omega)
    show max (maxV f a n) (f n) ≤ m
    omega
theorem openL_ok {b : Nat} (hb : SB b) {σ : Mem} {n t st cut i v op sp : Nat} (hi : i < 12) (hv : v ≤ 1000) (ho : op ≤ 1000) (hs : sp ≤ 1000) (h7 : σ (b + 7) i = nI op) (h5 : σ (b + 5) (6 * i + 3) = nI sp) : f_X1_open_L69 n σ (b + 3) (nI t) (nI st) (nI cut) (nI i) (nI v) = some (.inr (gst σ (b + 7) i (nI (tow op v sp)), nI (i + 1))) := by
  unfold f_X1_open_L69
  rw [P3_2 hb, A7 hb, P3_0 hb, ckI_nI hi (by decide), show (3 : Int32) = nI 3 from rfl, val_noz hb hi (by decide), h5, ix_nI (by omega), h7]
  show bnd (f_X8_toward (nI op) (nI v) (nI sp)) _ = _
  rw [tow_X8 (by omega) (by omega) (by omega)]
  show some (Sum.inr (gst σ (b + 7) i (nI (tow op v sp)), nI i + 1)) = _
  rw [nI_1]
theorem open_ok {b : Nat} (hb : SB b) {V : Sh} {σ : Mem} {n t st cut cnt G : Nat} {g : Nat → Nat → Nat} {g0 : Nat → Nat} (hn : 12 < n) (hcnt : cnt ≤ 12) (ht : t ≤ 2000000) (hst : st ≤ 2) (hcut : cut ≤ 1000) (hG : G ≤ 1000) (h8 : σ (b + 3) 8 = nI cnt) (h9 : σ (b + 3) 9 = nI G) (hS : ∀ i, i < cnt → ∀ j, j < 6 → σ (b + 5) (6 * i + j) = nI (V j i)) (hV : ∀ i, i < cnt → V 2 i ≤ 50 ∧ V 3 i ≤ 1000 ∧ V 7 i ≤ 1000) (hO : ∀ i, i < cnt → σ (b + 7) i = nI (V 7 i)) (hH : ∀ i t', i < cnt → t' ≤ t → t ≤ t' + 50 → σ (b + 12) (12 * (t' % 51) + i) = nI (g t' i)) (hg0 : ∀ i, i < cnt → g0 i = if V 2 i ≤ t then g (t - V 2 i) i else 0) (hg1 : ∀ i, i < cnt → g0 i ≤ 1000) :
    Ret (f_X1_open n σ (b + 3) (nI t) (nI st) (nI cut)) (fun σ' => Only [b + 7, b + 3] σ σ' ∧ (∀ j, j ≠ 9 → σ' (b + 3) j = σ (b + 3) j) ∧ σ' (b + 3) 9 = nI (if st = 1 then maxV g0 G cnt else G) ∧ ∀ i, i < cnt → σ' (b + 7) i = nI (tow (V 7 i) (goalX st cut (g0 i)) (V 3 i))) := by
  unfold f_X1_open f_X1_open_L3
  refine Ret_for cnt (fun i σ' => Only [b + 7, b + 3] σ σ' ∧ (∀ j, j ≠ 9 → σ' (b + 3) j = σ (b + 3) j) ∧ σ' (b + 3) 9 = nI (if st = 1 then maxV g0 G i else G) ∧ (∀ j, j < i → σ' (b + 7) j = nI (tow (V 7 j) (goalX st cut (g0 j)) (V 3 j))) ∧ (∀ j, i ≤ j → σ' (b + 7) j = σ (b + 7) j)) ?_ ?_ (i := 0) (Nat.zero_le _) (by omega) ⟨fun _ _ => rfl, fun _ _ => rfl, by rw [h9]; unfold maxV; split <;> rfl, fun j h => by omega, fun j _ => rfl⟩
  · rintro i σ' hi ⟨ho, h3, hg, hlt, hge⟩
    show Ret (f_X1_open_B3 n σ' (b + 3) (nI t) (nI st) (nI cut) (nI i)) _
    obtain ⟨v2, v3, v7⟩ := hV i hi
    have hg1i := hg1 i hi
    have e8 : σ' (b + 3) 8 = nI cnt := by rw [h3 8 (by decide), h8]
    have e5 : σ' (b + 5) = σ (b + 5) := ho _ (by simp)
    have e12 : σ' (b + 12) = σ (b + 12) := ho _ (by simp)
    have e7 : σ' (b + 7) i = nI (V 7 i) := by rw [hge i (Nat.le_refl i), hO i hi]
    have hml : maxV g0 G i ≤ 1000 := maxV_le hG (fun j hj => hg1 j (by omega))
    unfold f_X1_open_B3
    refine Ret_iteF (by rw [e8]; exact nI_ge hi (by omega)) ?_
    rw [P3_0 hb]
    refine Ret_bndE (val_noz hb (by omega) (j := 2) (by decide)) ?_
    rw [e5, hS i hi 2 (by decide)]
    refine Ret_bndE (cmdAt_ok hb (g := fun t' => g t' i) ht v2 (by omega) (fun t' q1 q2 => by rw [e12]; exact hH i t' hi q1 q2)) ?_
    rw [← hg0 i hi]
    have fin : ∀ σ1 : Mem, ∀ v, v = goalX st cut (g0 i) → σ1 (b + 7) = σ' (b + 7) → σ1 (b + 5) = σ (b + 5) → Only [b + 7, b + 3] σ σ1 → (∀ j, j ≠ 9 → σ1 (b + 3) j = σ (b + 3) j) → σ1 (b + 3) 9 = nI (if st = 1 then maxV g0 G (i + 1) else G) → Ret (f_X1_open_L69 n σ1 (b + 3) (nI t) (nI st) (nI cut) (nI i) (nI v)) (Lp (fun σ' => Only [b + 7, b + 3] σ σ' ∧ (∀ j, j ≠ 9 → σ' (b + 3) j = σ (b + 3) j) ∧ σ' (b + 3) 9 = nI (if st = 1 then maxV g0 G cnt else G) ∧ ∀ i, i < cnt → σ' (b + 7) i = nI (tow (V 7 i) (goalX st cut (g0 i)) (V 3 i))) (fun s => ∃ σ', s = (σ', nI (i + 1)) ∧ Only [b + 7, b + 3] σ σ' ∧ (∀ j, j ≠ 9 → σ' (b + 3) j = σ (b + 3) j) ∧ σ' (b + 3) 9 = nI (if st = 1 then maxV g0 G (i + 1) else G) ∧ (∀ j, j < i + 1 → σ' (b + 7) j = nI (tow (V 7 j) (goalX st cut (g0 j)) (V 3 j))) ∧ (∀ j, i + 1 ≤ j → σ' (b + 7) j = σ (b + 7) j))) := by
      intro σ1 v hv a7 a5 aO a3 a9
      refine Ret_of (openL_ok hb (by omega) (by rw [hv]; exact goalX_le hg1i) v7 v3 (by rw [a7, e7]) (by rw [a5]; exact hS i hi 3 (by decide))) ?_
      refine ⟨_, rfl, ?_, ?_, ?_, ?_, ?_⟩
      · intro a ha
        rw [gst_row (by intro e; subst e; simp at ha)]
        exact aO a ha
      · intro j hj
        rw [gst_row (by omega)]
        exact a3 j hj
      · rw [gst_row (by omega)]
        exact a9
      · intro j hj
        rw [gst_at]
        by_cases e : j = i
        · subst e; simp [hv]
        · rw [if_neg (by simp [e]), a7]; exact hlt j (by omega)
      · intro j hj
        rw [gst_at, if_neg (by intro q; omega), a7]
        exact hge j (by omega)
    by_cases s1 : st = 1
    · refine Ret_iteT (by rw [s1]; rfl) ?_
      refine Ret_nm (Ret_nm ?_)
      rw [hg, if_pos s1, mxI_n (by omega) (by omega), mnI_n (by omega) (by omega)]
      refine fin _ _ (by unfold goalX; rw [if_pos s1]) (gst_row (by omega)) (by rw [gst_row (by omega)]; exact e5) ?_ ?_ ?_
      · intro a ha
        rw [gst_row (by intro e; subst e; simp at ha)]
        exact ho a ha
      · intro j hj
        rw [gst_at, if_neg (by intro q; exact hj q.2)]
        exact h3 j hj
      · rw [gst_at, if_pos ⟨rfl, rfl⟩, if_pos s1]
        rfl
    · refine Ret_iteF (by intro q; exact s1 (nI_inj (by omega) (by decide) (q.trans (show (1 : Int32) = nI 1 from rfl)))) ?_
      by_cases s2 : st = 2
      · refine Ret_iteT (by rw [s2]; rfl) ?_
        exact fin σ' 0 (by unfold goalX; rw [if_neg s1, if_pos s2]) rfl e5 ho h3 (by rw [hg, if_neg s1, if_neg s1])
      · refine Ret_iteF (by intro q; exact s2 (nI_inj (by omega) (by decide) (q.trans (show (2 : Int32) = nI 2 from rfl)))) ?_
        exact fin σ' (g0 i) (by unfold goalX; rw [if_neg s1, if_neg s2]) rfl e5 ho h3 (by rw [hg, if_neg s1, if_neg s1])
  · rintro σ' ⟨ho, h3, hg, hlt, hge⟩
    show Ret (f_X1_open_B3 n σ' (b + 3) (nI t) (nI st) (nI cut) (nI cnt)) _
    unfold f_X1_open_B3
    refine Ret_iteT (by rw [h3 8 (by decide), h8]; exact nI_le (Nat.le_refl _) (by omega)) ?_
    exact Ret_some ⟨ho, h3, hg, hlt⟩
/-- bit i of a set -/
theorem bit_at {s i : Nat} (hs : s < 2 ^ 31) (hi : i < 32) : (nI s >>> (nI i &&& 31)) &&& 1 = if s.testBit i = true then 1 else 0 := by
  have h31 : nI i &&& 31 = nI i := by
    have := pk_andN (n := i) (by omega) (m := 31) 5 (by decide)
    rw [this, Nat.mod_eq_of_lt hi]
  rw [h31]
  have hsm : ((nI i).toBitVec.smod 32).toNat = i := by
    have : ∀ i, i < 32 → ((nI i).toBitVec.smod 32).toNat = i := by decide +kernel
    exact this i hi
  rw [pk_shrN hs (nI i) i hsm]
  have := pk_andN (n := s / 2 ^ i) (Nat.lt_of_le_of_lt (Nat.div_le_self _ _) (by omega)) (m := 1) 1 (by decide)
  rw [this, Nat.testBit_eq_decide_div_mod_eq]
  rcases Nat.mod_two_eq_zero_or_one (s / 2 ^ i) with e | e
  · rw [show s / 2 ^ i % 2 ^ 1 = 0 by rw [Nat.pow_one]; exact e]
    simp [e, nI]
  · rw [show s / 2 ^ i % 2 ^ 1 = 1 by rw [Nat.pow_one]; exact e]
    simp [e, nI]
theorem obey_ok {b : Nat} (hb : SB b) {σ : Mem} {n s v cnt : Nat} {c : Nat → Nat} (hn : 12 < n) (hcnt : cnt ≤ 12) (h8 : σ (b + 3) 8 = nI cnt) (hs : s ≤ 4095) (hc : ∀ i, i < cnt → σ (b + 6) i = nI (c i)) :
    Ret (f_X1_obey n σ (b + 3) (nI s) (nI v)) (fun σ' => Only [b + 6] σ σ' ∧ ∀ i, i < cnt → σ' (b + 6) i = nI (obeyV c s v i)) := by
  unfold f_X1_obey f_X1_obey_L2
  refine Ret_for cnt (fun i σ' => Only [b + 6] σ σ' ∧ (∀ j, j < i → σ' (b + 6) j = nI (obeyV c s v j)) ∧ (∀ j, i ≤ j → σ' (b + 6) j = σ (b + 6) j)) ?_ ?_ (i := 0) (Nat.zero_le _) (by omega) ⟨fun _ _ => rfl, fun j h => by omega, fun j _ => rfl⟩
  · rintro i σ' hi ⟨ho, hlt, hge⟩
    show Ret (f_X1_obey_B2 n σ' (b + 3) (nI s) (nI v) (nI i)) _
    have e8 : σ' (b + 3) 8 = nI cnt := by rw [ho _ (by simp), h8]
    unfold f_X1_obey_B2
    refine Ret_iteF (by rw [e8]; exact nI_ge hi (by omega)) ?_
    rw [P3_1 hb, A6 hb, bit_at (by omega) (by omega)]
    by_cases hbit : s.testBit i = true
    · refine Ret_iteT (by rw [if_pos hbit]) ?_
      refine Ret_chk (ckI_nI (by omega) (by decide)) (Ret_nm (Ret_nm ?_))
      rw [nI_1, ix_nI (by omega)]
      refine Ret_some ⟨_, rfl, ?_, ?_, ?_⟩
      · intro a ha
        rw [gst_row (by intro e; subst e; simp at ha)]
        exact ho a ha
      · intro j hj
        rw [gst_at]
        by_cases e : j = i
        · subst e; simp [obeyV, hbit]
        · rw [if_neg (by simp [e])]; exact hlt j (by omega)
      · intro j hj
        rw [gst_at, if_neg (by intro q; omega)]
        exact hge j (by omega)
    · refine Ret_iteF (by rw [if_neg hbit]; decide) ?_
      refine Ret_nm ?_
      rw [nI_1]
      refine Ret_some ⟨_, rfl, ho, ?_, fun j hj => hge j (by omega)⟩
      intro j hj
      by_cases e : j = i
      · subst e
        rw [hge j (Nat.le_refl j), hc j hi]
        unfold obeyV
        rw [if_neg hbit]
      · exact hlt j (by omega)
  · rintro σ' ⟨ho, hlt, hge⟩
    show Ret (f_X1_obey_B2 n σ' (b + 3) (nI s) (nI v) (nI cnt)) _
    unfold f_X1_obey_B2
    refine Ret_iteT (by rw [ho _ (by simp), h8]; exact nI_le (Nat.le_refl _) (by omega)) ?_
    exact Ret_some ⟨ho, hlt⟩

