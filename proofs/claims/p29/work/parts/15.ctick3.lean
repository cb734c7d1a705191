/-! pumps, heights, drifts -/
theorem sumV_le {f : Nat → Nat} {m : Nat} : ∀ {n : Nat}, (∀ i, i < n → f i ≤ m) → sumV f n ≤ n * m
  | 0, _ => by simp [sumV]
  | n + 1, h => by
    have h1 := sumV_le (n := n) (fun i hi => h i (by omega))
    have h2 := h n (by omega)
    show sumV f n + f n ≤ (n + 1) * m
    rw [Nat.succ_mul]
    omega
/-- the numbers that the pumps' steps need of a show: openings op, sizes and pumps of V -/
def Opn (b : Nat) (V : Sh) (op : Nat → Nat) (cnt : Nat) (σ : Mem) : Prop := σ (b + 3) 8 = nI cnt ∧ ∀ i, i < cnt → (∀ j, j < 6 → σ (b + 5) (6 * i + j) = nI (V j i)) ∧ σ (b + 7) i = nI (op i) ∧ op i ≤ 1000 ∧ (1 ≤ V 0 i ∧ V 0 i ≤ 100) ∧ V 4 i ≤ 2
theorem own_le {a c : Nat} (h1 : a ≤ 1000) (h2 : c ≤ 100) : a * c ≤ 100000 := Nat.le_trans (Nat.mul_le_mul h1 h2) (by decide)
theorem demAt_ok {b : Nat} (hb : SB b) {V : Sh} {op : Nat → Nat} {cnt : Nat} {σ : Mem} (h : Opn b V op cnt σ) (hcnt : cnt ≤ 12) {i : Nat} (hi : i < cnt) : f_X1_demandAt σ (b + 3) (nI i) = some (nI (op i * V 0 i)) := by
  obtain ⟨h1, h2, h3, h4, h5⟩ := h.2 i hi
  unfold f_X1_demandAt
  rw [P3_2 hb, A7 hb, P3_0 hb, ckI_nI (by omega) (by decide), ix_nI (by omega), h2, show (0 : Int32) = nI 0 from rfl, val_noz hb (by omega) (by decide), h1 0 (by decide)]
  show some (nI (op i) * nI (V 0 i)) = _
  rw [nI_mul]
theorem demOf_ok {b : Nat} (hb : SB b) {V : Sh} {op : Nat → Nat} {cnt n p : Nat} {σ : Mem} (h : Opn b V op cnt σ) (hcnt : cnt ≤ 12) (hn : 12 < n) (hp : p < 3) : f_X1_demandOf n σ (b + 3) (nI p) = some (nI (sumV (fun i => if V 4 i = p then op i * V 0 i else 0) cnt)) := by
  have R : Ret (f_X1_demandOf n σ (b + 3) (nI p)) (fun r => r = nI (sumV (fun i => if V 4 i = p then op i * V 0 i else 0) cnt)) := by
    unfold f_X1_demandOf f_X1_demandOf_L4
    refine Ret_for1 cnt (fun i v => v = nI (sumV (fun i => if V 4 i = p then op i * V 0 i else 0) i)) ?_ ?_ (i := 0) (Nat.zero_le _) (by omega) rfl
    · rintro i v hi rfl
      obtain ⟨h1, h2, h3, h4, h5⟩ := h.2 i hi
      show Ret (f_X1_demandOf_B4 n σ (b + 3) (nI p) _ (nI i)) _
      unfold f_X1_demandOf_B4
      refine Ret_iteF (by rw [h.1]; exact nI_ge hi (by omega)) ?_
      rw [P3_0 hb, show (4 : Int32) = nI 4 from rfl]
      refine Ret_bndE (val_noz hb (by omega) (by decide)) ?_
      rw [h1 4 (by decide)]
      by_cases q : V 4 i = p
      · refine Ret_iteT (by rw [q]) (Ret_bndE (demAt_ok hb h hcnt hi) (Ret_nm (Ret_nm ?_)))
        rw [nI_1, nI_add]
        refine Ret_some ⟨_, rfl, ?_⟩
        show nI _ = nI (_ + if V 4 i = p then op i * V 0 i else 0)
        rw [if_pos q]
      · refine Ret_iteF (fun e => q (nI_inj (by omega) (by omega) e)) (Ret_nm ?_)
        rw [nI_1]
        refine Ret_some ⟨_, rfl, ?_⟩
        show nI _ = nI (_ + if V 4 i = p then op i * V 0 i else 0)
        rw [if_neg q]
        rfl
    · rintro v rfl
      show Ret (f_X1_demandOf_B4 n σ (b + 3) (nI p) _ (nI cnt)) _
      unfold f_X1_demandOf_B4
      exact Ret_iteT (by rw [h.1]; exact nI_le (Nat.le_refl _) (by omega)) (Ret_some rfl)
  obtain ⟨r, e, rfl⟩ := R
  exact e
theorem flow_ok {b : Nat} (hb : SB b) {V : Sh} {op : Nat → Nat} {cnt n p D f : Nat} {σ : Mem} (h : Opn b V op cnt σ) (hcnt : cnt ≤ 12) (hn : 12 < n) (hp : p < 3) (hD : D ≤ 1200000) (hf : f ≤ 2000000) :
    Ret (f_X1_flow n σ (b + 3) (nI p) (nI D) (nI f)) (fun σ' => Only [b + 8] σ σ' ∧ ∀ i, i < cnt → σ' (b + 8) i = if V 4 i = p then nI (if D ≤ f then op i * V 0 i else op i * V 0 i * f / D) else σ (b + 8) i) := by
  unfold f_X1_flow f_X1_flow_L3
  refine Ret_for cnt (fun i σ' => Only [b + 8] σ σ' ∧ (∀ j, j < i → σ' (b + 8) j = if V 4 j = p then nI (if D ≤ f then op j * V 0 j else op j * V 0 j * f / D) else σ (b + 8) j) ∧ ∀ j, i ≤ j → σ' (b + 8) j = σ (b + 8) j) ?_ ?_ (i := 0) (Nat.zero_le _) (by omega) ⟨fun _ _ => rfl, fun j h => by omega, fun j _ => rfl⟩
  · rintro i σ' hi ⟨ho, hlt, hge⟩
    have h' : Opn b V op cnt σ' := by
      refine ⟨by rw [ho _ (by simp)]; exact h.1, fun j hj => ?_⟩
      have := h.2 j hj
      rw [ho (b + 5) (by simp), ho (b + 7) (by simp)]
      exact this
    obtain ⟨h1, h2, h3, h4, h5⟩ := h'.2 i hi
    have hown := own_le h3 h4.2
    show Ret (f_X1_flow_B3 n σ' (b + 3) (nI p) (nI D) (nI f) (nI i)) _
    unfold f_X1_flow_B3
    refine Ret_iteF (by rw [h'.1]; exact nI_ge hi (by omega)) ?_
    rw [P3_0 hb, show (4 : Int32) = nI 4 from rfl]
    refine Ret_bndE (val_noz hb (by omega) (by decide)) ?_
    rw [h1 4 (by decide)]
    by_cases q : V 4 i = p
    · refine Ret_iteT (by rw [q]) (Ret_bndE (demAt_ok hb h' hcnt hi) ?_)
      have fin : ∀ v, v = (if D ≤ f then op i * V 0 i else op i * V 0 i * f / D) → Ret (f_X1_flow_L62 n σ' (b + 3) (nI p) (nI D) (nI f) (nI i) (nI v) (nI i)) (Lp (fun σ' => Only [b + 8] σ σ' ∧ ∀ i, i < cnt → σ' (b + 8) i = if V 4 i = p then nI (if D ≤ f then op i * V 0 i else op i * V 0 i * f / D) else σ (b + 8) i) (fun s => ∃ σ', s = (σ', nI (i + 1)) ∧ Only [b + 8] σ σ' ∧ (∀ j, j < i + 1 → σ' (b + 8) j = if V 4 j = p then nI (if D ≤ f then op j * V 0 j else op j * V 0 j * f / D) else σ (b + 8) j) ∧ ∀ j, i + 1 ≤ j → σ' (b + 8) j = σ (b + 8) j)) := by
        intro v hv
        unfold f_X1_flow_L62
        rw [P3_3 hb, A8 hb, ix_nI (by omega)]
        refine Ret_chk (ckI_nI (by omega) (by decide)) (Ret_nm (Ret_nm ?_))
        rw [nI_1]
        refine Ret_some ⟨_, rfl, ?_, ?_, ?_⟩
        · intro a ha
          rw [gst_row (by intro e; subst e; simp at ha)]
          exact ho a ha
        · intro j hj
          rw [gst_at]
          by_cases e : j = i
          · subst e; rw [if_pos ⟨rfl, rfl⟩, if_pos q, hv]
          · rw [if_neg (by simp [e])]; exact hlt j (by omega)
        · intro j hj
          rw [gst_at, if_neg (by intro q; omega)]
          exact hge j (by omega)
      by_cases c : f < D
      · refine Ret_iteT (nI_lt c (by omega)) ?_
        rw [nI_64 (by omega), nI_64 (by omega), nI_64 (by omega), lN_mul]
        have hm : op i * V 0 i * f ≤ 100000 * 2000000 := Nat.mul_le_mul hown hf
        refine Ret_bndE (quot_n (by omega) (by omega) (by omega)) ?_
        rw [lN_32]
        exact fin _ (by rw [if_neg (by omega)])
      · refine Ret_iteF (nI_nlt (by omega) (by omega)) ?_
        exact fin _ (by rw [if_pos (by omega)])
    · refine Ret_iteF (fun e => q (nI_inj (by omega) (by omega) e)) (Ret_nm ?_)
      rw [nI_1]
      refine Ret_some ⟨_, rfl, ho, ?_, fun j hj => hge j (by omega)⟩
      intro j hj
      by_cases e : j = i
      · subst e; rw [if_neg q]; exact hge j (Nat.le_refl j)
      · exact hlt j (by omega)
  · rintro σ' ⟨ho, hlt, hge⟩
    show Ret (f_X1_flow_B3 n σ' (b + 3) (nI p) (nI D) (nI f) (nI cnt)) _
    unfold f_X1_flow_B3
    exact Ret_iteT (by rw [ho _ (by simp), h.1]; exact nI_le (Nat.le_refl _) (by omega)) (Ret_some ⟨ho, hlt⟩)
theorem supply_ok {b : Nat} (hb : SB b) {V : Sh} {op : Nat → Nat} {cnt n : Nat} {σ : Mem} {dem run : Nat → Nat} (h : Opn b V op cnt σ) (hcnt : cnt ≤ 12) (hn : 12 < n) (hP : VokP V) (hps : ∀ p, p < 3 → ∀ j, j < 2 → σ (b + 15) (2 * p + j) = nI (V (12 + j) p)) (hrun : ∀ p, p < 3 → σ (b + 16) p = nI (V 14 p)) (hdem : ∀ p, dem p = sumV (fun i => if V 4 i = p then op i * V 0 i else 0) cnt) (hrn : ∀ p, run p = tow (V 14 p) (min (dem p) (1000 * V 12 p)) (1000 * V 13 p)) :
    Ret (f_X3_supply n σ (b + 13) (b + 3)) (fun σ' => Only [b + 8, b + 16, b + 17] σ σ' ∧ (∀ p, p < 3 → σ' (b + 16) p = nI (run p) ∧ σ' (b + 17) p = nI (dem p)) ∧ ∀ i, i < cnt → σ' (b + 8) i = nI (if dem (V 4 i) ≤ run (V 4 i) then op i * V 0 i else op i * V 0 i * run (V 4 i) / dem (V 4 i))) := by
  unfold f_X3_supply f_X3_supply_L2
  refine Ret_for 3 (fun p σ' => Only [b + 8, b + 16, b + 17] σ σ' ∧ (∀ q, q < p → σ' (b + 16) q = nI (run q) ∧ σ' (b + 17) q = nI (dem q)) ∧ (∀ q, p ≤ q → σ' (b + 16) q = σ (b + 16) q) ∧ ∀ i, i < cnt → V 4 i < p → σ' (b + 8) i = nI (if dem (V 4 i) ≤ run (V 4 i) then op i * V 0 i else op i * V 0 i * run (V 4 i) / dem (V 4 i))) ?_ ?_ (i := 0) (by decide) (by omega) ⟨fun _ _ => rfl, fun j h => by omega, fun j _ => rfl, fun i _ h => by omega⟩
  · rintro p σ' hp ⟨ho, hlt, hge, hfl⟩
    obtain ⟨p1, p2, p3, -⟩ := hP p hp
    have h' : Opn b V op cnt σ' := by
      refine ⟨by rw [ho _ (by simp)]; exact h.1, fun j hj => ?_⟩
      have := h.2 j hj
      rw [ho (b + 5) (by simp), ho (b + 7) (by simp)]
      exact this
    have hd : dem p ≤ 1200000 := by
      rw [hdem p]
      refine Nat.le_trans (sumV_le (m := 100000) (fun i hi => ?_)) (Nat.mul_le_mul hcnt (Nat.le_refl 100000))
      obtain ⟨-, -, a1, a2, -⟩ := h.2 i hi
      have := own_le a1 a2.2
      split <;> omega
    have hr : run p ≤ 2000000 := by rw [hrn p]; exact tow_le p3 (by omega)
    have ck3 : ckI (nI p) 3 = true := ckI_nI hp (by decide)
    show Ret (f_X3_supply_B2 n σ' (b + 13) (b + 3) (nI p)) _
    unfold f_X3_supply_B2
    refine Ret_iteF (by rw [show (3 : Int32) = nI 3 from rfl]; exact nI_ge hp (by decide)) ?_
    refine Ret_bndE (demOf_ok hb h' hcnt hn hp) ?_
    rw [← hdem p, P13_2 hb, A17 hb, P13_1 hb, A16 hb, P13_0 hb, ix_nI (by omega), show (0 : Int32) = nI 0 from rfl, show (1 : Int32) = nI 1 from rfl, show (1000 : Int32) = nI 1000 from rfl]
    refine Ret_chk ck3 (Ret_nm ?_)
    have o3 : Only [b + 17] σ' (gst σ' (b + 17) p (nI (dem p))) := fun a ha => gst_row (by intro e; subst e; simp at ha)
    have o3d : gst σ' (b + 17) p (nI (dem p)) (b + 17) p = nI (dem p) := by rw [gst_at, if_pos ⟨rfl, rfl⟩]
    have o3e : ∀ q, q ≠ p → gst σ' (b + 17) p (nI (dem p)) (b + 17) q = σ' (b + 17) q := fun q hq => by rw [gst_at, if_neg (fun z => hq z.2)]
    generalize gst σ' (b + 17) p (nI (dem p)) = σ3 at o3 o3d o3e
    have s15 : σ3 (b + 15) = σ (b + 15) := by rw [o3 _ (by simp), ho _ (by simp)]
    refine Ret_chk ck3 (Ret_bndE (val_pump hb hp (j := 0) (by decide)) (Ret_nm (Ret_chk ck3 (Ret_bndE (val_pump hb hp (j := 1) (by decide)) ?_))))
    have q0 : σ (b + 15) (2 * p + 0) = nI (V 12 p) := hps p hp 0 (by decide)
    have q1 : σ (b + 15) (2 * p + 1) = nI (V 13 p) := hps p hp 1 (by decide)
    rw [s15, q0, q1, o3d, nI_mul, nI_mul, mnI_n (by omega) (by omega), o3 (b + 16) (by simp), hge p (Nat.le_refl p), hrun p hp]
    refine Ret_bndE (tow_X8 (by omega) (by omega) (by omega)) ?_
    show Ret (chk _ (nm (gst σ3 (b + 16) p (nI (tow (V 14 p) (min (dem p) (1000 * V 12 p)) (1000 * V 13 p)))) _)) _
    rw [← hrn p]
    refine Ret_chk ck3 (Ret_nm ?_)
    have o4 : Only [b + 16] σ3 (gst σ3 (b + 16) p (nI (run p))) := fun a ha => gst_row (by intro e; subst e; simp at ha)
    have o4d : gst σ3 (b + 16) p (nI (run p)) (b + 16) p = nI (run p) := by rw [gst_at, if_pos ⟨rfl, rfl⟩]
    have o4e : ∀ q, q ≠ p → gst σ3 (b + 16) p (nI (run p)) (b + 16) q = σ3 (b + 16) q := fun q hq => by rw [gst_at, if_neg (fun z => hq z.2)]
    generalize gst σ3 (b + 16) p (nI (run p)) = σ4 at o4 o4d o4e
    rw [o4 (b + 17) (by simp), o3d, o4d]
    refine Ret_chk ck3 (Ret_chk ck3 ?_)
    have h4 : Opn b V op cnt σ4 := by
      refine ⟨by rw [o4 _ (by simp), o3 _ (by simp)]; exact h'.1, fun j hj => ?_⟩
      have := h'.2 j hj
      rw [o4 (b + 5) (by simp), o4 (b + 7) (by simp), o3 (b + 5) (by simp), o3 (b + 7) (by simp)]
      exact this
    refine Ret_bnd (flow_ok hb h4 hcnt hn hp hd hr) ?_
    rintro σ5 ⟨o5, f5⟩
    refine Ret_nm ?_
    rw [nI_add]
    refine Ret_some ⟨_, rfl, ?_, ?_, ?_, ?_⟩
    · intro a ha
      simp only [List.mem_cons, List.not_mem_nil, or_false, not_or] at ha
      rw [o5 a (by simp [ha.1]), o4 a (by simp [ha.2.1]), o3 a (by simp [ha.2.2])]
      exact ho a (by simp [ha])
    · intro q hq
      rw [o5 _ (by simp), o5 _ (by simp), o4 (b + 17) (by simp)]
      by_cases e : q = p
      · subst e; exact ⟨o4d, o3d⟩
      · rw [o4e q e, o3 (b + 16) (by simp), o3e q e]; exact hlt q (by omega)
    · intro q hq
      rw [o5 _ (by simp), o4e q (by omega), o3 _ (by simp)]
      exact hge q (by omega)
    · intro i hi hv
      rw [f5 i hi]
      by_cases e : V 4 i = p
      · rw [if_pos e, e]
      · rw [if_neg e, o4 _ (by simp), o3 _ (by simp)]
        exact hfl i hi (by omega)
  · rintro σ' ⟨ho, hlt, hge, hfl⟩
    show Ret (f_X3_supply_B2 n σ' (b + 13) (b + 3) (nI 3)) _
    unfold f_X3_supply_B2
    refine Ret_iteT (by decide) (Ret_some ⟨ho, hlt, fun i hi => hfl i hi ?_⟩)
    obtain ⟨-, -, -, -, a⟩ := h.2 i hi
    omega
theorem high_le {a s : Nat} (h1 : a ≤ 5000) (h2 : s ≤ 1000) : a * s * s / 1000000 ≤ 5000 := by
  have h3 : a * s ≤ 5000 * 1000 := Nat.mul_le_mul h1 h2
  have h4 : a * s * s ≤ 5000 * 1000 * 1000 := Nat.mul_le_mul h3 h2
  exact Nat.le_trans (Nat.div_le_div_right h4) (by decide)
theorem drift_le {a m d : Nat} (h1 : a ≤ 5000) (h2 : m ≤ 300) (h3 : d ≤ 100) : a * m * d ≤ 150000000 := Nat.mul_le_mul (Nat.mul_le_mul h1 h2 : a * m ≤ 5000 * 300) h3
/-- what rise needs: flows fl of the nozzles -/
theorem rise_ok {b : Nat} (hb : SB b) {V : Sh} {fl : Nat → Nat} {cnt n m : Nat} {σ : Mem} {hi dr : Nat → Nat} (hcnt : cnt ≤ 12) (hn : 12 < n) (hm : m ≤ 300) (h8 : σ (b + 3) 8 = nI cnt) (hN : ∀ i, i < cnt → (∀ j, j < 6 → σ (b + 5) (6 * i + j) = nI (V j i)) ∧ σ (b + 8) i = nI (fl i) ∧ σ (b + 11) i = nI (V 11 i) ∧ fl i ≤ 1000 * V 0 i ∧ (1 ≤ V 0 i ∧ V 0 i ≤ 100) ∧ V 1 i ≤ 5000 ∧ V 5 i ≤ 100 ∧ V 11 i ≤ 5000) (hhi : ∀ i, hi i = V 1 i * (fl i / V 0 i) * (fl i / V 0 i) / 1000000) (hdr : ∀ i, dr i = hi i * m * V 5 i / 100000) :
    Ret (f_X1_rise n σ (b + 3) (nI m)) (fun σ' => Only [b + 9, b + 10, b + 11] σ σ' ∧ ∀ i, i < cnt → σ' (b + 9) i = nI (hi i) ∧ σ' (b + 10) i = nI (dr i) ∧ σ' (b + 11) i = nI (max (V 11 i) (hi i))) := by
  unfold f_X1_rise f_X1_rise_L2
  refine Ret_for cnt (fun i σ' => Only [b + 9, b + 10, b + 11] σ σ' ∧ (∀ j, j < i → σ' (b + 9) j = nI (hi j) ∧ σ' (b + 10) j = nI (dr j) ∧ σ' (b + 11) j = nI (max (V 11 j) (hi j))) ∧ ∀ j, i ≤ j → σ' (b + 11) j = σ (b + 11) j) ?_ ?_ (i := 0) (Nat.zero_le _) (by omega) ⟨fun _ _ => rfl, fun j h => by omega, fun j _ => rfl⟩
  · rintro i σ' hic ⟨ho, hlt, hge⟩
    obtain ⟨h1, h2, h3, h4, h5, h6, h7, h9⟩ := hN i hic
    have e5 : σ' (b + 5) = σ (b + 5) := ho _ (by simp)
    have e8 : σ' (b + 8) = σ (b + 8) := ho _ (by simp)
    have hv : fl i / V 0 i ≤ 1000 := by
      rw [Nat.div_le_iff_le_mul (by omega)]
      omega
    have hfl : fl i ≤ 100000 := by
      have : 1000 * V 0 i ≤ 1000 * 100 := Nat.mul_le_mul (Nat.le_refl _) h5.2
      omega
    have hhl : hi i ≤ 5000 := by rw [hhi i]; exact high_le h6 hv
    have hdl := drift_le hhl hm h7
    have ck : ckI (nI i) 12 = true := ckI_nI (by omega) (by decide)
    show Ret (f_X1_rise_B2 n σ' (b + 3) (nI m) (nI i)) _
    unfold f_X1_rise_B2
    refine Ret_iteF (by rw [ho _ (by simp), h8]; exact nI_ge hic (by omega)) ?_
    rw [P3_0 hb, P3_3 hb, P3_4 hb, P3_5 hb, P3_6 hb, A8 hb, A9 hb, A10 hb, A11 hb, ix_nI (by omega), show (0 : Int32) = nI 0 from rfl, show (5 : Int32) = nI 5 from rfl, show (1000000 : Int64) = lN 1000000 from rfl, show (100000 : Int64) = lN 100000 from rfl]
    refine Ret_chk ck (Ret_bndE (val_noz hb (by omega) (j := 0) (by decide)) ?_)
    rw [e5, h1 0 (by decide), e8, h2, nI_64 (by omega), nI_64 (by omega)]
    refine Ret_bndE (quot_n (by omega) (by omega) (by omega)) ?_
    rw [show (1 : Int32) = nI 1 from rfl]
    refine Ret_bndE (val_noz hb (by omega) (j := 1) (by decide)) ?_
    have hp1 : V 1 i * (fl i / V 0 i) ≤ 5000 * 1000 := Nat.mul_le_mul h6 hv
    have hp2 : V 1 i * (fl i / V 0 i) * (fl i / V 0 i) ≤ 5000 * 1000 * 1000 := Nat.mul_le_mul hp1 hv
    rw [e5, h1 1 (by decide), nI_64 (by omega), lN_mul, lN_mul, lN_div (by omega) (by decide) (by decide), lN_32, ← hhi i]
    refine Ret_chk ck (Ret_nm (Ret_chk ck ?_))
    have o3 : Only [b + 9] σ' (gst σ' (b + 9) i (nI (hi i))) := fun a ha => gst_row (by intro e; subst e; simp at ha)
    have o3d : gst σ' (b + 9) i (nI (hi i)) (b + 9) i = nI (hi i) := by rw [gst_at, if_pos ⟨rfl, rfl⟩]
    have o3e : ∀ q, q ≠ i → gst σ' (b + 9) i (nI (hi i)) (b + 9) q = σ' (b + 9) q := fun q hq => by rw [gst_at, if_neg (fun z => hq z.2)]
    generalize gst σ' (b + 9) i (nI (hi i)) = σ3 at o3 o3d o3e
    refine Ret_bndE (val_noz hb (by omega) (j := 5) (by decide)) ?_
    rw [o3 (b + 5) (by simp), e5, h1 5 (by decide), o3d, nI_64 (by omega), nI_64 (by omega), nI_64 (by omega), lN_mul, lN_mul, lN_div (by omega) (by decide) (by decide), lN_32, ← hdr i]
    refine Ret_chk ck (Ret_nm ?_)
    have o4 : Only [b + 10] σ3 (gst σ3 (b + 10) i (nI (dr i))) := fun a ha => gst_row (by intro e; subst e; simp at ha)
    have o4d : gst σ3 (b + 10) i (nI (dr i)) (b + 10) i = nI (dr i) := by rw [gst_at, if_pos ⟨rfl, rfl⟩]
    have o4e : ∀ q, q ≠ i → gst σ3 (b + 10) i (nI (dr i)) (b + 10) q = σ3 (b + 10) q := fun q hq => by rw [gst_at, if_neg (fun z => hq z.2)]
    generalize gst σ3 (b + 10) i (nI (dr i)) = σ4 at o4 o4d o4e
    refine Ret_chk ck (Ret_chk ck (Ret_chk ck (Ret_nm (Ret_nm ?_))))
    rw [o4 (b + 11) (by simp), o4 (b + 9) (by simp), o3d, o3 (b + 11) (by simp), hge i (Nat.le_refl i), h3, mxI_n (by omega) (by omega), nI_add]
    refine Ret_some ⟨_, rfl, ?_, ?_, ?_⟩
    · intro a ha
      simp only [List.mem_cons, List.not_mem_nil, or_false, not_or] at ha
      rw [gst_row ha.2.2, o4 a (by simp [ha.2.1]), o3 a (by simp [ha.1])]
      exact ho a (by simp [ha])
    · intro j hj
      rw [gst_row (by omega), gst_row (by omega), gst_at, o4 (b + 9) (by simp)]
      by_cases e : j = i
      · subst e
        exact ⟨o3d, o4d, by rw [if_pos ⟨rfl, rfl⟩]⟩
      · rw [if_neg (by simp [e]), o4 (b + 11) (by simp), o3 (b + 11) (by simp), o4e j e, o3e j e, o3 (b + 10) (by simp)]
        exact hlt j (by omega)
    · intro j hj
      rw [gst_at, if_neg (by intro q; omega), o4 (b + 11) (by simp), o3 (b + 11) (by simp)]
      exact hge j (by omega)
  · rintro σ' ⟨ho, hlt, hge⟩
    show Ret (f_X1_rise_B2 n σ' (b + 3) (nI m) (nI cnt)) _
    unfold f_X1_rise_B2
    exact Ret_iteT (by rw [ho _ (by simp), h8]; exact nI_le (Nat.le_refl _) (by omega)) (Ret_some ⟨ho, hlt⟩)
theorem isShort_ok {b : Nat} (hb : SB b) {σ : Mem} {p D f : Nat} (hp : p < 3) (h1 : σ (b + 17) p = nI D) (h2 : σ (b + 16) p = nI f) (hD : D < 2 ^ 31) (hf : f < 2 ^ 31) : f_X3_isShort σ (b + 13) (nI p) = some (if f < D then 1 else 0) := by
  unfold f_X3_isShort
  rw [P13_2 hb, A17 hb, P13_1 hb, A16 hb, ckI_nI hp (by decide), ix_nI (by omega), h1, h2]
  show (if nI D ≤ nI f then some 0 else some 1) = _
  by_cases c : f < D
  · rw [if_neg (nI_ge c hD), if_pos c]
  · rw [if_pos (nI_le (by omega) hf), if_neg c]
theorem short_ok {b : Nat} (hb : SB b) {σ : Mem} {n : Nat} {dem run sh : Nat → Nat} (hn : 3 < n) (h : ∀ p, p < 3 → σ (b + 17) p = nI (dem p) ∧ σ (b + 16) p = nI (run p) ∧ σ (b + 18) p = nI (sh p) ∧ dem p < 2 ^ 31 ∧ run p < 2 ^ 31) :
    Ret (f_X3_countShort n σ (b + 13)) (fun σ' => Only [b + 18] σ σ' ∧ ∀ p, p < 3 → σ' (b + 18) p = nI (sh p + if run p < dem p then 1 else 0)) := by
  unfold f_X3_countShort f_X3_countShort_L2
  refine Ret_for 3 (fun i σ' => Only [b + 18] σ σ' ∧ (∀ j, j < i → σ' (b + 18) j = nI (sh j + if run j < dem j then 1 else 0)) ∧ ∀ j, i ≤ j → σ' (b + 18) j = σ (b + 18) j) ?_ ?_ (i := 0) (Nat.zero_le _) (by omega) ⟨fun _ _ => rfl, fun j h => by omega, fun j _ => rfl⟩
  · rintro p σ' hp ⟨ho, hlt, hge⟩
    obtain ⟨h1, h2, h3, h4, h5⟩ := h p hp
    have ck : ckI (nI p) 3 = true := ckI_nI hp (by decide)
    show Ret (f_X3_countShort_B2 n σ' (b + 13) (nI p)) _
    unfold f_X3_countShort_B2
    refine Ret_iteF (by rw [show (3 : Int32) = nI 3 from rfl]; exact nI_ge hp (by decide)) ?_
    refine Ret_bndE (isShort_ok hb hp (by rw [ho _ (by simp)]; exact h1) (by rw [ho _ (by simp)]; exact h2) h4 h5) ?_
    rw [P13_3 hb, A18 hb, ix_nI (by omega), hge p (Nat.le_refl p), h3]
    by_cases c : run p < dem p
    · rw [if_pos c]
      refine Ret_iteF (by decide) (Ret_chk ck (Ret_chk ck (Ret_nm (Ret_nm ?_))))
      rw [nI_1, nI_1]
      refine Ret_some ⟨_, rfl, ?_, ?_, ?_⟩
      · intro a ha
        rw [gst_row (by intro e; subst e; simp at ha)]
        exact ho a ha
      · intro j hj
        rw [gst_at]
        by_cases e : j = p
        · subst e; rw [if_pos ⟨rfl, rfl⟩, if_pos c]
        · rw [if_neg (by simp [e])]; exact hlt j (by omega)
      · intro j hj
        rw [gst_at, if_neg (by intro q; omega)]
        exact hge j (by omega)
    · rw [if_neg c]
      refine Ret_iteT rfl (Ret_nm ?_)
      rw [nI_1]
      refine Ret_some ⟨_, rfl, ho, ?_, fun j hj => hge j (by omega)⟩
      intro j hj
      by_cases e : j = p
      · subst e; rw [hge j (Nat.le_refl j), h3, if_neg c]; rfl
      · exact hlt j (by omega)
  · rintro σ' ⟨ho, hlt, hge⟩
    show Ret (f_X3_countShort_B2 n σ' (b + 13) (nI 3)) _
    unfold f_X3_countShort_B2
    exact Ret_iteT (by decide) (Ret_some ⟨ho, hlt⟩)
theorem anyV_from {f : Nat → Bool} {i : Nat} (h : f i = true) : ∀ d, anyV f (i + 1 + d) = true
  | 0 => by show (anyV f i || f i) = true; simp [h]
  | d + 1 => by show (anyV f (i + 1 + d) || f (i + 1 + d)) = true; simp [anyV_from h d]
theorem beyond_ok {b : Nat} (hb : SB b) {σ : Mem} {n cnt sp : Nat} {dr : Nat → Nat} (hcnt : cnt ≤ 12) (hn : 12 < n) (h8 : σ (b + 3) 8 = nI cnt) (hsp : sp < 2 ^ 31) (h : ∀ i, i < cnt → σ (b + 10) i = nI (dr i) ∧ dr i < 2 ^ 31) : f_X1_driftsBeyond n σ (b + 3) (nI sp) = some (if anyV (fun i => decide (sp < dr i)) cnt = true then 1 else 0) := by
  have R : Ret (f_X1_driftsBeyond n σ (b + 3) (nI sp)) (fun r => r = if anyV (fun i => decide (sp < dr i)) cnt = true then 1 else 0) := by
    unfold f_X1_driftsBeyond f_X1_driftsBeyond_L2
    refine Ret_for0 cnt (fun i => anyV (fun i => decide (sp < dr i)) i = false) ?_ ?_ (i := 0) (Nat.zero_le _) (by omega) rfl
    · rintro i hi hf
      obtain ⟨h1, h2⟩ := h i hi
      show Ret (f_X1_driftsBeyond_B2 n σ (b + 3) (nI sp) (nI i)) _
      unfold f_X1_driftsBeyond_B2
      refine Ret_iteF (by rw [h8]; exact nI_ge hi (by omega)) ?_
      rw [P3_5 hb, A10 hb, ix_nI (by omega), h1]
      refine Ret_chk (ckI_nI (by omega) (by decide)) ?_
      by_cases c : sp < dr i
      · refine Ret_iteF (nI_ge c h2) (Ret_some ?_)
        have := anyV_from (f := fun i => decide (sp < dr i)) (i := i) (by simp [c]) (cnt - (i + 1))
        rw [show i + 1 + (cnt - (i + 1)) = cnt by omega] at this
        show (1 : Int32) = _
        rw [if_pos this]
      · refine Ret_iteT (nI_le (by omega) hsp) (Ret_nm ?_)
        rw [nI_1]
        refine Ret_some ⟨rfl, ?_⟩
        show (anyV _ i || _) = false
        rw [hf]
        simp [c]
    · rintro hf
      show Ret (f_X1_driftsBeyond_B2 n σ (b + 3) (nI sp) (nI cnt)) _
      unfold f_X1_driftsBeyond_B2
      refine Ret_iteT (by rw [h8]; exact nI_le (Nat.le_refl _) (by omega)) (Ret_some ?_)
      show (0 : Int32) = _
      rw [if_neg (by rw [hf]; decide)]
  obtain ⟨r, e, rfl⟩ := R
  exact e

