/-! METHODS THAT MAKE ROWS: the law's own rows are the cells 105 .. 109; where one is made, the context is another -/
theorem ptr_gap (k j : Nat) : ptr k j < 105 ∨ 112 ≤ ptr k j := by
  have e : ∀ k, k < 121 → ∀ j, j < 10 → ptr k j < 105 ∨ 112 ≤ ptr k j := by decide +kernel
  have hl : ∀ k, (ptrL.getD k []).length ≤ 9 := by
    intro k
    rcases Nat.lt_or_ge k 121 with h | h
    · have : ∀ k, k < 121 → (ptrL.getD k []).length ≤ 9 := by decide +kernel
      exact this k h
    · rw [List.getD_eq_getElem?_getD, List.getElem?_eq_none (show ptrL.length ≤ k from Nat.le_trans (by decide +kernel) h)]
      decide
  rcases Nat.lt_or_ge k 121 with h | h
  · rcases Nat.lt_or_ge j 10 with h2 | h2
    · exact e k h j h2
    · left
      unfold ptr
      rw [List.getD_eq_getElem?_getD, List.getElem?_eq_none (show (ptrL.getD k []).length ≤ j from Nat.le_trans (hl k) (by omega))]
      decide
  · left
    unfold ptr
    rw [List.getD_eq_getElem?_getD, List.getD_eq_getElem?_getD, List.getElem?_eq_none (show ptrL.length ≤ k from Nat.le_trans (by decide +kernel) h)]
    simp
theorem ce_ad {cI : Nat → ClassId} {ad ad' : Nat → Nat} {σ σ' : Mem} {k : Nat} (h : ∀ a, ¬ (105 ≤ a ∧ a < 110) → ad' a = ad a) (hs : σ' k = σ k) : ce cI ad' σ' k = ce cI ad σ k := by
  have : (fun j => ad' (ptr k j)) = (fun j => ad (ptr k j)) := funext fun j => h _ (by have := ptr_gap k j; omega)
  unfold ce
  rw [this, hs]
/-- apart, by cells -/
theorem wlD {cI : Nat → ClassId} {ad : Nat → Nat} {σ : Mem} {ks : List Nat} {A : Nat → Prop} : va_D A (wl cI ad σ ks) ↔ (∀ (i j : Nat) (k k' : Nat), ks[i]? = some k → ks[j]? = some k' → ad k = ad k' → i = j) ∧ ∀ k, k ∈ ks → A (ad k) := by
  constructor
  · rintro ⟨h1, h2⟩
    refine ⟨?_, ?_⟩
    · intro i j k k' hi hj e
      exact h1 i j (ad k, ce cI ad σ k) (ad k', ce cI ad σ k') (by simp [wl, hi]) (by simp [wl, hj]) e
    · intro k hk
      obtain ⟨q, hq⟩ := List.getElem?_of_mem hk
      exact h2 q (ad k, ce cI ad σ k) (by simp [wl, hq])
  · rintro ⟨h1, h2⟩
    refine ⟨?_, ?_⟩
    · intro i j p q hi hj e
      simp only [wl, List.getElem?_map, Option.map_eq_some_iff] at hi hj
      obtain ⟨k, hk, rfl⟩ := hi
      obtain ⟨k', hk', rfl⟩ := hj
      exact h1 i j k k' hk hk' e
    · intro i q hi
      simp only [wl, List.getElem?_map, Option.map_eq_some_iff] at hi
      obtain ⟨k, hk, rfl⟩ := hi
      exact h2 k (List.mem_of_getElem? hk)
theorem wl_mem {cI : Nat → ClassId} {ad : Nat → Nat} {σ : Mem} {ks : List Nat} {D : va_G} {H : Heap} : va_P D vwCl (wl cI ad σ ks) H ↔ ∀ k, k ∈ ks → va_at D vwCl (ad k, ce cI ad σ k) H := by
  constructor
  · intro h k hk
    obtain ⟨q, hq⟩ := List.getElem?_of_mem hk
    exact h q (ad k, ce cI ad σ k) (by simp [wl, hq])
  · intro h i q hi
    simp only [wl, List.getElem?_map, Option.map_eq_some_iff] at hi
    obtain ⟨k, hk, rfl⟩ := hi
    exact h k (List.mem_of_getElem? hk)
theorem drop_D {ks : List Nat} {ad ad' : Nat → Nat} {A : Nat → Prop} {c q : Nat} (h : (∀ (i j : Nat) (k k' : Nat), ks[i]? = some k → ks[j]? = some k' → ad k = ad k' → i = j) ∧ ∀ k, k ∈ ks → A (ad k)) (hq : ∀ k, k ∈ ks → ad k ≠ q) (hA : A q) (he : ∀ k, k ≠ c → ad' k = ad k) (hc : ad' c = q) : (∀ (i j : Nat) (k k' : Nat), (ks.filter (fun k => !decide (k = c)) ++ [c])[i]? = some k → (ks.filter (fun k => !decide (k = c)) ++ [c])[j]? = some k' → ad' k = ad' k' → i = j) ∧ ∀ k, k ∈ ks.filter (fun k => !decide (k = c)) ++ [c] → A (ad' k) := by
  obtain ⟨h1, h2⟩ := h
  have nd : ks.Nodup := by
    rw [List.nodup_iff_pairwise_ne, List.pairwise_iff_getElem]
    intro i j hi hj hij e
    have := h1 i j ks[i] ks[j] (List.getElem?_eq_getElem hi) (List.getElem?_eq_getElem hj) (by rw [e])
    omega
  have nd2 : (ks.filter (fun k => !decide (k = c)) ++ [c]).Nodup := by
    rw [List.nodup_append]
    refine ⟨nd.filter _, by simp, ?_⟩
    intro a ha b hb e
    simp at ha hb
    exact ha.2 (e.trans hb)
  have mm : ∀ k, k ∈ ks.filter (fun k => !decide (k = c)) ++ [c] → (k ∈ ks ∧ k ≠ c) ∨ k = c := by
    intro k hk
    simp at hk
    exact hk
  have inj : ∀ k k', k ∈ ks → k' ∈ ks → ad k = ad k' → k = k' := by
    intro k k' hk hk' e
    obtain ⟨i, hi⟩ := List.getElem?_of_mem hk
    obtain ⟨j, hj⟩ := List.getElem?_of_mem hk'
    have := h1 i j k k' hi hj e
    subst this
    rw [hi] at hj
    exact Option.some.inj hj
  refine ⟨?_, ?_⟩
  · intro i j k k' hi hj e
    have hk : k = k' := by
      rcases mm k (List.mem_of_getElem? hi) with ⟨a, b⟩ | a
      · rcases mm k' (List.mem_of_getElem? hj) with ⟨a', b'⟩ | a'
        · exact inj k k' a a' (by rw [← he k b, ← he k' b']; exact e)
        · exfalso
          rw [a', hc, he k b] at e
          exact hq k a e
      · rcases mm k' (List.mem_of_getElem? hj) with ⟨a', b'⟩ | a'
        · exfalso
          rw [a, hc, he k' b'] at e
          exact hq k' a' e.symm
        · rw [a, a']
    subst hk
    obtain ⟨hil, hie⟩ := List.getElem?_eq_some_iff.mp hi
    obtain ⟨hjl, hje⟩ := List.getElem?_eq_some_iff.mp hj
    rw [List.nodup_iff_pairwise_ne, List.pairwise_iff_getElem] at nd2
    rcases Nat.lt_trichotomy i j with z | z | z
    · exact (nd2 i j hil hjl z (hie.trans hje.symm)).elim
    · exact z
    · exact (nd2 j i hjl hil z (hje.trans hie.symm)).elim
  · intro k hk
    rcases mm k hk with ⟨a, b⟩ | a
    · rw [he k b]; exact h2 k a
    · rw [a, hc]; exact hA
/-- a contract of a method that may make mc cells of ms slots -/
def CtA (l : Launch) (y : MethodName) (cc : ByteArray) (nL : Nat) (ret : Option FieldType) (fr lo mc ms : Nat) (ok : List Nat → Prop) (as : (Nat → Nat) → List Value) (σ : Mem) (o : (Nat → Nat) → Option Value) (σ' : Mem) : Prop :=
  ∀ (D : va_G) (cI : Nat → ClassId) (ad : Nat → Nat) (A0 : Nat → Prop) (ks : List Nat), Cl ks → (∀ k, k ∈ ks → k < 105) → ok ks → Met l y (Cond.code y cc nL ret :: lw_g) ({ frames := fr, cells := mc, slots := ms, locals := lo }) (va_Pc (as ad) (fun U => (Wx D cI ad A0 ks σ U ∧ Nw U) ∧ ∀ q : Nat, U.heap.size ≤ q → A0 q)) (QcOf D cI ad A0 ks (o ad) σ') mc ms A0
/-- what is left to do, and to make -/
def RtE (X : Ctx) (a b : Nat) (o : (Nat → Nat) → Option Value) (σ' : Mem) : Prop := match X with
  | (_, _, _, R, s, _, args, below, _, _, D, cI, ad, A, ks, _, mc, ms, Q) => ∃ (ad0 : Nat → Nat) (ks0 : List Nat) (mc0 ms0 : Nat), Q = MQ below (QcOf D cI ad0 A ks0 (o ad0) σ') args s mc0 ms0 A ∧ (∀ q, s.heap.size ≤ q → A q) ∧ mc + a ≤ mc0 ∧ ms + b ≤ ms0 ∧ mc0 ≤ R.cells ∧ ms0 ≤ R.slots ∧ va_D A (wl cI ad0 (fun _ _ => 0) ks0) ∧ (∀ k, k ∈ ks0 → k ∈ ks ∧ k < 105) ∧ (∀ k, ¬ (105 ≤ k ∧ k < 110) → ad k = ad0 k)
theorem RtE.mono {X : Ctx} {a b a' b' : Nat} {o : (Nat → Nat) → Option Value} {σ' : Mem} (h : RtE X a b o σ') (h1 : a' ≤ a) (h2 : b' ≤ b) : RtE X a' b' o σ' := by
  obtain ⟨p, l, e, R, s, m, args, below, meth, c, D, cI, ad, A0, ks, nL, mc, ms, Q⟩ := X
  obtain ⟨ad0, ks0, mc0, ms0, e1, e2, e3, e4, e5, e6, e7⟩ := h
  exact ⟨ad0, ks0, mc0, ms0, e1, e2, by omega, by omega, e5, e6, e7⟩
/-- the context with another row -/
def Xnew (X : Ctx) (c q N : Nat) : Ctx := match X with
  | (p, l, e, R, s, m, args, below, meth, cc, D, cI, ad, A0, ks, nL, mc, ms, Q) => (p, l, e, R, s, m, args, below, meth, cc, D, cI, (fun k => if k = c then q else ad k), A0, ks.filter (fun k => !decide (k = c)) ++ [c], nL, mc + 1, ms + N, Q)
/-- with some cells more made -/
def Xadd (X : Ctx) (mc' ms' : Nat) : Ctx := match X with
  | (p, l, e, R, s, m, args, below, meth, cc, D, cI, ad, A0, ks, nL, mc, ms, Q) => (p, l, e, R, s, m, args, below, meth, cc, D, cI, ad, A0, ks, nL, mc + mc', ms + ms', Q)
theorem Xadd_ad (X : Ctx) (a b : Nat) : Xad (Xadd X a b) = Xad X := by
  obtain ⟨p, l, e, R, s, m, args, below, meth, c, D, cI, ad, A0, ks, nL, mc, ms, Q⟩ := X
  show ad = ad
  rfl
theorem Xadd_ks (X : Ctx) (a b : Nat) : Xks (Xadd X a b) = Xks X := by
  obtain ⟨p, l, e, R, s, m, args, below, meth, c, D, cI, ad, A0, ks, nL, mc, ms, Q⟩ := X
  show ks = ks
  rfl
theorem RtE.add {X : Ctx} {a b mc' ms' : Nat} {o : (Nat → Nat) → Option Value} {σ' : Mem} (h : RtE X (a + mc') (b + ms') o σ') : RtE (Xadd X mc' ms') a b o σ' := by
  obtain ⟨p, l, e, R, s, m, args, below, meth, c, D, cI, ad, A0, ks, nL, mc, ms, Q⟩ := X
  obtain ⟨ad0, ks0, mc0, ms0, e1, e2, e3, e4, e5, e6, e7⟩ := h
  exact ⟨ad0, ks0, mc0, ms0, e1, e2, by omega, by omega, e5, e6, e7⟩
/-- room for mc' cells of ms' slots, and the addresses behind the start are free -/
def Rm (X : Ctx) (mc' ms' : Nat) : Prop := match X with
  | (_, _, _, R, s, _, _, _, _, _, _, _, _, A, _, _, mc, ms, _) => mc + mc' ≤ R.cells ∧ ms + ms' ≤ R.slots ∧ ∀ q, s.heap.size ≤ q → A q
theorem RtE.rm {X : Ctx} {a b mc' ms' : Nat} {o : (Nat → Nat) → Option Value} {σ' : Mem} (h : RtE X a b o σ') (h1 : mc' ≤ a) (h2 : ms' ≤ b) : Rm X mc' ms' := by
  obtain ⟨p, l, e, R, s, m, args, below, meth, c, D, cI, ad, A0, ks, nL, mc, ms, Q⟩ := X
  obtain ⟨ad0, ks0, mc0, ms0, e1, e2, e3, e4, e5, e6, e7⟩ := h
  exact ⟨by omega, by omega, e2⟩
theorem Cx.add {X : Ctx} {own : String} {cc : ByteArray} {n0 : Nat} {ret : Option FieldType} {fr lo mc' ms' : Nat} (C : Cx X own cc n0 ret fr lo) (h : Rm X mc' ms') : Cx (Xadd X mc' ms') own cc n0 ret fr lo := by
  obtain ⟨p, l, e, R, s, m, args, below, meth, c, D, cI, ad, A0, ks, nL, mc, ms, Q⟩ := X
  obtain ⟨hx, hb, hml, hn0, hr, hown, hts, hlocks, hK, hcl, hfr, hlo, hmc, hms, hnw⟩ := C
  obtain ⟨r1, r2, -⟩ := h
  exact ⟨hx, hb, hml, hn0, hr, hown, hts, hlocks, hK, hcl, hfr, hlo, r1, r2, hnw⟩
theorem CtA.of {l : Launch} {y : MethodName} {cc : ByteArray} {nL : Nat} {ret : Option FieldType} {fr lo mc ms : Nat} {ok : List Nat → Prop} {as : (Nat → Nat) → List Value} {σ : Mem} {o : (Nat → Nat) → Option Value} {σ' : Mem} (hy : plainFor y = true) (hlen : ∀ ad, (lg_sl (as ad)).length ≤ nL)
    (body : ∀ X : Ctx, Cx X y.cls cc nL ret fr lo → Cl (Xks X) → (∀ k, k ∈ Xks X → k < 105) → ok (Xks X) → RtE X mc ms o σ' → J X 0 (lv_args 0 (as (Xad X))) [] σ) : CtA l y cc nL ret fr lo mc ms ok as σ o σ' := by
  intro D cI ad A0 ks hcl hlow hok
  refine Met.ofWF (cc := cc) (maxL := nL) (ret := ret) hy rfl ?_
  intro p e s m args below meth c s₁ B hml hv
  obtain ⟨rfl, ⟨⟨hK, hP, hD, hT⟩, hnw⟩, hA⟩ := hv
  have hts := atoms_spec (ws := Cond.code y cc nL ret :: lw_g) B.pre
  have K := body (p, l, e, (headSpec (Cond.code y cc nL ret :: lw_g) ({ frames := fr, cells := mc, slots := ms, locals := lo })).room, s, m, (as ad).toArray, below, meth, c, D, cI, ad, A0, ks, nL, 0, 0, MQ below (QcOf D cI ad A0 ks (o ad) σ') (as ad).toArray s mc ms A0)
    ⟨B.exec, B.bytes, hml, rfl, B.returns, findClass_of_methodNamed B.named, fun w hw => hts w (List.mem_cons_of_mem _ hw), B.notSynchronized, hK, hcl, Nat.le_refl _, Nat.le_refl _, Nat.zero_le _, Nat.zero_le _, hnw⟩ hcl hlow hok ⟨ad, ks, mc, ms, rfl, hA, by omega, by omega, Nat.le_refl _, Nat.le_refl _, wlD.mpr (wlD.mp hD), fun k hk => ⟨hk, hlow k hk⟩, fun _ _ => rfl⟩
  have hl := lv_entry (as ad) (n := nL) (hlen ad)
  rw [lg_entry_eq]
  exact K s.heap [] _ hP hD hT va_S.rf hl
theorem J_iterN {S R : Type} {body : S → Option (R ⊕ S)} {JJ : Nat → S → Prop} {Ps : R → Prop} (hb : ∀ m s t, body s = some t → (∀ r, t = .inl r → Ps r) → (∀ s', t = .inr s' → JJ m s') → JJ (m + 1) s) : ∀ (n : Nat) (s : S) (r : R), iter body n s = some r → Ps r → JJ n s := by
  intro n
  induction n with
  | zero => intro s r h; simp [iter] at h
  | succ n ih =>
    intro s r h hp
    rw [iter] at h
    cases hbs : body s with
    | none => rw [hbs] at h; cases h
    | some t =>
      rw [hbs] at h
      refine hb n s t hbs ?_ ?_
      · intro r' e
        subst e
        cases h
        exact hp
      · intro s' e
        subst e
        exact ih s' r h hp
theorem ok_ne {ks : List Nat} {k c d : Nat} (h : Ok ks k d) (hc : ¬ clsOf c = d) : k ≠ c := fun e => hc (by rw [← e]; exact h.2)
theorem tbl_in {y : MethodName} {cc : ByteArray} {nL : Nat} {ret : Option FieldType} (h : Cond.code y cc nL ret ∈ lw_g) : GoodIn lw_g (Cond.code y cc nL ret :: lw_g) := tblIn h
section JE
variable {X : Ctx} {own : String} {cc : ByteArray} {n0 : Nat} {ret : Option FieldType} {fr lo pc : Nat} {loc : List (Nat × Value)} {stk rest : List Value} {σ : Mem}
theorem J.lastM (C : Cx X own cc n0 ret fr lo) {τ : Type} {f : Mem → Option τ} {t : τ} {k : Nat} (hok : Ok (Xks X) k 104) {i : Int32} {x : Int64} (hf : chk (ckI i (alen k)) (chk (fit32 x) (nm (gst σ k (ix i) x.toInt32) f)) = some t) (hdg : decode cc pc = .ok (.lastore, 1)) (K : ∀ σ', f σ' = some t → J X (pc + 1) loc rest σ') : J X pc loc (.long x :: .int i :: .ref (Xad X k) :: rest) σ :=
  J.last C hok hf hdg (fun h => K _ h)
/-- a new row, the cell c from now on -/
theorem J.newE (C : Cx X own cc n0 ret fr lo) (hcl : Cl (Xks X)) {a b a0 b0 c N : Nat} {o : (Nat → Nat) → Option Value} {σf : Mem} (hR : RtE X a0 b0 o σf) (ha : a + 1 ≤ a0) (hb0 : b + N ≤ b0) {atype : ArrayType} {ty : FieldType} (hc : (clsOf c = 100 ∧ ty = .int) ∨ (clsOf c = 104 ∧ ty = .long)) (h105 : 105 ≤ c ∧ c < 110) (hN : alen c = N) (hN2 : N ≤ 12) (hty : newarray.typeOf atype = ty) (harr : Cond.arrayClass (newarray.typeOf atype) ∈ lw_g) {n : Int32} (hn : n = Int32.ofNat N) {τ : Type} {f : Mem → Option τ} {t : τ} (hf : nm (gput σ c (fun _ => 0)) f = some t) (hdg : decode cc pc = .ok (.newarray atype, 2))
    (K : ∀ X' : Ctx, Cx X' own cc n0 ret fr lo → Cl (Xks X') → (∀ k d, k ≠ c → Ok (Xks X) k d → Ok (Xks X') k d) → Ok (Xks X') c (clsOf c) → (∀ k, k ≠ c → Xad X' k = Xad X k) → RtE X' a b o σf → ∀ σ', f σ' = some t → J X' (pc + 2) loc (.ref (Xad X' c) :: rest) σ') : J X pc loc (.int n :: rest) σ := by
  obtain ⟨p, l, e, R, s, m, args, below, meth, c0, D, cI, ad, A0, ks, nL, mc, ms, Q⟩ := X
  obtain ⟨hx, hb, hml, hn0, hr, hown, hts, hlocks, hK, hcl0, hfr, hlo, hmc, hms, hnw⟩ := id C
  obtain ⟨ad0, ks0, mc0, ms0, e1, e2, e3, e4, e5, e6, e7, e8, e9⟩ := hR
  intro H locs ls hP hD hT hS hl
  have hn31 : N < 2 ^ 31 := by omega
  have hclc : ¬ clsOf c = 103 := by rcases hc with ⟨q, -⟩ | ⟨q, -⟩ <;> rw [q] <;> decide
  have hnn : ¬ n < 0 := by rw [hn]; exact nI_pos hn31
  have hNc : n.toNatClampNeg = N := by rw [hn]; exact nI_clamp hn31
  have hlast : ∀ (q : Nat) (cA : ClassId) (H1 : Heap) (E : va_E), E = ce cI (fun k => if k = c then q else ad k) (gput σ c (fun _ => 0)) c → va_P D vwCl (wl cI ad σ ks ++ [(q, E)]) H1 → va_D A0 (wl cI ad σ ks ++ [(q, E)]) → va_S A0 s.heap H1 locs → W p l e R s m args below meth c0 H1 locs (mc + 1) (ms + N) Q (F0 m (pc + 2) ls (.ref q :: rest)) := by
    intro q cA H1 E hE hP1 hD1 hS1
    have hPk : ∀ k, k ∈ ks → va_at D vwCl (ad k, ce cI ad σ k) H1 := fun k hk => by
      obtain ⟨i, hi⟩ := List.getElem?_of_mem hk
      have hi' : (wl cI ad σ ks)[i]? = some (ad k, ce cI ad σ k) := by simp [wl, hi]
      exact hP1 i _ (by rw [List.getElem?_append_left (List.getElem?_eq_some_iff.mp hi').1]; exact hi')
    have hPq : va_at D vwCl (q, E) H1 := hP1 (wl cI ad σ ks).length _ (by simp)
    have hDs : (∀ (i j : Nat) (k k' : Nat), ks[i]? = some k → ks[j]? = some k' → ad k = ad k' → i = j) ∧ ∀ k, k ∈ ks → A0 (ad k) := wlD.mp hD
    have hq : ∀ k, k ∈ ks → ad k ≠ q := fun k hk e => by
      obtain ⟨i, hi⟩ := List.getElem?_of_mem hk
      have hi' : (wl cI ad σ ks)[i]? = some (ad k, ce cI ad σ k) := by simp [wl, hi]
      have hlt := (List.getElem?_eq_some_iff.mp hi').1
      have := hD1.1 i (wl cI ad σ ks).length (ad k, ce cI ad σ k) (q, E) (by rw [List.getElem?_append_left hlt]; exact hi') (by simp) e
      omega
    have hAq : A0 q := hD1.2 (wl cI ad σ ks).length (q, E) (by simp)
    have hdd := drop_D (c := c) (q := q) (ad' := fun k => if k = c then q else ad k) hDs hq hAq (fun k hk => if_neg hk) (if_pos rfl)
    have hcl2 : Cl (ks.filter (fun k => !decide (k = c)) ++ [c]) := by
      intro k hk j hj hc2
      simp at hk
      rcases hk with ⟨hk, hkc⟩ | hk
      · rcases hcl0 k hk j hj hc2 with z | z
        · left
          have := ptr_gap k j
          simp
          exact Or.inl ⟨z, by omega⟩
        · exact Or.inr z
      · rw [hk] at hc2
        rcases hc with ⟨z, -⟩ | ⟨z, -⟩ <;> rw [z] at hc2 <;> exact absurd hc2 (by decide)
    have C' : Cx (Xnew (p, l, e, R, s, m, args, below, meth, c0, D, cI, ad, A0, ks, nL, mc, ms, Q) c q N) own cc n0 ret fr lo := ⟨hx, hb, hml, hn0, hr, hown, hts, hlocks, hK, hcl2, hfr, hlo, Nat.le_trans (by omega) e5, Nat.le_trans (by omega) e6, hnw⟩
    have hgap : ∀ a : Nat, ¬ (105 ≤ a ∧ a < 110) → (if a = c then q else ad a) = ad a := fun a ha => if_neg (fun z => ha (by rw [z]; exact h105))
    have key := K (Xnew (p, l, e, R, s, m, args, below, meth, c0, D, cI, ad, A0, ks, nL, mc, ms, Q) c q N) C' hcl2 (fun k d hk h => ⟨by show k ∈ ks.filter (fun k => !decide (k = c)) ++ [c]; simp; exact Or.inl ⟨h.1, hk⟩, h.2⟩) ⟨by show c ∈ ks.filter (fun k => !decide (k = c)) ++ [c]; simp, rfl⟩ (fun k hk => if_neg hk)
      ⟨ad0, ks0, mc0, ms0, e1, e2, by omega, by omega, e5, e6, e7, fun k hk => ⟨by simp; exact Or.inl ⟨(e8 k hk).1, by have := (e8 k hk).2; omega⟩, (e8 k hk).2⟩, fun k hk => (hgap k hk).trans (e9 k hk)⟩ _ hf
    have hadc : Xad (Xnew (p, l, e, R, s, m, args, below, meth, c0, D, cI, ad, A0, ks, nL, mc, ms, Q) c q N) c = q := if_pos rfl
    rw [hadc] at key
    refine key H1 locs ls (wl_mem.mpr ?_) (wlD.mpr hdd) ?_ hS1 hl
    · intro k hk
      simp at hk
      rcases hk with ⟨hk, hkc⟩ | hk
      · rw [ce_ad (ad := ad) (σ := σ) hgap (gput_n hkc), if_neg hkc]
        exact hPk k hk
      · rw [hk, if_pos rfl, ← hE]
        exact hPq
    · intro k hk
      have hkc : k ≠ c := fun z => hclc (by rw [← z]; exact hk)
      show va_T .int (if k = c then q else ad k) (alen k) (fun j => .int (gput σ c (fun _ => 0) k j)) A0 s s.heap
      rw [if_neg hkc, gput_n hkc]
      exact hT k hk
  rcases hc with ⟨hcc, rfl⟩ | ⟨hcc, rfl⟩
  · refine va_newa (N' := N) (a0 := (N, .inl (fun _ => 0))) hx hb (hts _ harr) hty hK hP hD hS e2 (fun cA => rfl) hnn hNc (Nat.le_trans (Nat.mul_le_mul hN2 (Nat.le_refl _)) (by decide)) (by omega) (by omega) hdg (fun q cA H1 hK1 hP1 hD1 hS1 => ?_)
    have hcA : cA = cI 100 := by
      have h1 := (hK1.2 3 (cA, .int) rfl).2
      have h2 := (hK1.2 0 (cI 100, .int) rfl).2
      exact Option.some.inj (h1.symm.trans h2)
    subst hcA
    exact hlast q (cI 100) H1 _ (by rw [ce_arr hcc (by decide) (by decide), gput_s, hN]) hP1 hD1 hS1
  · refine va_newa (N' := N) (a0 := (N, .inr (.inl (fun _ => 0)))) hx hb (hts _ harr) hty hK hP hD hS e2 (fun cA => rfl) hnn hNc (Nat.le_trans (Nat.mul_le_mul hN2 (Nat.le_refl _)) (by decide)) (by omega) (by omega) hdg (fun q cA H1 hK1 hP1 hD1 hS1 => ?_)
    have hcA : cA = cI 104 := by
      have h1 := (hK1.2 3 (cA, .long) rfl).2
      have h2 := (hK1.2 2 (cI 104, .long) rfl).2
      exact Option.some.inj (h1.symm.trans h2)
    subst hcA
    exact hlast q (cI 104) H1 _ (by rw [ce_lng hcc, gput_s, hN]; rfl) hP1 hD1 hS1
/-- the end -/
theorem J.zretE {rt : FieldType} (C : Cx X own cc n0 (some rt) fr lo) {v : Int32} (hn : narrow rt (.int v) = .int v) {a b : Nat} {t0 : Int32 × Mem} (hR : RtE X a b (fun _ => some (.int t0.1)) t0.2) (h : (v, σ) = t0) (hdg : decode cc pc = .ok (.ireturn, 1)) : J X pc loc [.int v] σ := by
  subst h
  obtain ⟨p, l, e, R, s, m, args, below, meth, c0, D, cI, ad, A0, ks, nL, mc, ms, Q⟩ := X
  obtain ⟨hx, hb, hml, hn0, hr, hown, hts, hlocks, hK, hcl0, hfr, hlo, hmc, hms, hnw⟩ := C
  obtain ⟨ad0, ks0, mc0, ms0, e1, e2, e3, e4, e5, e6, e7, e8, e9⟩ := hR
  intro H locs ls hP hD hT hS hl
  rw [e1]
  refine W.widen (k := mc0) (n := ms0) (by omega) (by omega) ?_
  refine W.zret hx hb hr hn (fun t ht hW => ⟨rfl, ⟨va_K.moved hW.alike hK, ?_, wlD.mpr (wlD.mp e7), ?_⟩, hS.F ht⟩) hS.2.2 hdg hlocks
  · rw [ht]
    refine wl_mem.mpr (fun k hk => ?_)
    have e9' : ∀ a, ¬ (105 ≤ a ∧ a < 110) → ad0 a = ad a := fun a ha => (e9 a ha).symm
    rw [ce_ad (ad := ad) (σ := σ) e9' rfl, e9' k (by have := (e8 k hk).2; omega)]
    exact wl_mem.mp hP k (e8 k hk).1
  · intro k hk
    rw [← e9 k (fun z => absurd hk ((show ∀ k, 105 ≤ k ∧ k < 110 → clsOf k ≠ 103 by
      intro k h
      have : k = 105 ∨ k = 106 ∨ k = 107 ∨ k = 108 ∨ k = 109 := by omega
      rcases this with q | q | q | q | q <;> rw [q] <;> decide) k z))]
    exact hT.out hS ht hW.alike k hk
theorem J_runA {p : Program} {l : Launch} {e : Env} {R : Room} {s : State} {m : MethodId} {args : Array Value} {below : List Frame} {meth : Method} {c : Code} {D : va_G} {cI : Nat → ClassId} {ad : Nat → Nat} {A0 : Nat → Prop} {ks : List Nat} {nL mc ms mc' ms' : Nat} {Q : State → Prop} {H : Heap} {locs : List Loc} {ls : Array Slot} {o : Option Value} {σ' : Mem} {a : Array Value} {stk' : List Value}
    (hr : va_Run p l e R s m args below meth c H locs mc ms mc' ms' (F0 m pc ls stk) rest (QcOf D cI ad A0 ks o σ' a) A0) (hT : Ws ad A0 σ s) (hS : va_S A0 s.heap H locs) (hl : lv_has ls nL loc) (hst : o.toList ++ rest = stk')
    (K : J (p, l, e, R, s, m, args, below, meth, c, D, cI, ad, A0, ks, nL, mc + mc', ms + ms', Q) (pc + 3) loc stk' σ') : W p l e R s m args below meth c H locs mc ms Q (F0 m pc ls stk) := by
  intro T hTT X
  obtain ⟨v, st₀, t, T', L, h0, X', hL, e1, e2, ⟨hv, ⟨-, hP1, hD1, hT1⟩, hz, hk⟩, st⟩ := hr T hTT X
  cases hv
  rw [h0] at hz hk
  subst hst
  have hT' : Ws ad A0 σ' s := hT.back hT1 (fun q h1 h2 => by rw [hk q (Nat.lt_of_lt_of_le h1 hS.1) h2]; exact hS.2.1 q h1 h2)
  obtain ⟨t2, a1, b1⟩ := K T'.heap (locs ++ L) ls (by rw [e1]; exact hP1) hD1 hT' ⟨Nat.le_trans hS.1 (by rw [e1]; exact hz), fun q h1 h2 => by rw [e1, hk q (Nat.lt_of_lt_of_le h1 hS.1) h2]; exact hS.2.1 q h1 h2, fun q hq => by
      rcases List.mem_append.mp hq with h | h
      · exact hS.2.2 q h
      · exact hL q h⟩ hl T' rfl X'
  exact ⟨t2, st t2 a1, b1⟩
theorem PcBlindA {D : va_G} {cI : Nat → ClassId} {ad : Nat → Nat} {A0 : Nat → Prop} {ks : List Nat} {σ : Mem} {av : List Value} : FrameBlind (va_Pc av (fun U => (Wx D cI ad A0 ks σ U ∧ Nw U) ∧ ∀ q : Nat, U.heap.size ≤ q → A0 q)) := fun a U g mk h => ⟨h.1, ⟨Wx.moved (u := U) (U := U.calling g mk a) (Vm.Alike.refl U.vm) rfl h.2.1.1, Nw.same (u := U) (U := U.calling g mk a) rfl h.2.1.2⟩, h.2.2⟩
/-- a call of one that makes rows -/
theorem J.callSA (C : Cx X own cc n0 ret fr lo) {y : MethodName} {cc' : ByteArray} {nL' fr' lo' mc' ms' n : Nat} {ret' : Option FieldType} {ok : List Nat → Prop} {as : (Nat → Nat) → List Value} {o : (Nat → Nat) → Option Value} {σ' : Mem} (hM : CtA (Xl X) y cc' nL' ret' fr' lo' mc' ms' ok as σ o σ') (hlow : ∀ k, k ∈ Xks X → k < 105) (hok : ok (Xks X)) (hRm : Rm X mc' ms') (wy : Wy y cc' nL' ret' n) (hin : Cond.static y ∈ lw_g) {idx : Nat} (hlink : Cond.methodLink own idx y ∈ lw_g) (As rest : List Value) (has : as (Xad X) = As) (hn : As.length = n) (hcat : (rest.map fun v => v.category).sum ≤ 8) (hfr' : fr' + 1 ≤ fr) (hlo' : 8 + (nL' + 11) + lo' ≤ lo) {stk stk' : List Value} (hst : stk = As.reverse ++ rest) (hdg : decode cc pc = .ok (.invokestatic idx, 3)) (hst' : (o (Xad X)).toList ++ rest = stk') (K : J (Xadd X mc' ms') (pc + 3) loc stk' σ') : J X pc loc stk σ := by
  obtain ⟨p, l, e, R, s, m, args, below, meth, c, D, cI, ad, A0, ks, nL, mc, ms, Q⟩ := X
  obtain ⟨hx, hb, hml, hn0, hr, hown, hts, hlocks, hK, hcl, hfr, hlo, hmc, hms, hnw⟩ := C
  obtain ⟨r1, r2, r3⟩ := hRm
  intro H locs ls hP hD hT hS hl
  exact J_runA (va_runS ⟨hx, hb, hml, hown, hts⟩ (hM D cI ad A0 ks hcl hlow hok) ⟨⟨rfl, rfl, Nat.le_trans hfr' hfr, Nat.le_trans hlo' hlo, pay_in hts (tbl_in wy.1), List.mem_cons_self, hts _ wy.1, hts _ wy.2.1, ⟨wy.2.2.1, wy.2.2.2.1⟩, fun sig h => by have h2 := wy.2.2.2.2; rw [h] at h2; exact (Option.some.inj h2).symm, hts _ hlink⟩, hts _ hin⟩ ⟨PcBlindA, fun U hU hW => ⟨by have := has; dsimp only [Xad] at this; rw [this], ⟨⟨va_K.moved hW.alike hK, by rw [hU]; exact hP, hD, hT.out hS hU hW.alike⟩, hnw.warm hW⟩, fun q hq => r3 q (Nat.le_trans hS.1 (by rw [← hU]; exact hq))⟩⟩ rfl hn hl.1 hst (lv_room hcat) hdg ⟨r1, r2⟩) hT hS hl hst' K
end JE
/-- no number of a pump -/
def isFar (y : Int32) : Bool := decide (¬ (0 ≤ y ∧ y ≤ 2))
