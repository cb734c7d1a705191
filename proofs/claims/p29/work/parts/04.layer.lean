/-! ONE MEMORY: the cells of the class and of the reference by number; what each holds; the judgement J over it, a row an instruction (my own layer over the kit's rows) -/
/-- the words that every method of ours is given: those that a caller can hand on; and the nest mates' links -/
def lw_g : List Cond := lw_tbl.filter goodWord
def nestWord : Cond → Bool
  | .fieldLinkNest .. => true
  | .methodLinkNest .. => true
  | _ => false
def lw_n : List Cond := lw_tbl.filter nestWord
theorem in_g {c : Cond} (i : Nat) (h : lw_tbl[i]? = some c) (hg : goodWord c = true) : c ∈ lw_g := List.mem_filter.mpr ⟨List.mem_of_getElem? h, hg⟩
theorem in_n {c : Cond} (i : Nat) (h : lw_tbl[i]? = some c) (hg : nestWord c = true) : c ∈ lw_n := List.mem_filter.mpr ⟨List.mem_of_getElem? h, hg⟩
def Nw (U : State) : Prop := ∀ w ∈ lw_n, va_Nw w U
theorem Nw.warm {s U : State} (h : Nw s) (hW : s.WarmedH U.vm) : Nw U := fun w hw => by
  have h1 := h w hw
  have h2 := (List.mem_filter.mp hw).2
  cases w <;> first | exact va_Nw.warmF hW h1 | exact va_Nw.warmM hW h1 | (simp [nestWord] at h2)
theorem Nw.same {u U : State} (h : u.vm = U.vm) (hN : Nw u) : Nw U := fun w hw => by
  have h2 := (List.mem_filter.mp hw).2
  refine va_Nw.same ?_ h (hN w hw)
  cases w <;> first | rfl | (simp [nestWord] at h2)
abbrev Mem : Type := Nat → Nat → Int32
def gput (σ : Mem) (k : Nat) (f : Nat → Int32) : Mem := fun a => if a = k then f else σ a
theorem gput_s (σ : Mem) (k : Nat) (f : Nat → Int32) : gput σ k f k = f := by simp [gput]
theorem gput_n {σ : Mem} {k a : Nat} {f : Nat → Int32} (h : a ≠ k) : gput σ k f a = σ a := by simp [gput, h]
def clsL : List Nat := [8, 5, 4, 100, 1, 4, 100, 100, 100, 100, 100, 100, 100, 100, 3, 4, 100, 100, 100, 100, 7, 0, 100, 100, 100, 5, 4, 100, 1, 4, 100, 100, 100, 100, 100, 100, 100, 100, 3, 4, 100, 100, 100, 100, 7, 0, 100, 100, 100, 6, 5, 4, 100, 1, 4, 100, 100, 100, 100, 100, 100, 100, 100, 3, 4, 100, 100, 100, 100, 7, 0, 100, 100, 100, 6, 5, 4, 100, 1, 4, 100, 100, 100, 100, 100, 100, 100, 100, 3, 4, 100, 100, 100, 100, 7, 0, 100, 100, 100, 2, 0, 100, 100, 100, 102, 100, 100, 100, 104, 104, 100, 100, 103, 103, 103, 103, 103, 103, 103, 103, 103]
def alenL : List Nat := [0, 0, 0, 6, 0, 0, 72, 12, 12, 12, 12, 12, 12, 612, 0, 0, 6, 3, 3, 3, 0, 0, 60, 60, 60, 0, 0, 6, 0, 0, 72, 12, 12, 12, 12, 12, 12, 612, 0, 0, 6, 3, 3, 3, 0, 0, 60, 60, 60, 0, 0, 0, 6, 0, 0, 72, 12, 12, 12, 12, 12, 12, 612, 0, 0, 6, 3, 3, 3, 0, 0, 60, 60, 60, 0, 0, 0, 6, 0, 0, 72, 12, 12, 12, 12, 12, 12, 612, 0, 0, 6, 3, 3, 3, 0, 0, 60, 60, 60, 0, 0, 60, 60, 60, 80, 12, 3, 3, 3, 3, 1, 1, 6, 6, 6, 2, 2, 2, 6, 6, 6]
def ptrL : List (List Nat) := [[1, 25, 49, 74, 99], [2, 4, 14, 20, 21], [118, 119, 120, 0, 3], [], [5, 7, 8, 9, 10, 11, 12, 13], [112, 113, 114, 0, 6], [], [], [], [], [], [], [], [], [15, 17, 18, 19], [115, 116, 117, 0, 16], [], [], [], [], [], [22, 23, 24], [], [], [], [26, 28, 38, 44, 45], [118, 119, 120, 0, 27], [], [29, 31, 32, 33, 34, 35, 36, 37], [112, 113, 114, 0, 30], [], [], [], [], [], [], [], [], [39, 41, 42, 43], [115, 116, 117, 0, 40], [], [], [], [], [], [46, 47, 48], [], [], [], [50], [51, 53, 63, 69, 70], [118, 119, 120, 0, 52], [], [54, 56, 57, 58, 59, 60, 61, 62], [112, 113, 114, 0, 55], [], [], [], [], [], [], [], [], [64, 66, 67, 68], [115, 116, 117, 0, 65], [], [], [], [], [], [71, 72, 73], [], [], [], [75], [76, 78, 88, 94, 95], [118, 119, 120, 0, 77], [], [79, 81, 82, 83, 84, 85, 86, 87], [112, 113, 114, 0, 80], [], [], [], [], [], [], [], [], [89, 91, 92, 93], [115, 116, 117, 0, 90], [], [], [], [], [], [96, 97, 98], [], [], [], [100, 104], [101, 102, 103], [], [], [], [], [], [], [], [], [], [], [], [], [], [], [], [], [], [], [], []]
def clsOf (k : Nat) : Nat := clsL.getD k 999
def alen (k : Nat) : Nat := alenL.getD k 0
def ptr (k j : Nat) : Nat := (ptrL.getD k []).getD j 0
def fpat (c : Nat) : List Bool := match c with
  | 0 => [true, true, true, false]
  | 1 => [true, true, true, true, true, true, true, true, false, false]
  | 2 => [true, true, false, false, false, false, false]
  | 3 => [true, true, true, true]
  | 4 => [true, true, true, false, true]
  | 5 => [true, true, true, true, true, false, false]
  | 6 => [true, false]
  | 7 => [false, false, false, false]
  | _ => [true, true, true, true, true]
def fl (pa : Nat → Nat) (f : Nat → Int32) : List Bool → Nat → List Value
  | [], _ => []
  | true :: l, i => .ref (pa i) :: fl pa f l (i + 1)
  | false :: l, i => .int (f i) :: fl pa f l (i + 1)
theorem fl_len (pa : Nat → Nat) (f : Nat → Int32) : ∀ (l : List Bool) (i : Nat), (fl pa f l i).length = l.length
  | [], _ => rfl
  | true :: l, i => by simp [fl, fl_len pa f l (i + 1)]
  | false :: l, i => by simp [fl, fl_len pa f l (i + 1)]
theorem fl_ref (pa : Nat → Nat) (f : Nat → Int32) : ∀ (l : List Bool) (i j : Nat), l[j]? = some true → (fl pa f l i)[j]? = some (.ref (pa (i + j)))
  | [], _, _, h => by simp at h
  | true :: l, i, 0, _ => by simp [fl]
  | false :: l, i, 0, h => by simp at h
  | true :: l, i, j + 1, h => by
    have := fl_ref pa f l (i + 1) j (by simpa using h)
    simp only [fl, List.getElem?_cons_succ, this]
    congr 3; omega
  | false :: l, i, j + 1, h => by
    have := fl_ref pa f l (i + 1) j (by simpa using h)
    simp only [fl, List.getElem?_cons_succ, this]
    congr 3; omega
theorem fl_int (pa : Nat → Nat) (f : Nat → Int32) : ∀ (l : List Bool) (i j : Nat), l[j]? = some false → (fl pa f l i)[j]? = some (.int (f (i + j)))
  | [], _, _, h => by simp at h
  | false :: l, i, 0, _ => by simp [fl]
  | true :: l, i, 0, h => by simp at h
  | true :: l, i, j + 1, h => by
    have := fl_int pa f l (i + 1) j (by simpa using h)
    simp only [fl, List.getElem?_cons_succ, this]
    congr 3; omega
  | false :: l, i, j + 1, h => by
    have := fl_int pa f l (i + 1) j (by simpa using h)
    simp only [fl, List.getElem?_cons_succ, this]
    congr 3; omega
theorem fl_new (pa : Nat → Nat) {f g : Nat → Int32} : ∀ (l : List Bool) (i : Nat), (∀ j, i ≤ j → f j = g j) → fl pa f l i = fl pa g l i
  | [], _, _ => rfl
  | true :: l, i, h => by simp [fl, fl_new pa l (i + 1) (fun j hj => h j (by omega))]
  | false :: l, i, h => by simp [fl, fl_new pa l (i + 1) (fun j hj => h j (by omega)), h i (Nat.le_refl i)]
theorem fl_set (pa : Nat → Nat) (f : Nat → Int32) (v : Int32) : ∀ (l : List Bool) (i j : Nat), l[j]? = some false → (fl pa f l i).set j (.int v) = fl pa (upd f (i + j) v) l i
  | [], _, _, h => by simp at h
  | true :: l, i, 0, h => by simp at h
  | false :: l, i, 0, _ => by
    have : fl pa f l (i + 1) = fl pa (upd f (i + 0) v) l (i + 1) := fl_new pa l (i + 1) (fun j hj => by simp [upd]; intro h; omega)
    simp [fl, this, upd]
  | true :: l, i, j + 1, h => by
    have := fl_set pa f v l (i + 1) j (by simpa using h)
    simp only [fl, List.set_cons_succ, this]
    congr 3; omega
  | false :: l, i, j + 1, h => by
    have := fl_set pa f v l (i + 1) j (by simpa using h)
    simp only [fl, List.set_cons_succ, this]
    have e : i + 1 + j = i + (j + 1) := by omega
    rw [e]
    congr 2
    simp [upd]
def ce (cI : Nat → ClassId) (ad : Nat → Nat) (σ : Mem) (k : Nat) : va_E :=
  if clsOf k < 100 then .inr (clsOf k, fl (fun j => ad (ptr k j)) (σ k) (fpat (clsOf k)) 0) else if clsOf k = 104 then .inl (cI 104, alen k, .inr (.inl (fun i => (σ k i).toInt64))) else .inl (cI (clsOf k), alen k, .inl (σ k))
def wl (cI : Nat → ClassId) (ad : Nat → Nat) (σ : Mem) (ks : List Nat) : va_W := ks.map (fun k => (ad k, ce cI ad σ k))
theorem wl_get (cI : Nat → ClassId) (ad : Nat → Nat) (σ : Mem) {ks : List Nat} {k : Nat} (h : k ∈ ks) : ∃ q : Nat, ks[q]? = some k ∧ (wl cI ad σ ks)[q]? = some (ad k, ce cI ad σ k) := by
  obtain ⟨q, hq⟩ := List.getElem?_of_mem h
  exact ⟨q, hq, by simp [wl, hq]⟩
theorem ce_same {cI : Nat → ClassId} {ad : Nat → Nat} {σ σ' : Mem} {k : Nat} (h : σ' k = σ k) : ce cI ad σ' k = ce cI ad σ k := by simp [ce, h]
/-- one cell written: the whole list anew -/
theorem wl_set {cI : Nat → ClassId} {ad : Nat → Nat} {σ : Mem} {ks : List Nat} {A : Nat → Prop} (hD : va_D A (wl cI ad σ ks)) {k q : Nat} (hq : ks[q]? = some k) (f : Nat → Int32) : (wl cI ad σ ks).set q (ad k, ce cI ad (gput σ k f) k) = wl cI ad (gput σ k f) ks := by
  apply List.ext_getElem?
  intro i
  rw [List.getElem?_set]
  by_cases hi : q = i
  · subst hi
    have hl : q < ks.length := (List.getElem?_eq_some_iff.mp hq).1
    have hl' : q < (wl cI ad σ ks).length := by simpa [wl] using hl
    rw [if_pos rfl, if_pos hl']
    simp [wl, hq]
  · rw [if_neg hi]
    simp only [wl, List.getElem?_map]
    cases hk : ks[i]? with
    | none => rfl
    | some j =>
      simp only [Option.map_some]
      have hj : j ≠ k := by
        intro e
        subst e
        exact hi (hD.1 q i (ad j, ce cI ad σ j) (ad j, ce cI ad σ j) (by simp [wl, hq]) (by simp [wl, hk]) rfl)
      rw [ce_same (gput_n hj)]
def tysI (cI : Nat → ClassId) : List (ClassId × FieldType) := [(cI 100, .int), (cI 102, .char), (cI 104, .long)]
/-- every pointer of a cell that is there is there -/
def Cl (ks : List Nat) : Prop := ∀ k, k ∈ ks → ∀ j, (fpat (clsOf k))[j]? = some true → clsOf k < 100 → ptr k j ∈ ks ∨ clsOf (ptr k j) = 103
def Ok (ks : List Nat) (k c : Nat) : Prop := k ∈ ks ∧ clsOf k = c
/-- the static rows -/
def Ws (ad : Nat → Nat) (A0 : Nat → Prop) (σ : Mem) (U : State) : Prop := ∀ k, clsOf k = 103 → va_T .int (ad k) (alen k) (fun j => .int (σ k j)) A0 U U.heap
def Wx (D : va_G) (cI : Nat → ClassId) (ad : Nat → Nat) (A0 : Nat → Prop) (ks : List Nat) (σ : Mem) (U : State) : Prop :=
  va_K D vwCl (tysI cI) U ∧ va_P D vwCl (wl cI ad σ ks) U.heap ∧ va_D A0 (wl cI ad σ ks) ∧ Ws ad A0 σ U
abbrev Ctx : Type := Program × Launch × Env × Room × State × MethodId × Array Value × List Frame × Method × Code × va_G × (Nat → ClassId) × (Nat → Nat) × (Nat → Prop) × List Nat × Nat × Nat × Nat × (State → Prop)
def Xad (X : Ctx) : Nat → Nat := match X with | (_, _, _, _, _, _, _, _, _, _, _, _, ad, _) => ad
def Xks (X : Ctx) : List Nat := match X with | (_, _, _, _, _, _, _, _, _, _, _, _, _, _, ks, _) => ks
def Xl (X : Ctx) : Launch := match X with | (_, l, _) => l
def J (X : Ctx) (pc : Nat) (loc : List (Nat × Value)) (stk : List Value) (σ : Mem) : Prop := match X with
  | (p, l, e, R, s, m, args, below, meth, c, D, cI, ad, A0, ks, nL, mc, ms, Q) => ∀ (H : Heap) (locs : List Loc) (ls : Array Slot), va_P D vwCl (wl cI ad σ ks) H → va_D A0 (wl cI ad σ ks) → Ws ad A0 σ s → va_S A0 s.heap H locs → lv_has ls nL loc → W p l e R s m args below meth c H locs mc ms Q (F0 m pc ls stk)
def Cx (X : Ctx) (own : String) (cc : ByteArray) (n0 : Nat) (ret : Option FieldType) (fr lo : Nat) : Prop := match X with
  | (p, _, _, R, s, m, args, _, meth, c, D, cI, _, _, ks, nL, mc, ms, _) => p.tables.exec = Jvm.exec ∧ c.code = cc ∧ c.maxLocals = nL ∧ n0 = nL ∧ meth.sig.returnType = ret ∧ s.vm.findClass own = some m.cls ∧ (∀ w ∈ lw_g, w.before args s = true) ∧ meth.locks = false ∧ va_K D vwCl (tysI cI) s ∧ Cl ks ∧ fr ≤ R.frames ∧ lo ≤ R.locals ∧ mc ≤ R.cells ∧ ms ≤ R.slots ∧ Nw s
def QcOf (D : va_G) (cI : Nat → ClassId) (ad : Nat → Nat) (A0 : Nat → Prop) (ks : List Nat) (o : Option Value) (σ' : Mem) : Array Value → State → Outcome → State → Prop := fun _ st oc t => oc = .returned o ∧ Wx D cI ad A0 ks σ' t ∧ va_F A0 st t
def Rt (X : Ctx) (o : Option Value) (σ' : Mem) : Prop := match X with
  | (_, _, _, _, s, _, args, below, _, _, D, cI, ad, A0, ks, _, mc, ms, Q) => Q = MQ below (QcOf D cI ad A0 ks o σ') args s mc ms A0
/-- A CONTRACT over the memory: from σ to σ', with the answer o -/
def Ct (l : Launch) (y : MethodName) (cc : ByteArray) (nL : Nat) (ret : Option FieldType) (fr lo : Nat) (ok : List Nat → Prop) (as : (Nat → Nat) → List Value) (σ : Mem) (o : (Nat → Nat) → Option Value) (σ' : Mem) : Prop :=
  ∀ (D : va_G) (cI : Nat → ClassId) (ad : Nat → Nat) (A0 : Nat → Prop) (ks : List Nat), Cl ks → ok ks → Met l y (Cond.code y cc nL ret :: lw_g) ({ frames := fr, cells := 0, slots := 0, locals := lo }) (va_Pc (as ad) (fun U => Wx D cI ad A0 ks σ U ∧ Nw U)) (QcOf D cI ad A0 ks (o ad) σ') 0 0 A0
theorem Wx.moved {D : va_G} {cI : Nat → ClassId} {ad : Nat → Nat} {A0 : Nat → Prop} {ks : List Nat} {σ : Mem} {u U : State} (hvm : u.vm.Alike U.vm) (hh : U.heap = u.heap) (h : Wx D cI ad A0 ks σ u) : Wx D cI ad A0 ks σ U := by
  obtain ⟨h1, h2, h3, h4⟩ := h
  refine ⟨va_K.moved hvm h1, by rw [hh]; exact h2, h3, fun k hk => ?_⟩
  rw [hh]
  exact va_T.moved hvm (h4 k hk)
theorem Ws.out {ad : Nat → Nat} {A0 : Nat → Prop} {σ : Mem} {s t : State} {H : Heap} {locs : List Loc} (hT : Ws ad A0 σ s) (hS : va_S A0 s.heap H locs) (ht : t.heap = H) (hvm : s.vm.Alike t.vm) : Ws ad A0 σ t := fun k hk => by
  rw [ht]
  exact va_T.moved hvm (va_T.kept (hT k hk) (fun a h1 h2 => hS.2.1 a h1 h2))
theorem Ws.put {ad : Nat → Nat} {A0 : Nat → Prop} {σ : Mem} {U : State} (hT : Ws ad A0 σ U) {k : Nat} (hk : ¬ clsOf k = 103) (f : Nat → Int32) : Ws ad A0 (gput σ k f) U := fun j hj => by
  have : j ≠ k := fun e => hk (by rw [← e]; exact hj)
  rw [gput_n this]
  exact hT j hj
theorem Ws.back {ad : Nat → Nat} {A0 : Nat → Prop} {σ σ' : Mem} {s t : State} (hT : Ws ad A0 σ s) (h1 : Ws ad A0 σ' t) (hq : ∀ q : Nat, q < s.heap.size → ¬ A0 q → t.heap[q]? = s.heap[q]?) : Ws ad A0 σ' s := fun k hk => by
  obtain ⟨cell, a1, a2, a3, a4, a5, a6, a7⟩ := hT k hk
  obtain ⟨cell', b1, b2, b3, b4, b5, b6, b7⟩ := h1 k hk
  have e : cell' = cell := by
    rw [hq _ (Array.getElem?_eq_some_iff.mp a1).1 a7, a1] at b1
    exact (Option.some.inj b1).symm
  subst e
  exact ⟨cell', a1, a2, a3, a4, a5, b6, a7⟩
theorem tblIn {y : MethodName} {cc : ByteArray} {nL : Nat} {ret : Option FieldType} (h : Cond.code y cc nL ret ∈ lw_g) : GoodIn lw_g (Cond.code y cc nL ret :: lw_g) := fun w hw => by
  have hm : w ∈ lw_g := by
    rcases List.mem_cons.mp hw with e | e
    · rw [e]; exact h
    · exact e
  exact ⟨hm, good_of_word (List.mem_filter.mp hm).2⟩
theorem lv_loc {ls : Array Slot} {n : Nat} {l l' : List (Nat × Value)} (h : lv_has ls n l) (e : l = l') : lv_has ls n l' := e ▸ h
theorem Met.ofWF {l : Launch} {y : MethodName} {ws ws' : List Cond} {rm : Room} {Pc : Array Value → State → Prop} {Qc : Array Value → State → Outcome → State → Prop} {mc ms : Nat} {free : Addr → Prop} {cc : ByteArray} {maxL : Nat} {ret : Option FieldType}
    (hy : plainFor y = true) (hw : ws = Cond.code y cc maxL ret :: ws')
    (body : ∀ p e s m args below meth c s₁, BodyLoose p l y (headSpec ws rm) cc maxL ret e s m args below meth c s₁ → c.maxLocals = maxL → Pc args s →
      W p l e (headSpec ws rm).room s m args below meth c s.heap [] 0 0 (MQ below Qc args s mc ms free) (entryFrame m args maxL)) : Met l y ws rm Pc Qc mc ms free := by
  refine MetFree.of_bodySF (code := cc) (maxLocals := maxL) (ret := ret) hy ?_ ?_
  · intro args s m h hn
    obtain ⟨meth, c, h1, h2, h3, h4, h5, h6, -, -⟩ := Cond.code_spec hn (atoms_spec (ws := ws) h _ (by rw [hw]; exact List.mem_cons_self))
    exact ⟨meth, c, h1, h2, h3, h4, h5, h6⟩
  · intro p e s m args below meth c s₁ B hml hP _
    have hh0 : s₁.heap = s.heap := by rw [B.state]; rfl
    obtain ⟨t, a1, o, b1, b2, b3⟩ := body p e s m args below meth c s₁ B hml hP s₁ hh0 (Stand.of_body B)
    exact ⟨t, o, a1, b1, b2, ⟨b3.1, b3.2⟩⟩
/-- a method's contract out of J from its entry -/
theorem Ct.of {l : Launch} {y : MethodName} {cc : ByteArray} {nL : Nat} {ret : Option FieldType} {fr lo : Nat} {ok : List Nat → Prop} {as : (Nat → Nat) → List Value} {σ : Mem} {o : (Nat → Nat) → Option Value} {σ' : Mem} (hy : plainFor y = true) (hlen : ∀ ad, (lg_sl (as ad)).length ≤ nL)
    (body : ∀ X : Ctx, Cx X y.cls cc nL ret fr lo → Xl X = l → ok (Xks X) → Cl (Xks X) → Rt X (o (Xad X)) σ' → J X 0 (lv_args 0 (as (Xad X))) [] σ) : Ct l y cc nL ret fr lo ok as σ o σ' := by
  intro D cI ad A0 ks hcl hok
  refine Met.ofWF (cc := cc) (maxL := nL) (ret := ret) hy rfl ?_
  intro p e s m args below meth c s₁ B hml hv
  obtain ⟨rfl, ⟨hK, hP, hD, hT⟩, hnw⟩ := hv
  have hts := atoms_spec (ws := Cond.code y cc nL ret :: lw_g) B.pre
  have K := body (p, l, e, (headSpec (Cond.code y cc nL ret :: lw_g) ({ frames := fr, cells := 0, slots := 0, locals := lo })).room, s, m, (as ad).toArray, below, meth, c, D, cI, ad, A0, ks, nL, 0, 0, MQ below (QcOf D cI ad A0 ks (o ad) σ') (as ad).toArray s 0 0 A0)
    ⟨B.exec, B.bytes, hml, rfl, B.returns, findClass_of_methodNamed B.named, fun w hw => hts w (List.mem_cons_of_mem _ hw), B.notSynchronized, hK, hcl, Nat.le_refl _, Nat.le_refl _, Nat.le_refl _, Nat.le_refl _, hnw⟩ rfl hok hcl rfl
  have hl := lv_entry (as ad) (n := nL) (hlen ad)
  rw [lg_entry_eq]
  exact K s.heap [] _ hP hD hT va_S.rf hl
section JR
variable {X : Ctx} {own : String} {cc : ByteArray} {n0 : Nat} {ret : Option FieldType} {fr lo pc : Nat} {loc : List (Nat × Value)} {stk rest : List Value} {σ : Mem}
/-- fewer locals -/
theorem J.sub {loc' : List (Nat × Value)} (ks : List Nat) (h : lv_pick loc ks = loc') (K : J X pc loc' stk σ) : J X pc loc stk σ := by
  obtain ⟨p, l, e, R, s, m, args, below, meth, c, D, cI, ad, A0, ks, nL, mc, ms, Q⟩ := X
  intro H locs ls hP hD hT hS hl
  exact K H locs ls hP hD hT hS (lv_sub hl _ h)
theorem J.iconst (C : Cx X own cc n0 ret fr lo) {n : Int} {v : Int32} (hdg : decode cc pc = .ok (.iconst n, 1)) (hv : Int32.ofInt n = v) (K : J X (pc + 1) loc (.int v :: rest) σ) : J X pc loc (rest) σ := by
  obtain ⟨p, l, e, R, s, m, args, below, meth, c, D, cI, ad, A0, ks, nL, mc, ms, Q⟩ := X
  obtain ⟨hx, hb, hml, hn0, hr, hown, hts, hlocks, hK, hcl, hfr, hlo, hmc, hms, hnw⟩ := C
  intro H locs ls hP hD hT hS hl
  exact lv_iconst hx hb hdg hv (K H locs ls hP hD hT hS hl)
theorem J.bipush (C : Cx X own cc n0 ret fr lo) {n : Int} {v : Int32} (hdg : decode cc pc = .ok (.bipush n, 2)) (hv : (Int8.ofInt n).toInt32 = v) (K : J X (pc + 2) loc (.int v :: rest) σ) : J X pc loc (rest) σ := by
  obtain ⟨p, l, e, R, s, m, args, below, meth, c, D, cI, ad, A0, ks, nL, mc, ms, Q⟩ := X
  obtain ⟨hx, hb, hml, hn0, hr, hown, hts, hlocks, hK, hcl, hfr, hlo, hmc, hms, hnw⟩ := C
  intro H locs ls hP hD hT hS hl
  exact lv_bipush hx hb hdg hv (K H locs ls hP hD hT hS hl)
theorem J.sipush (C : Cx X own cc n0 ret fr lo) {n : Int} {v : Int32} (hdg : decode cc pc = .ok (.sipush n, 3)) (hv : (Int16.ofInt n).toInt32 = v) (K : J X (pc + 3) loc (.int v :: rest) σ) : J X pc loc (rest) σ := by
  obtain ⟨p, l, e, R, s, m, args, below, meth, c, D, cI, ad, A0, ks, nL, mc, ms, Q⟩ := X
  obtain ⟨hx, hb, hml, hn0, hr, hown, hts, hlocks, hK, hcl, hfr, hlo, hmc, hms, hnw⟩ := C
  intro H locs ls hP hD hT hS hl
  exact lv_sipush hx hb hdg hv (K H locs ls hP hD hT hS hl)
theorem J.lconst (C : Cx X own cc n0 ret fr lo) {n : Fin 2} {v : Int64} (hdg : decode cc pc = .ok (.lconst n, 1)) (hv : Int64.ofNat (n : Nat) = v) (K : J X (pc + 1) loc (.long v :: rest) σ) : J X pc loc (rest) σ := by
  obtain ⟨p, l, e, R, s, m, args, below, meth, c, D, cI, ad, A0, ks, nL, mc, ms, Q⟩ := X
  obtain ⟨hx, hb, hml, hn0, hr, hown, hts, hlocks, hK, hcl, hfr, hlo, hmc, hms, hnw⟩ := C
  intro H locs ls hP hD hT hS hl
  exact lv_lconst hx hb hdg hv (K H locs ls hP hD hT hS hl)
theorem J.ldc (C : Cx X own cc n0 ret fr lo) {i : Nat} {v : Int32} (hdg : decode cc pc = .ok (.ldc i, 2)) (hw : Cond.constant own i v ∈ lw_g) (K : J X (pc + 2) loc (.int v :: rest) σ) : J X pc loc rest σ := by
  obtain ⟨p, l, e, R, s, m, args, below, meth, c, D, cI, ad, A0, ks, nL, mc, ms, Q⟩ := X
  obtain ⟨hx, hb, hml, hn0, hr, hown, hts, hlocks, hK, hcl, hfr, hlo, hmc, hms, hnw⟩ := C
  intro H locs ls hP hD hT hS hl
  exact lv_ldc hx hb hown (hts _ hw) hdg (K H locs ls hP hD hT hS hl)
theorem J.ldc2 (C : Cx X own cc n0 ret fr lo) {i : Nat} {v : Int64} (hdg : decode cc pc = .ok (.ldc2_w i, 3)) (hw : Cond.constantLong own i v ∈ lw_g) (K : J X (pc + 3) loc (.long v :: rest) σ) : J X pc loc rest σ := by
  obtain ⟨p, l, e, R, s, m, args, below, meth, c, D, cI, ad, A0, ks, nL, mc, ms, Q⟩ := X
  obtain ⟨hx, hb, hml, hn0, hr, hown, hts, hlocks, hK, hcl, hfr, hlo, hmc, hms, hnw⟩ := C
  intro H locs ls hP hD hT hS hl
  exact lv_ldc2 hx hb hown (hts _ hw) hdg (K H locs ls hP hD hT hS hl)
theorem J.iload_n (C : Cx X own cc n0 ret fr lo) {k : Fin 4} {i : Nat} {x : Int32} (hdg : decode cc pc = .ok (.iload_n k, 1)) (hi : (k : Nat) = i) (q : Nat) (hq : loc[q]? = some (i, .int x)) (K : J X (pc + 1) loc (.int x :: rest) σ) : J X pc loc rest σ := by
  obtain ⟨p, l, e, R, s, m, args, below, meth, c, D, cI, ad, A0, ks, nL, mc, ms, Q⟩ := X
  obtain ⟨hx, hb, hml, hn0, hr, hown, hts, hlocks, hK, hcl, hfr, hlo, hmc, hms, hnw⟩ := C
  intro H locs ls hP hD hT hS hl
  exact lv_iload_n hx hb hdg hi (lv_at hl q hq) (K H locs ls hP hD hT hS hl)
theorem J.iload (C : Cx X own cc n0 ret fr lo) {i : Nat} {x : Int32} (hdg : decode cc pc = .ok (.iload i, 2)) (q : Nat) (hq : loc[q]? = some (i, .int x)) (K : J X (pc + 2) loc (.int x :: rest) σ) : J X pc loc rest σ := by
  obtain ⟨p, l, e, R, s, m, args, below, meth, c, D, cI, ad, A0, ks, nL, mc, ms, Q⟩ := X
  obtain ⟨hx, hb, hml, hn0, hr, hown, hts, hlocks, hK, hcl, hfr, hlo, hmc, hms, hnw⟩ := C
  intro H locs ls hP hD hT hS hl
  exact lv_iload hx hb hdg (lv_at hl q hq) (K H locs ls hP hD hT hS hl)
theorem J.lload_n (C : Cx X own cc n0 ret fr lo) {k : Fin 4} {i : Nat} {x : Int64} (hdg : decode cc pc = .ok (.lload_n k, 1)) (hi : (k : Nat) = i) (q : Nat) (hq : loc[q]? = some (i, .long x)) (K : J X (pc + 1) loc (.long x :: rest) σ) : J X pc loc rest σ := by
  obtain ⟨p, l, e, R, s, m, args, below, meth, c, D, cI, ad, A0, ks, nL, mc, ms, Q⟩ := X
  obtain ⟨hx, hb, hml, hn0, hr, hown, hts, hlocks, hK, hcl, hfr, hlo, hmc, hms, hnw⟩ := C
  intro H locs ls hP hD hT hS hl
  exact lv_lload_n hx hb hdg hi (lv_at hl q hq) (K H locs ls hP hD hT hS hl)
theorem J.lload (C : Cx X own cc n0 ret fr lo) {i : Nat} {x : Int64} (hdg : decode cc pc = .ok (.lload i, 2)) (q : Nat) (hq : loc[q]? = some (i, .long x)) (K : J X (pc + 2) loc (.long x :: rest) σ) : J X pc loc rest σ := by
  obtain ⟨p, l, e, R, s, m, args, below, meth, c, D, cI, ad, A0, ks, nL, mc, ms, Q⟩ := X
  obtain ⟨hx, hb, hml, hn0, hr, hown, hts, hlocks, hK, hcl, hfr, hlo, hmc, hms, hnw⟩ := C
  intro H locs ls hP hD hT hS hl
  exact lv_lload hx hb hdg (lv_at hl q hq) (K H locs ls hP hD hT hS hl)
theorem J.aload_n (C : Cx X own cc n0 ret fr lo) {k : Fin 4} {i : Nat} {x : Nat} (hdg : decode cc pc = .ok (.aload_n k, 1)) (hi : (k : Nat) = i) (q : Nat) (hq : loc[q]? = some (i, .ref x)) (K : J X (pc + 1) loc (.ref x :: rest) σ) : J X pc loc rest σ := by
  obtain ⟨p, l, e, R, s, m, args, below, meth, c, D, cI, ad, A0, ks, nL, mc, ms, Q⟩ := X
  obtain ⟨hx, hb, hml, hn0, hr, hown, hts, hlocks, hK, hcl, hfr, hlo, hmc, hms, hnw⟩ := C
  intro H locs ls hP hD hT hS hl
  exact lv_aload_n hx hb hdg hi (lv_at hl q hq) (K H locs ls hP hD hT hS hl)
theorem J.aload (C : Cx X own cc n0 ret fr lo) {i : Nat} {x : Nat} (hdg : decode cc pc = .ok (.aload i, 2)) (q : Nat) (hq : loc[q]? = some (i, .ref x)) (K : J X (pc + 2) loc (.ref x :: rest) σ) : J X pc loc rest σ := by
  obtain ⟨p, l, e, R, s, m, args, below, meth, c, D, cI, ad, A0, ks, nL, mc, ms, Q⟩ := X
  obtain ⟨hx, hb, hml, hn0, hr, hown, hts, hlocks, hK, hcl, hfr, hlo, hmc, hms, hnw⟩ := C
  intro H locs ls hP hD hT hS hl
  exact lv_aload hx hb hdg (lv_at hl q hq) (K H locs ls hP hD hT hS hl)
theorem J.dload (C : Cx X own cc n0 ret fr lo) {i : Nat} {x : UInt64} (hdg : decode cc pc = .ok (.dload i, 2)) (q : Nat) (hq : loc[q]? = some (i, .double x)) (K : J X (pc + 2) loc (.double x :: rest) σ) : J X pc loc rest σ := by
  obtain ⟨p, l, e, R, s, m, args, below, meth, c, D, cI, ad, A0, ks, nL, mc, ms, Q⟩ := X
  obtain ⟨hx, hb, hml, hn0, hr, hown, hts, hlocks, hK, hcl, hfr, hlo, hmc, hms, hnw⟩ := C
  intro H locs ls hP hD hT hS hl
  exact lv_dload hx hb hdg (lv_at hl q hq) (K H locs ls hP hD hT hS hl)
theorem J.istore_n (C : Cx X own cc n0 ret fr lo) {k : Fin 4} {i : Nat} {x : Int32} {loc' : List (Nat × Value)} (hdg : decode cc pc = .ok (.istore_n k, 1)) (hi : (k : Nat) = i) (hn : i < n0) (hl' : (i, Value.int x) :: loc.filter (fun q => !(q.1 == i) && !(q.1 + 1 == i && q.2.category == 2)) = loc') (K : J X (pc + 1) loc' rest σ) : J X pc loc (.int x :: rest) σ := by
  obtain ⟨p, l, e, R, s, m, args, below, meth, c, D, cI, ad, A0, ks, nL, mc, ms, Q⟩ := X
  obtain ⟨hx, hb, hml, hn0, hr, hown, hts, hlocks, hK, hcl, hfr, hlo, hmc, hms, hnw⟩ := C
  subst hn0
  intro H locs ls hP hD hT hS hl
  exact lv_istore_n hx hb hdg hi hl hn hl' (fun ls hl => K H locs ls hP hD hT hS hl)
theorem J.istore (C : Cx X own cc n0 ret fr lo) {i : Nat} {x : Int32} {loc' : List (Nat × Value)} (hdg : decode cc pc = .ok (.istore i, 2)) (hn : i < n0) (hl' : (i, Value.int x) :: loc.filter (fun q => !(q.1 == i) && !(q.1 + 1 == i && q.2.category == 2)) = loc') (K : J X (pc + 2) loc' rest σ) : J X pc loc (.int x :: rest) σ := by
  obtain ⟨p, l, e, R, s, m, args, below, meth, c, D, cI, ad, A0, ks, nL, mc, ms, Q⟩ := X
  obtain ⟨hx, hb, hml, hn0, hr, hown, hts, hlocks, hK, hcl, hfr, hlo, hmc, hms, hnw⟩ := C
  subst hn0
  intro H locs ls hP hD hT hS hl
  exact lv_istore hx hb hdg hl hn hl' (fun ls hl => K H locs ls hP hD hT hS hl)
theorem J.lstore_n (C : Cx X own cc n0 ret fr lo) {k : Fin 4} {i : Nat} {x : Int64} {loc' : List (Nat × Value)} (hdg : decode cc pc = .ok (.lstore_n k, 1)) (hi : (k : Nat) = i) (hn : i + 1 < n0) (hl' : (i, Value.long x) :: loc.filter (fun q => !(q.1 == i) && (!(q.1 == i + 1) && !(q.1 + 1 == i && q.2.category == 2))) = loc') (K : J X (pc + 1) loc' rest σ) : J X pc loc (.long x :: rest) σ := by
  obtain ⟨p, l, e, R, s, m, args, below, meth, c, D, cI, ad, A0, ks, nL, mc, ms, Q⟩ := X
  obtain ⟨hx, hb, hml, hn0, hr, hown, hts, hlocks, hK, hcl, hfr, hlo, hmc, hms, hnw⟩ := C
  subst hn0
  intro H locs ls hP hD hT hS hl
  exact lv_lstore_n hx hb hdg hi hl hn hl' (fun ls hl => K H locs ls hP hD hT hS hl)
theorem J.lstore (C : Cx X own cc n0 ret fr lo) {i : Nat} {x : Int64} {loc' : List (Nat × Value)} (hdg : decode cc pc = .ok (.lstore i, 2)) (hn : i + 1 < n0) (hl' : (i, Value.long x) :: loc.filter (fun q => !(q.1 == i) && (!(q.1 == i + 1) && !(q.1 + 1 == i && q.2.category == 2))) = loc') (K : J X (pc + 2) loc' rest σ) : J X pc loc (.long x :: rest) σ := by
  obtain ⟨p, l, e, R, s, m, args, below, meth, c, D, cI, ad, A0, ks, nL, mc, ms, Q⟩ := X
  obtain ⟨hx, hb, hml, hn0, hr, hown, hts, hlocks, hK, hcl, hfr, hlo, hmc, hms, hnw⟩ := C
  subst hn0
  intro H locs ls hP hD hT hS hl
  exact lv_lstore hx hb hdg hl hn hl' (fun ls hl => K H locs ls hP hD hT hS hl)
theorem J.astore_n (C : Cx X own cc n0 ret fr lo) {k : Fin 4} {i : Nat} {x : Nat} {loc' : List (Nat × Value)} (hdg : decode cc pc = .ok (.astore_n k, 1)) (hi : (k : Nat) = i) (hn : i < n0) (hl' : (i, Value.ref x) :: loc.filter (fun q => !(q.1 == i) && !(q.1 + 1 == i && q.2.category == 2)) = loc') (K : J X (pc + 1) loc' rest σ) : J X pc loc (.ref x :: rest) σ := by
  obtain ⟨p, l, e, R, s, m, args, below, meth, c, D, cI, ad, A0, ks, nL, mc, ms, Q⟩ := X
  obtain ⟨hx, hb, hml, hn0, hr, hown, hts, hlocks, hK, hcl, hfr, hlo, hmc, hms, hnw⟩ := C
  subst hn0
  intro H locs ls hP hD hT hS hl
  exact lv_astore_n hx hb hdg hi hl hn hl' (fun ls hl => K H locs ls hP hD hT hS hl)
theorem J.astore (C : Cx X own cc n0 ret fr lo) {i : Nat} {x : Nat} {loc' : List (Nat × Value)} (hdg : decode cc pc = .ok (.astore i, 2)) (hn : i < n0) (hl' : (i, Value.ref x) :: loc.filter (fun q => !(q.1 == i) && !(q.1 + 1 == i && q.2.category == 2)) = loc') (K : J X (pc + 2) loc' rest σ) : J X pc loc (.ref x :: rest) σ := by
  obtain ⟨p, l, e, R, s, m, args, below, meth, c, D, cI, ad, A0, ks, nL, mc, ms, Q⟩ := X
  obtain ⟨hx, hb, hml, hn0, hr, hown, hts, hlocks, hK, hcl, hfr, hlo, hmc, hms, hnw⟩ := C
  subst hn0
  intro H locs ls hP hD hT hS hl
  exact lv_astore hx hb hdg hl hn hl' (fun ls hl => K H locs ls hP hD hT hS hl)
theorem J.iinc (C : Cx X own cc n0 ret fr lo) {i k : Nat} {n : Int} {x v : Int32} {loc' : List (Nat × Value)} (hdg : decode cc pc = .ok (.iinc i n, 3)) (hk : loc[k]? = some (i, .int x)) (hv : x + Int32.ofInt n = v) (hn : i < n0) (hl' : (i, Value.int v) :: loc.filter (fun q => !(q.1 == i) && !(q.1 + 1 == i && q.2.category == 2)) = loc') (K : J X (pc + 3) loc' rest σ) : J X pc loc rest σ := by
  obtain ⟨p, l, e, R, s, m, args, below, meth, c, D, cI, ad, A0, ks, nL, mc, ms, Q⟩ := X
  obtain ⟨hx, hb, hml, hn0, hr, hown, hts, hlocks, hK, hcl, hfr, hlo, hmc, hms, hnw⟩ := C
  subst hn0
  intro H locs ls hP hD hT hS hl
  exact lv_iinc hx hb hdg hl hk hv hn hl' (fun ls hl => K H locs ls hP hD hT hS hl)
theorem J.iadd (C : Cx X own cc n0 ret fr lo) {x y : Int32} (hdg : decode cc pc = .ok (.iadd, 1)) (K : J X (pc + 1) loc (.int (x + y) :: rest) σ) : J X pc loc (.int y :: .int x :: rest) σ := by
  obtain ⟨p, l, e, R, s, m, args, below, meth, c, D, cI, ad, A0, ks, nL, mc, ms, Q⟩ := X
  obtain ⟨hx, hb, hml, hn0, hr, hown, hts, hlocks, hK, hcl, hfr, hlo, hmc, hms, hnw⟩ := C
  intro H locs ls hP hD hT hS hl
  exact lv_iadd hx hb hdg (K H locs ls hP hD hT hS hl)
theorem J.isub (C : Cx X own cc n0 ret fr lo) {x y : Int32} (hdg : decode cc pc = .ok (.isub, 1)) (K : J X (pc + 1) loc (.int (x - y) :: rest) σ) : J X pc loc (.int y :: .int x :: rest) σ := by
  obtain ⟨p, l, e, R, s, m, args, below, meth, c, D, cI, ad, A0, ks, nL, mc, ms, Q⟩ := X
  obtain ⟨hx, hb, hml, hn0, hr, hown, hts, hlocks, hK, hcl, hfr, hlo, hmc, hms, hnw⟩ := C
  intro H locs ls hP hD hT hS hl
  exact lv_isub hx hb hdg (K H locs ls hP hD hT hS hl)
theorem J.imul (C : Cx X own cc n0 ret fr lo) {x y : Int32} (hdg : decode cc pc = .ok (.imul, 1)) (K : J X (pc + 1) loc (.int (x * y) :: rest) σ) : J X pc loc (.int y :: .int x :: rest) σ := by
  obtain ⟨p, l, e, R, s, m, args, below, meth, c, D, cI, ad, A0, ks, nL, mc, ms, Q⟩ := X
  obtain ⟨hx, hb, hml, hn0, hr, hown, hts, hlocks, hK, hcl, hfr, hlo, hmc, hms, hnw⟩ := C
  intro H locs ls hP hD hT hS hl
  exact lv_imul hx hb hdg (K H locs ls hP hD hT hS hl)
theorem J.iand (C : Cx X own cc n0 ret fr lo) {x y : Int32} (hdg : decode cc pc = .ok (.iand, 1)) (K : J X (pc + 1) loc (.int (x &&& y) :: rest) σ) : J X pc loc (.int y :: .int x :: rest) σ := by
  obtain ⟨p, l, e, R, s, m, args, below, meth, c, D, cI, ad, A0, ks, nL, mc, ms, Q⟩ := X
  obtain ⟨hx, hb, hml, hn0, hr, hown, hts, hlocks, hK, hcl, hfr, hlo, hmc, hms, hnw⟩ := C
  intro H locs ls hP hD hT hS hl
  exact lv_iand hx hb hdg (K H locs ls hP hD hT hS hl)
theorem J.ior (C : Cx X own cc n0 ret fr lo) {x y : Int32} (hdg : decode cc pc = .ok (.ior, 1)) (K : J X (pc + 1) loc (.int (x ||| y) :: rest) σ) : J X pc loc (.int y :: .int x :: rest) σ := by
  obtain ⟨p, l, e, R, s, m, args, below, meth, c, D, cI, ad, A0, ks, nL, mc, ms, Q⟩ := X
  obtain ⟨hx, hb, hml, hn0, hr, hown, hts, hlocks, hK, hcl, hfr, hlo, hmc, hms, hnw⟩ := C
  intro H locs ls hP hD hT hS hl
  exact lv_ior hx hb hdg (K H locs ls hP hD hT hS hl)
theorem J.ixor (C : Cx X own cc n0 ret fr lo) {x y : Int32} (hdg : decode cc pc = .ok (.ixor, 1)) (K : J X (pc + 1) loc (.int (x ^^^ y) :: rest) σ) : J X pc loc (.int y :: .int x :: rest) σ := by
  obtain ⟨p, l, e, R, s, m, args, below, meth, c, D, cI, ad, A0, ks, nL, mc, ms, Q⟩ := X
  obtain ⟨hx, hb, hml, hn0, hr, hown, hts, hlocks, hK, hcl, hfr, hlo, hmc, hms, hnw⟩ := C
  intro H locs ls hP hD hT hS hl
  exact lv_ixor hx hb hdg (K H locs ls hP hD hT hS hl)
theorem J.ishl (C : Cx X own cc n0 ret fr lo) {x y : Int32} (hdg : decode cc pc = .ok (.ishl, 1)) (K : J X (pc + 1) loc (.int (x <<< (y &&& 31)) :: rest) σ) : J X pc loc (.int y :: .int x :: rest) σ := by
  obtain ⟨p, l, e, R, s, m, args, below, meth, c, D, cI, ad, A0, ks, nL, mc, ms, Q⟩ := X
  obtain ⟨hx, hb, hml, hn0, hr, hown, hts, hlocks, hK, hcl, hfr, hlo, hmc, hms, hnw⟩ := C
  intro H locs ls hP hD hT hS hl
  exact lv_ishl hx hb hdg (K H locs ls hP hD hT hS hl)
theorem J.ishr (C : Cx X own cc n0 ret fr lo) {x y : Int32} (hdg : decode cc pc = .ok (.ishr, 1)) (K : J X (pc + 1) loc (.int (x >>> (y &&& 31)) :: rest) σ) : J X pc loc (.int y :: .int x :: rest) σ := by
  obtain ⟨p, l, e, R, s, m, args, below, meth, c, D, cI, ad, A0, ks, nL, mc, ms, Q⟩ := X
  obtain ⟨hx, hb, hml, hn0, hr, hown, hts, hlocks, hK, hcl, hfr, hlo, hmc, hms, hnw⟩ := C
  intro H locs ls hP hD hT hS hl
  exact lv_ishr hx hb hdg (K H locs ls hP hD hT hS hl)
theorem J.ladd (C : Cx X own cc n0 ret fr lo) {x y : Int64} (hdg : decode cc pc = .ok (.ladd, 1)) (K : J X (pc + 1) loc (.long (x + y) :: rest) σ) : J X pc loc (.long y :: .long x :: rest) σ := by
  obtain ⟨p, l, e, R, s, m, args, below, meth, c, D, cI, ad, A0, ks, nL, mc, ms, Q⟩ := X
  obtain ⟨hx, hb, hml, hn0, hr, hown, hts, hlocks, hK, hcl, hfr, hlo, hmc, hms, hnw⟩ := C
  intro H locs ls hP hD hT hS hl
  exact lv_ladd hx hb hdg (K H locs ls hP hD hT hS hl)
theorem J.lsub (C : Cx X own cc n0 ret fr lo) {x y : Int64} (hdg : decode cc pc = .ok (.lsub, 1)) (K : J X (pc + 1) loc (.long (x - y) :: rest) σ) : J X pc loc (.long y :: .long x :: rest) σ := by
  obtain ⟨p, l, e, R, s, m, args, below, meth, c, D, cI, ad, A0, ks, nL, mc, ms, Q⟩ := X
  obtain ⟨hx, hb, hml, hn0, hr, hown, hts, hlocks, hK, hcl, hfr, hlo, hmc, hms, hnw⟩ := C
  intro H locs ls hP hD hT hS hl
  exact lv_lsub hx hb hdg (K H locs ls hP hD hT hS hl)
theorem J.lmul (C : Cx X own cc n0 ret fr lo) {x y : Int64} (hdg : decode cc pc = .ok (.lmul, 1)) (K : J X (pc + 1) loc (.long (x * y) :: rest) σ) : J X pc loc (.long y :: .long x :: rest) σ := by
  obtain ⟨p, l, e, R, s, m, args, below, meth, c, D, cI, ad, A0, ks, nL, mc, ms, Q⟩ := X
  obtain ⟨hx, hb, hml, hn0, hr, hown, hts, hlocks, hK, hcl, hfr, hlo, hmc, hms, hnw⟩ := C
  intro H locs ls hP hD hT hS hl
  exact lv_lmul hx hb hdg (K H locs ls hP hD hT hS hl)
theorem J.lxor (C : Cx X own cc n0 ret fr lo) {x y : Int64} (hdg : decode cc pc = .ok (.lxor, 1)) (K : J X (pc + 1) loc (.long (x ^^^ y) :: rest) σ) : J X pc loc (.long y :: .long x :: rest) σ := by
  obtain ⟨p, l, e, R, s, m, args, below, meth, c, D, cI, ad, A0, ks, nL, mc, ms, Q⟩ := X
  obtain ⟨hx, hb, hml, hn0, hr, hown, hts, hlocks, hK, hcl, hfr, hlo, hmc, hms, hnw⟩ := C
  intro H locs ls hP hD hT hS hl
  exact lv_lxor hx hb hdg (K H locs ls hP hD hT hS hl)
theorem J.idiv (C : Cx X own cc n0 ret fr lo) {x y : Int32} (hdg : decode cc pc = .ok (.idiv, 1)) (hne : ¬ y = 0) (K : J X (pc + 1) loc (.int (x / y) :: rest) σ) : J X pc loc (.int y :: .int x :: rest) σ := by
  obtain ⟨p, l, e, R, s, m, args, below, meth, c, D, cI, ad, A0, ks, nL, mc, ms, Q⟩ := X
  obtain ⟨hx, hb, hml, hn0, hr, hown, hts, hlocks, hK, hcl, hfr, hlo, hmc, hms, hnw⟩ := C
  intro H locs ls hP hD hT hS hl
  exact lv_idiv hx hb hdg hne (K H locs ls hP hD hT hS hl)
theorem J.irem (C : Cx X own cc n0 ret fr lo) {x y : Int32} (hdg : decode cc pc = .ok (.irem, 1)) (hne : ¬ y = 0) (K : J X (pc + 1) loc (.int (x - x / y * y) :: rest) σ) : J X pc loc (.int y :: .int x :: rest) σ := by
  obtain ⟨p, l, e, R, s, m, args, below, meth, c, D, cI, ad, A0, ks, nL, mc, ms, Q⟩ := X
  obtain ⟨hx, hb, hml, hn0, hr, hown, hts, hlocks, hK, hcl, hfr, hlo, hmc, hms, hnw⟩ := C
  intro H locs ls hP hD hT hS hl
  exact lv_irem hx hb hdg hne (K H locs ls hP hD hT hS hl)
theorem J.ldiv (C : Cx X own cc n0 ret fr lo) {x y : Int64} (hdg : decode cc pc = .ok (.ldiv, 1)) (hne : ¬ y = 0) (K : J X (pc + 1) loc (.long (x / y) :: rest) σ) : J X pc loc (.long y :: .long x :: rest) σ := by
  obtain ⟨p, l, e, R, s, m, args, below, meth, c, D, cI, ad, A0, ks, nL, mc, ms, Q⟩ := X
  obtain ⟨hx, hb, hml, hn0, hr, hown, hts, hlocks, hK, hcl, hfr, hlo, hmc, hms, hnw⟩ := C
  intro H locs ls hP hD hT hS hl
  exact lv_ldiv hx hb hdg hne (K H locs ls hP hD hT hS hl)
theorem J.ineg (C : Cx X own cc n0 ret fr lo) {x : Int32} (hdg : decode cc pc = .ok (.ineg, 1)) (K : J X (pc + 1) loc (.int (-x) :: rest) σ) : J X pc loc (.int x :: rest) σ := by
  obtain ⟨p, l, e, R, s, m, args, below, meth, c, D, cI, ad, A0, ks, nL, mc, ms, Q⟩ := X
  obtain ⟨hx, hb, hml, hn0, hr, hown, hts, hlocks, hK, hcl, hfr, hlo, hmc, hms, hnw⟩ := C
  intro H locs ls hP hD hT hS hl
  exact lv_ineg hx hb hdg (K H locs ls hP hD hT hS hl)
theorem J.i2l (C : Cx X own cc n0 ret fr lo) {x : Int32} (hdg : decode cc pc = .ok (.i2l, 1)) (K : J X (pc + 1) loc (.long x.toInt64 :: rest) σ) : J X pc loc (.int x :: rest) σ := by
  obtain ⟨p, l, e, R, s, m, args, below, meth, c, D, cI, ad, A0, ks, nL, mc, ms, Q⟩ := X
  obtain ⟨hx, hb, hml, hn0, hr, hown, hts, hlocks, hK, hcl, hfr, hlo, hmc, hms, hnw⟩ := C
  intro H locs ls hP hD hT hS hl
  exact lv_i2l hx hb hdg rfl (K H locs ls hP hD hT hS hl)
theorem J.l2i (C : Cx X own cc n0 ret fr lo) {x : Int64} (hdg : decode cc pc = .ok (.l2i, 1)) (K : J X (pc + 1) loc (.int x.toInt32 :: rest) σ) : J X pc loc (.long x :: rest) σ := by
  obtain ⟨p, l, e, R, s, m, args, below, meth, c, D, cI, ad, A0, ks, nL, mc, ms, Q⟩ := X
  obtain ⟨hx, hb, hml, hn0, hr, hown, hts, hlocks, hK, hcl, hfr, hlo, hmc, hms, hnw⟩ := C
  intro H locs ls hP hD hT hS hl
  exact lv_l2i hx hb hdg rfl (K H locs ls hP hD hT hS hl)
theorem J.i2c (C : Cx X own cc n0 ret fr lo) {x : Int32} (hdg : decode cc pc = .ok (.i2c, 1)) (K : J X (pc + 1) loc (.int (x.toUInt32 % 65536).toInt32 :: rest) σ) : J X pc loc (.int x :: rest) σ := by
  obtain ⟨p, l, e, R, s, m, args, below, meth, c, D, cI, ad, A0, ks, nL, mc, ms, Q⟩ := X
  obtain ⟨hx, hb, hml, hn0, hr, hown, hts, hlocks, hK, hcl, hfr, hlo, hmc, hms, hnw⟩ := C
  intro H locs ls hP hD hT hS hl
  exact lv_i2c hx hb hdg rfl (K H locs ls hP hD hT hS hl)
theorem J.lcmp (C : Cx X own cc n0 ret fr lo) {x y : Int64} (hdg : decode cc pc = .ok (.lcmp, 1)) (K : J X (pc + 1) loc (.int (lg_cmp x y) :: rest) σ) : J X pc loc (.long y :: .long x :: rest) σ := by
  obtain ⟨p, l, e, R, s, m, args, below, meth, c, D, cI, ad, A0, ks, nL, mc, ms, Q⟩ := X
  obtain ⟨hx, hb, hml, hn0, hr, hown, hts, hlocks, hK, hcl, hfr, hlo, hmc, hms, hnw⟩ := C
  intro H locs ls hP hD hT hS hl
  exact W.lcmp hx hb hdg (K H locs ls hP hD hT hS hl)
theorem J.dup (C : Cx X own cc n0 ret fr lo) {v : Value} (hdg : decode cc pc = .ok (.dup, 1)) (hv : v.category = 1) (K : J X (pc + 1) loc (v :: v :: rest) σ) : J X pc loc (v :: rest) σ := by
  obtain ⟨p, l, e, R, s, m, args, below, meth, c, D, cI, ad, A0, ks, nL, mc, ms, Q⟩ := X
  obtain ⟨hx, hb, hml, hn0, hr, hown, hts, hlocks, hK, hcl, hfr, hlo, hmc, hms, hnw⟩ := C
  intro H locs ls hP hD hT hS hl
  exact lv_dup hx hb hdg hv (K H locs ls hP hD hT hS hl)
theorem J.pop (C : Cx X own cc n0 ret fr lo) {v : Value} (hdg : decode cc pc = .ok (.pop, 1)) (hv : v.category = 1) (K : J X (pc + 1) loc (rest) σ) : J X pc loc (v :: rest) σ := by
  obtain ⟨p, l, e, R, s, m, args, below, meth, c, D, cI, ad, A0, ks, nL, mc, ms, Q⟩ := X
  obtain ⟨hx, hb, hml, hn0, hr, hown, hts, hlocks, hK, hcl, hfr, hlo, hmc, hms, hnw⟩ := C
  intro H locs ls hP hD hT hS hl
  exact lv_pop hx hb hdg hv (K H locs ls hP hD hT hS hl)
theorem J.dup2 (C : Cx X own cc n0 ret fr lo) {va vb : Value} (hdg : decode cc pc = .ok (.dup2, 1)) (hva : va.category = 1) (hvb : vb.category = 1) (K : J X (pc + 1) loc (va :: vb :: va :: vb :: rest) σ) : J X pc loc (va :: vb :: rest) σ := by
  obtain ⟨p, l, e, R, s, m, args, below, meth, c, D, cI, ad, A0, ks, nL, mc, ms, Q⟩ := X
  obtain ⟨hx, hb, hml, hn0, hr, hown, hts, hlocks, hK, hcl, hfr, hlo, hmc, hms, hnw⟩ := C
  intro H locs ls hP hD hT hS hl
  exact lv_dup2_11 hx hb hdg hva hvb (K H locs ls hP hD hT hS hl)
theorem J.if_eq (C : Cx X own cc n0 ret fr lo) {τ : Type} {A B t : τ} {x : Int32} {off : Int} {tgt : Nat} (hdg : decode cc pc = .ok (.ifCond .eq off, 3)) (ht : (pc : Int) + off = (tgt : Int)) (hf : (if x = 0 then A else B) = t) (kt : A = t → J X tgt loc rest σ) (kf : B = t → J X (pc + 3) loc rest σ) : J X pc loc (.int x :: rest) σ := by
  obtain ⟨p, l, e, R, s, m, args, below, meth, c, D, cI, ad, A0, ks, nL, mc, ms, Q⟩ := X
  obtain ⟨hx, hb, hml, hn0, hr, hown, hts, hlocks, hK, hcl, hfr, hlo, hmc, hms, hnw⟩ := C
  intro H locs ls hP hD hT hS hl
  exact lv_if_eq hx hb hdg ht (fun h => kt (by rw [← hf, if_pos h]) H locs ls hP hD hT hS hl) (fun h => kf (by rw [← hf, if_neg h]) H locs ls hP hD hT hS hl)
theorem J.icmp_eq (C : Cx X own cc n0 ret fr lo) {τ : Type} {A B t : τ} {x y : Int32} {off : Int} {tgt : Nat} (hdg : decode cc pc = .ok (.if_icmp .eq off, 3)) (ht : (pc : Int) + off = (tgt : Int)) (hf : (if x = y then A else B) = t) (kt : A = t → J X tgt loc rest σ) (kf : B = t → J X (pc + 3) loc rest σ) : J X pc loc (.int y :: .int x :: rest) σ := by
  obtain ⟨p, l, e, R, s, m, args, below, meth, c, D, cI, ad, A0, ks, nL, mc, ms, Q⟩ := X
  obtain ⟨hx, hb, hml, hn0, hr, hown, hts, hlocks, hK, hcl, hfr, hlo, hmc, hms, hnw⟩ := C
  intro H locs ls hP hD hT hS hl
  exact lv_icmp_eq hx hb hdg ht (fun h => kt (by rw [← hf, if_pos h]) H locs ls hP hD hT hS hl) (fun h => kf (by rw [← hf, if_neg h]) H locs ls hP hD hT hS hl)
theorem J.if_ne (C : Cx X own cc n0 ret fr lo) {τ : Type} {A B t : τ} {x : Int32} {off : Int} {tgt : Nat} (hdg : decode cc pc = .ok (.ifCond .ne off, 3)) (ht : (pc : Int) + off = (tgt : Int)) (hf : (if x = 0 then A else B) = t) (kt : B = t → J X tgt loc rest σ) (kf : A = t → J X (pc + 3) loc rest σ) : J X pc loc (.int x :: rest) σ := by
  obtain ⟨p, l, e, R, s, m, args, below, meth, c, D, cI, ad, A0, ks, nL, mc, ms, Q⟩ := X
  obtain ⟨hx, hb, hml, hn0, hr, hown, hts, hlocks, hK, hcl, hfr, hlo, hmc, hms, hnw⟩ := C
  intro H locs ls hP hD hT hS hl
  exact lv_if_ne hx hb hdg ht (fun h => kt (by rw [← hf, if_neg h]) H locs ls hP hD hT hS hl) (fun h => kf (by rw [← hf, if_pos h]) H locs ls hP hD hT hS hl)
theorem J.icmp_ne (C : Cx X own cc n0 ret fr lo) {τ : Type} {A B t : τ} {x y : Int32} {off : Int} {tgt : Nat} (hdg : decode cc pc = .ok (.if_icmp .ne off, 3)) (ht : (pc : Int) + off = (tgt : Int)) (hf : (if x = y then A else B) = t) (kt : B = t → J X tgt loc rest σ) (kf : A = t → J X (pc + 3) loc rest σ) : J X pc loc (.int y :: .int x :: rest) σ := by
  obtain ⟨p, l, e, R, s, m, args, below, meth, c, D, cI, ad, A0, ks, nL, mc, ms, Q⟩ := X
  obtain ⟨hx, hb, hml, hn0, hr, hown, hts, hlocks, hK, hcl, hfr, hlo, hmc, hms, hnw⟩ := C
  intro H locs ls hP hD hT hS hl
  exact lv_icmp_ne hx hb hdg ht (fun h => kt (by rw [← hf, if_neg h]) H locs ls hP hD hT hS hl) (fun h => kf (by rw [← hf, if_pos h]) H locs ls hP hD hT hS hl)
theorem J.if_lt (C : Cx X own cc n0 ret fr lo) {τ : Type} {A B t : τ} {x : Int32} {off : Int} {tgt : Nat} (hdg : decode cc pc = .ok (.ifCond .lt off, 3)) (ht : (pc : Int) + off = (tgt : Int)) (hf : (if x < 0 then A else B) = t) (kt : A = t → J X tgt loc rest σ) (kf : B = t → J X (pc + 3) loc rest σ) : J X pc loc (.int x :: rest) σ := by
  obtain ⟨p, l, e, R, s, m, args, below, meth, c, D, cI, ad, A0, ks, nL, mc, ms, Q⟩ := X
  obtain ⟨hx, hb, hml, hn0, hr, hown, hts, hlocks, hK, hcl, hfr, hlo, hmc, hms, hnw⟩ := C
  intro H locs ls hP hD hT hS hl
  exact lv_if_lt hx hb hdg ht (fun h => kt (by rw [← hf, if_pos h]) H locs ls hP hD hT hS hl) (fun h => kf (by rw [← hf, if_neg h]) H locs ls hP hD hT hS hl)
theorem J.icmp_lt (C : Cx X own cc n0 ret fr lo) {τ : Type} {A B t : τ} {x y : Int32} {off : Int} {tgt : Nat} (hdg : decode cc pc = .ok (.if_icmp .lt off, 3)) (ht : (pc : Int) + off = (tgt : Int)) (hf : (if x < y then A else B) = t) (kt : A = t → J X tgt loc rest σ) (kf : B = t → J X (pc + 3) loc rest σ) : J X pc loc (.int y :: .int x :: rest) σ := by
  obtain ⟨p, l, e, R, s, m, args, below, meth, c, D, cI, ad, A0, ks, nL, mc, ms, Q⟩ := X
  obtain ⟨hx, hb, hml, hn0, hr, hown, hts, hlocks, hK, hcl, hfr, hlo, hmc, hms, hnw⟩ := C
  intro H locs ls hP hD hT hS hl
  exact lv_icmp_lt hx hb hdg ht (fun h => kt (by rw [← hf, if_pos h]) H locs ls hP hD hT hS hl) (fun h => kf (by rw [← hf, if_neg h]) H locs ls hP hD hT hS hl)
theorem J.if_ge (C : Cx X own cc n0 ret fr lo) {τ : Type} {A B t : τ} {x : Int32} {off : Int} {tgt : Nat} (hdg : decode cc pc = .ok (.ifCond .ge off, 3)) (ht : (pc : Int) + off = (tgt : Int)) (hf : (if 0 ≤ x then A else B) = t) (kt : A = t → J X tgt loc rest σ) (kf : B = t → J X (pc + 3) loc rest σ) : J X pc loc (.int x :: rest) σ := by
  obtain ⟨p, l, e, R, s, m, args, below, meth, c, D, cI, ad, A0, ks, nL, mc, ms, Q⟩ := X
  obtain ⟨hx, hb, hml, hn0, hr, hown, hts, hlocks, hK, hcl, hfr, hlo, hmc, hms, hnw⟩ := C
  intro H locs ls hP hD hT hS hl
  exact lv_if_ge hx hb hdg ht (fun h => kt (by rw [← hf, if_pos h]) H locs ls hP hD hT hS hl) (fun h => kf (by rw [← hf, if_neg h]) H locs ls hP hD hT hS hl)
theorem J.icmp_ge (C : Cx X own cc n0 ret fr lo) {τ : Type} {A B t : τ} {x y : Int32} {off : Int} {tgt : Nat} (hdg : decode cc pc = .ok (.if_icmp .ge off, 3)) (ht : (pc : Int) + off = (tgt : Int)) (hf : (if y ≤ x then A else B) = t) (kt : A = t → J X tgt loc rest σ) (kf : B = t → J X (pc + 3) loc rest σ) : J X pc loc (.int y :: .int x :: rest) σ := by
  obtain ⟨p, l, e, R, s, m, args, below, meth, c, D, cI, ad, A0, ks, nL, mc, ms, Q⟩ := X
  obtain ⟨hx, hb, hml, hn0, hr, hown, hts, hlocks, hK, hcl, hfr, hlo, hmc, hms, hnw⟩ := C
  intro H locs ls hP hD hT hS hl
  exact lv_icmp_ge hx hb hdg ht (fun h => kt (by rw [← hf, if_pos h]) H locs ls hP hD hT hS hl) (fun h => kf (by rw [← hf, if_neg h]) H locs ls hP hD hT hS hl)
theorem J.if_gt (C : Cx X own cc n0 ret fr lo) {τ : Type} {A B t : τ} {x : Int32} {off : Int} {tgt : Nat} (hdg : decode cc pc = .ok (.ifCond .gt off, 3)) (ht : (pc : Int) + off = (tgt : Int)) (hf : (if 0 < x then A else B) = t) (kt : A = t → J X tgt loc rest σ) (kf : B = t → J X (pc + 3) loc rest σ) : J X pc loc (.int x :: rest) σ := by
  obtain ⟨p, l, e, R, s, m, args, below, meth, c, D, cI, ad, A0, ks, nL, mc, ms, Q⟩ := X
  obtain ⟨hx, hb, hml, hn0, hr, hown, hts, hlocks, hK, hcl, hfr, hlo, hmc, hms, hnw⟩ := C
  intro H locs ls hP hD hT hS hl
  exact lv_if_gt hx hb hdg ht (fun h => kt (by rw [← hf, if_pos h]) H locs ls hP hD hT hS hl) (fun h => kf (by rw [← hf, if_neg h]) H locs ls hP hD hT hS hl)
theorem J.icmp_gt (C : Cx X own cc n0 ret fr lo) {τ : Type} {A B t : τ} {x y : Int32} {off : Int} {tgt : Nat} (hdg : decode cc pc = .ok (.if_icmp .gt off, 3)) (ht : (pc : Int) + off = (tgt : Int)) (hf : (if y < x then A else B) = t) (kt : A = t → J X tgt loc rest σ) (kf : B = t → J X (pc + 3) loc rest σ) : J X pc loc (.int y :: .int x :: rest) σ := by
  obtain ⟨p, l, e, R, s, m, args, below, meth, c, D, cI, ad, A0, ks, nL, mc, ms, Q⟩ := X
  obtain ⟨hx, hb, hml, hn0, hr, hown, hts, hlocks, hK, hcl, hfr, hlo, hmc, hms, hnw⟩ := C
  intro H locs ls hP hD hT hS hl
  exact lv_icmp_gt hx hb hdg ht (fun h => kt (by rw [← hf, if_pos h]) H locs ls hP hD hT hS hl) (fun h => kf (by rw [← hf, if_neg h]) H locs ls hP hD hT hS hl)
theorem J.if_le (C : Cx X own cc n0 ret fr lo) {τ : Type} {A B t : τ} {x : Int32} {off : Int} {tgt : Nat} (hdg : decode cc pc = .ok (.ifCond .le off, 3)) (ht : (pc : Int) + off = (tgt : Int)) (hf : (if x ≤ 0 then A else B) = t) (kt : A = t → J X tgt loc rest σ) (kf : B = t → J X (pc + 3) loc rest σ) : J X pc loc (.int x :: rest) σ := by
  obtain ⟨p, l, e, R, s, m, args, below, meth, c, D, cI, ad, A0, ks, nL, mc, ms, Q⟩ := X
  obtain ⟨hx, hb, hml, hn0, hr, hown, hts, hlocks, hK, hcl, hfr, hlo, hmc, hms, hnw⟩ := C
  intro H locs ls hP hD hT hS hl
  exact lv_if_le hx hb hdg ht (fun h => kt (by rw [← hf, if_pos h]) H locs ls hP hD hT hS hl) (fun h => kf (by rw [← hf, if_neg h]) H locs ls hP hD hT hS hl)
theorem J.icmp_le (C : Cx X own cc n0 ret fr lo) {τ : Type} {A B t : τ} {x y : Int32} {off : Int} {tgt : Nat} (hdg : decode cc pc = .ok (.if_icmp .le off, 3)) (ht : (pc : Int) + off = (tgt : Int)) (hf : (if x ≤ y then A else B) = t) (kt : A = t → J X tgt loc rest σ) (kf : B = t → J X (pc + 3) loc rest σ) : J X pc loc (.int y :: .int x :: rest) σ := by
  obtain ⟨p, l, e, R, s, m, args, below, meth, c, D, cI, ad, A0, ks, nL, mc, ms, Q⟩ := X
  obtain ⟨hx, hb, hml, hn0, hr, hown, hts, hlocks, hK, hcl, hfr, hlo, hmc, hms, hnw⟩ := C
  intro H locs ls hP hD hT hS hl
  exact lv_icmp_le hx hb hdg ht (fun h => kt (by rw [← hf, if_pos h]) H locs ls hP hD hT hS hl) (fun h => kf (by rw [← hf, if_neg h]) H locs ls hP hD hT hS hl)
theorem J.goto (C : Cx X own cc n0 ret fr lo) {off : Int} {tgt : Nat} (hdg : decode cc pc = .ok (.goto off, 3)) (ht : (pc : Int) + off = (tgt : Int)) (K : J X tgt loc rest σ) : J X pc loc rest σ := by
  obtain ⟨p, l, e, R, s, m, args, below, meth, c, D, cI, ad, A0, ks, nL, mc, ms, Q⟩ := X
  obtain ⟨hx, hb, hml, hn0, hr, hown, hts, hlocks, hK, hcl, hfr, hlo, hmc, hms, hnw⟩ := C
  intro H locs ls hP hD hT hS hl
  exact lv_goto hx hb hdg ht (K H locs ls hP hD hT hS hl)
/-- what the tables say of a class, by its number -/
def Kc (ci : Nat) (C : String) (T : u_T) (N : Nat) (ty : Nat → FieldType) : Prop := vwCl[ci]? = some (C, T, N) ∧ ci < 100 ∧ (∀ w ∈ u_ws C T N, w ∈ lw_g) ∧ (∀ k, k < N → parseFieldDescriptor (T k).2.2.1 = some (ty k)) ∧ (∀ a, a < N → ∀ b, b < N → a ≠ b → (T a).2.1 ≠ (T b).2.1) ∧ (fpat ci).length = N
theorem ce_obj {cI : Nat → ClassId} {ad : Nat → Nat} {σ : Mem} {k ci : Nat} (h : clsOf k = ci) (hc : ci < 100) : ce cI ad σ k = .inr (ci, fl (fun j => ad (ptr k j)) (σ k) (fpat ci) 0) := by
  subst h
  simp [ce, hc]
theorem ce_lng {cI : Nat → ClassId} {ad : Nat → Nat} {σ : Mem} {k : Nat} (h : clsOf k = 104) : ce cI ad σ k = .inl (cI 104, alen k, .inr (.inl (fun i => (σ k i).toInt64))) := by
  simp [ce, h]
theorem ce_arr {cI : Nat → ClassId} {ad : Nat → Nat} {σ : Mem} {k ci : Nat} (h : clsOf k = ci) (hc : ¬ ci < 100) (h4 : ¬ ci = 104) : ce cI ad σ k = .inl (cI ci, alen k, .inl (σ k)) := by
  subst h
  simp [ce, hc, h4]
theorem J.getR (C : Cx X own cc n0 ret fr lo) {ci N index : Nat} {Cn ref : String} {T : u_T} {ty : Nat → FieldType} (hk : Kc ci Cn T N ty) {k : Nat} (hok : Ok (Xks X) k ci) (j : Nat) (hj : (fpat ci)[j]? = some true) (hw : Cond.fieldLink own index ref (T j).2.1 (T j).2.2.1 ∈ lw_g) (href : (T j).1 = ref) (hdg : decode cc pc = .ok (.getfield index, 3)) (K : J X (pc + 3) loc (.ref (Xad X (ptr k j)) :: rest) σ) : J X pc loc (.ref (Xad X k) :: rest) σ := by
  obtain ⟨p, l, e, R, s, m, args, below, meth, c, D, cI, ad, A0, ks, nL, mc, ms, Q⟩ := X
  obtain ⟨hx, hb, hml, hn0, hr, hown, hts, hlocks, hK, hcl, hfr, hlo, hmc, hms, hnw⟩ := C
  obtain ⟨h1, h2, h3, h4, h5, h6⟩ := hk
  have hjN : j < N := by rw [← h6]; exact (List.getElem?_eq_some_iff.mp hj).1
  intro H locs ls hP hD hT hS hl
  obtain ⟨q, hq, he⟩ := wl_get cI ad σ hok.1
  rw [ce_obj hok.2 h2] at he
  refine va_get (D := D) hx hb hts h3 hown hK hP q he h1 j hjN (hts _ hw) (fun x hx => by rw [← href]; exact hx) (v := .ref (ad (ptr k j))) ?_ hdg (K H locs ls hP hD hT hS hl)
  rw [fl_ref _ _ _ _ _ hj, Nat.zero_add]
theorem J.getI (C : Cx X own cc n0 ret fr lo) {ci N index : Nat} {Cn ref : String} {T : u_T} {ty : Nat → FieldType} (hk : Kc ci Cn T N ty) {k : Nat} (hok : Ok (Xks X) k ci) (j : Nat) (hj : (fpat ci)[j]? = some false) (hw : Cond.fieldLink own index ref (T j).2.1 (T j).2.2.1 ∈ lw_g) (href : (T j).1 = ref) (hdg : decode cc pc = .ok (.getfield index, 3)) (K : J X (pc + 3) loc (.int (σ k j) :: rest) σ) : J X pc loc (.ref (Xad X k) :: rest) σ := by
  obtain ⟨p, l, e, R, s, m, args, below, meth, c, D, cI, ad, A0, ks, nL, mc, ms, Q⟩ := X
  obtain ⟨hx, hb, hml, hn0, hr, hown, hts, hlocks, hK, hcl, hfr, hlo, hmc, hms, hnw⟩ := C
  obtain ⟨h1, h2, h3, h4, h5, h6⟩ := hk
  have hjN : j < N := by rw [← h6]; exact (List.getElem?_eq_some_iff.mp hj).1
  intro H locs ls hP hD hT hS hl
  obtain ⟨q, hq, he⟩ := wl_get cI ad σ hok.1
  rw [ce_obj hok.2 h2] at he
  refine va_get (D := D) hx hb hts h3 hown hK hP q he h1 j hjN (hts _ hw) (fun x hx => by rw [← href]; exact hx) (v := .int (σ k j)) ?_ hdg (K H locs ls hP hD hT hS hl)
  rw [fl_int _ _ _ _ _ hj, Nat.zero_add]
theorem J.putI (C : Cx X own cc n0 ret fr lo) {ci N index : Nat} {Cn ref : String} {T : u_T} {ty : Nat → FieldType} (hk : Kc ci Cn T N ty) {k : Nat} (hok : Ok (Xks X) k ci) (j : Nat) (hj : (fpat ci)[j]? = some false) (hw : Cond.fieldLink own index ref (T j).2.1 (T j).2.2.1 ∈ lw_g) (href : (T j).1 = ref) (hfin : (T j).2.2.2 = false) {v : Int32} (hn : narrow (ty j) (.int v) = .int v) (hfit : fits (ty j) (.int v) = true) (hdg : decode cc pc = .ok (.putfield index, 3)) (K : J X (pc + 3) loc rest (gput σ k (upd (σ k) j v))) : J X pc loc (.int v :: .ref (Xad X k) :: rest) σ := by
  obtain ⟨p, l, e, R, s, m, args, below, meth, c, D, cI, ad, A0, ks, nL, mc, ms, Q⟩ := X
  obtain ⟨hx, hb, hml, hn0, hr, hown, hts, hlocks, hK, hcl, hfr, hlo, hmc, hms, hnw⟩ := C
  obtain ⟨h1, h2, h3, h4, h5, h6⟩ := hk
  have hjN : j < N := by rw [← h6]; exact (List.getElem?_eq_some_iff.mp hj).1
  intro H locs ls hP hD hT hS hl
  obtain ⟨q, hq, he⟩ := wl_get cI ad σ hok.1
  have hset := wl_set hD hq (upd (σ k) j v)
  rw [ce_obj hok.2 h2, gput_s] at hset
  rw [ce_obj hok.2 h2] at he
  have hfs : (fl (fun j => ad (ptr k j)) (σ k) (fpat ci) 0).set j (.int v) = fl (fun j => ad (ptr k j)) (upd (σ k) j v) (fpat ci) 0 := by
    have := fl_set (fun j => ad (ptr k j)) (σ k) v (fpat ci) 0 j hj
    rw [Nat.zero_add] at this
    exact this
  refine va_put (D := D) hx hb hts h3 ty h4 h5 hown hK hP hD hS q he h1 j hjN (hts _ hw) (fun x hx => by rw [← href]; exact hx) hfin (h4 j hjN) hn hfit (by rw [fl_len, h6]; exact hjN) hdg (fun H1 locs1 hP1 hD1 hS1 => ?_)
  rw [hfs, hset] at hP1 hD1
  exact K H1 locs1 ls hP1 hD1 (hT.put (by rw [hok.2]; omega) _) hS1 hl
/-- an index that is in a row -/
def ckI (i : Int32) (n : Nat) : Bool := decide (0 ≤ i.toInt ∧ i.toInt < (n : Int))
theorem ckI_in {i : Int32} {n : Nat} (h : ckI i n = true) : vp_in i n := vp_in_iff.mpr (by simpa [ckI] using h)
def chk {τ : Type} (b : Bool) (e : Option τ) : Option τ := if b then e else none
theorem chk_some {τ : Type} {b : Bool} {e : Option τ} {t : τ} (h : chk b e = some t) : b = true ∧ e = some t := by
  cases b
  · simp [chk] at h
  · exact ⟨rfl, h⟩
def ix (i : Int32) : Nat := i.toNatClampNeg
theorem J.iald (C : Cx X own cc n0 ret fr lo) {τ : Type} {e : Option τ} {t : τ} {k : Nat} (hok : Ok (Xks X) k 100) {i : Int32} (hf : chk (ckI i (alen k)) e = some t) (hdg : decode cc pc = .ok (.iaload, 1)) (K : e = some t → J X (pc + 1) loc (.int (σ k (ix i)) :: rest) σ) : J X pc loc (.int i :: .ref (Xad X k) :: rest) σ := by
  obtain ⟨p, l, e, R, s, m, args, below, meth, c, D, cI, ad, A0, ks, nL, mc, ms, Q⟩ := X
  obtain ⟨hx, hb, hml, hn0, hr, hown, hts, hlocks, hK, hcl, hfr, hlo, hmc, hms, hnw⟩ := C
  intro H locs ls hP hD hT hS hl
  obtain ⟨hin, hf⟩ := chk_some hf
  obtain ⟨q, hq, he⟩ := wl_get cI ad σ hok.1
  rw [ce_arr hok.2 (by decide) (by decide)] at he
  exact va_iald hx hb hK hP q 0 he rfl (ckI_in hin) hdg (K hf H locs ls hP hD hT hS hl)
theorem J.cald (C : Cx X own cc n0 ret fr lo) {τ : Type} {e : Option τ} {t : τ} {k : Nat} (hok : Ok (Xks X) k 102) {i : Int32} (hf : chk (ckI i (alen k)) e = some t) (hdg : decode cc pc = .ok (.caload, 1)) (K : e = some t → J X (pc + 1) loc (.int (σ k (ix i)) :: rest) σ) : J X pc loc (.int i :: .ref (Xad X k) :: rest) σ := by
  obtain ⟨p, l, e, R, s, m, args, below, meth, c, D, cI, ad, A0, ks, nL, mc, ms, Q⟩ := X
  obtain ⟨hx, hb, hml, hn0, hr, hown, hts, hlocks, hK, hcl, hfr, hlo, hmc, hms, hnw⟩ := C
  intro H locs ls hP hD hT hS hl
  obtain ⟨hin, hf⟩ := chk_some hf
  obtain ⟨q, hq, he⟩ := wl_get cI ad σ hok.1
  rw [ce_arr hok.2 (by decide) (by decide)] at he
  exact va_cald hx hb hK hP q 1 he rfl (ckI_in hin) hdg (K hf H locs ls hP hD hT hS hl)
/-- of a static row -/
theorem J.sald (C : Cx X own cc n0 ret fr lo) {τ : Type} {e : Option τ} {t : τ} {k : Nat} (hok : clsOf k = 103) {i : Int32} (hf : chk (ckI i (alen k)) e = some t) (hdg : decode cc pc = .ok (.iaload, 1)) (K : e = some t → J X (pc + 1) loc (.int (σ k (ix i)) :: rest) σ) : J X pc loc (.int i :: .ref (Xad X k) :: rest) σ := by
  obtain ⟨p, l, e, R, s, m, args, below, meth, c, D, cI, ad, A0, ks, nL, mc, ms, Q⟩ := X
  obtain ⟨hx, hb, hml, hn0, hr, hown, hts, hlocks, hK, hcl, hfr, hlo, hmc, hms, hnw⟩ := C
  intro H locs ls hP hD hT hS hl
  obtain ⟨hin, hf⟩ := chk_some hf
  exact va_ti hx hb (hT k hok) hS (ckI_in hin) rfl hdg (K hf H locs ls hP hD hT hS hl)
theorem J.arrlen (C : Cx X own cc n0 ret fr lo) {k : Nat} (hok : Ok (Xks X) k 100) (hdg : decode cc pc = .ok (.arraylength, 1)) (K : J X (pc + 1) loc (.int (Int32.ofNat (alen k)) :: rest) σ) : J X pc loc (.ref (Xad X k) :: rest) σ := by
  obtain ⟨p, l, e, R, s, m, args, below, meth, c, D, cI, ad, A0, ks, nL, mc, ms, Q⟩ := X
  obtain ⟨hx, hb, hml, hn0, hr, hown, hts, hlocks, hK, hcl, hfr, hlo, hmc, hms, hnw⟩ := C
  intro H locs ls hP hD hT hS hl
  obtain ⟨q, hq, he⟩ := wl_get cI ad σ hok.1
  rw [ce_arr hok.2 (by decide) (by decide)] at he
  exact va_alen hx hb hK hP q 0 he (ty := .int) rfl rfl hdg (K H locs ls hP hD hT hS hl)
theorem J.srrlen (C : Cx X own cc n0 ret fr lo) {k : Nat} (hok : clsOf k = 103) (hdg : decode cc pc = .ok (.arraylength, 1)) (K : J X (pc + 1) loc (.int (Int32.ofNat (alen k)) :: rest) σ) : J X pc loc (.ref (Xad X k) :: rest) σ := by
  obtain ⟨p, l, e, R, s, m, args, below, meth, c, D, cI, ad, A0, ks, nL, mc, ms, Q⟩ := X
  obtain ⟨hx, hb, hml, hn0, hr, hown, hts, hlocks, hK, hcl, hfr, hlo, hmc, hms, hnw⟩ := C
  intro H locs ls hP hD hT hS hl
  exact va_tlen hx hb (hT k hok) hS rfl hdg (K H locs ls hP hD hT hS hl)

theorem J.iast (C : Cx X own cc n0 ret fr lo) {τ : Type} {e : Option τ} {t : τ} {k : Nat} (hok : Ok (Xks X) k 100) {i x : Int32} (hf : chk (ckI i (alen k)) e = some t) (hdg : decode cc pc = .ok (.iastore, 1)) (K : e = some t → J X (pc + 1) loc rest (gput σ k (upd (σ k) (ix i) x))) : J X pc loc (.int x :: .int i :: .ref (Xad X k) :: rest) σ := by
  obtain ⟨p, l, e, R, s, m, args, below, meth, c, D, cI, ad, A0, ks, nL, mc, ms, Q⟩ := X
  obtain ⟨hx, hb, hml, hn0, hr, hown, hts, hlocks, hK, hcl, hfr, hlo, hmc, hms, hnw⟩ := C
  intro H locs ls hP hD hT hS hl
  obtain ⟨hin, hf⟩ := chk_some hf
  obtain ⟨q, hq, he⟩ := wl_get cI ad σ hok.1
  have hset := wl_set hD hq (upd (σ k) (ix i) x)
  rw [ce_arr hok.2 (by decide) (by decide), gput_s] at hset
  rw [ce_arr hok.2 (by decide) (by decide)] at he
  refine va_iast hx hb hK hP hD hS q 0 he rfl (ckI_in hin) hdg (fun H1 locs1 hP1 hD1 hS1 => ?_)
  have hP1 : va_P D vwCl ((wl cI ad σ ks).set q (ad k, .inl (cI 100, alen k, .inl (upd (σ k) (ix i) x)))) H1 := hP1
  have hD1 : va_D A0 ((wl cI ad σ ks).set q (ad k, .inl (cI 100, alen k, .inl (upd (σ k) (ix i) x)))) := hD1
  rw [hset] at hP1 hD1
  exact K hf H1 locs1 ls hP1 hD1 (hT.put (by rw [hok.2]; decide) _) hS1 hl
theorem J.cast (C : Cx X own cc n0 ret fr lo) {τ : Type} {e : Option τ} {t : τ} {k : Nat} (hok : Ok (Xks X) k 102) {i x : Int32} (hf : chk (ckI i (alen k)) e = some t) (hdg : decode cc pc = .ok (.castore, 1)) (K : e = some t → J X (pc + 1) loc rest (gput σ k (upd (σ k) (ix i) (vp_nar .char x)))) : J X pc loc (.int x :: .int i :: .ref (Xad X k) :: rest) σ := by
  obtain ⟨p, l, e, R, s, m, args, below, meth, c, D, cI, ad, A0, ks, nL, mc, ms, Q⟩ := X
  obtain ⟨hx, hb, hml, hn0, hr, hown, hts, hlocks, hK, hcl, hfr, hlo, hmc, hms, hnw⟩ := C
  intro H locs ls hP hD hT hS hl
  obtain ⟨hin, hf⟩ := chk_some hf
  obtain ⟨q, hq, he⟩ := wl_get cI ad σ hok.1
  have hset := wl_set hD hq (upd (σ k) (ix i) (vp_nar .char x))
  rw [ce_arr hok.2 (by decide) (by decide), gput_s] at hset
  rw [ce_arr hok.2 (by decide) (by decide)] at he
  refine va_cast hx hb hK hP hD hS q 1 he rfl (ckI_in hin) hdg (fun H1 locs1 hP1 hD1 hS1 => ?_)
  have hP1 : va_P D vwCl ((wl cI ad σ ks).set q (ad k, .inl (cI 102, alen k, .inl (upd (σ k) (ix i) (vp_nar .char x))))) H1 := hP1
  have hD1 : va_D A0 ((wl cI ad σ ks).set q (ad k, .inl (cI 102, alen k, .inl (upd (σ k) (ix i) (vp_nar .char x))))) := hD1
  rw [hset] at hP1 hD1
  exact K hf H1 locs1 ls hP1 hD1 (hT.put (by rw [hok.2]; decide) _) hS1 hl
theorem J.lald (C : Cx X own cc n0 ret fr lo) {τ : Type} {e : Option τ} {t : τ} {k : Nat} (hok : Ok (Xks X) k 104) {i : Int32} (hf : chk (ckI i (alen k)) e = some t) (hdg : decode cc pc = .ok (.laload, 1)) (K : e = some t → J X (pc + 1) loc (.long (σ k (ix i)).toInt64 :: rest) σ) : J X pc loc (.int i :: .ref (Xad X k) :: rest) σ := by
  obtain ⟨p, l, e, R, s, m, args, below, meth, c, D, cI, ad, A0, ks, nL, mc, ms, Q⟩ := X
  obtain ⟨hx, hb, hml, hn0, hr, hown, hts, hlocks, hK, hcl, hfr, hlo, hmc, hms, hnw⟩ := C
  intro H locs ls hP hD hT hS hl
  obtain ⟨hin, hf⟩ := chk_some hf
  obtain ⟨q, hq, he⟩ := wl_get cI ad σ hok.1
  rw [ce_lng hok.2] at he
  exact va_lald hx hb hK hP q 2 he rfl (ckI_in hin) hdg (K hf H locs ls hP hD hT hS hl)
/-- a long that an int holds -/
def fit32 (x : Int64) : Bool := decide (x.toInt32.toInt64 = x)
theorem updL_fit {f : Nat → Int32} {i : Nat} {x : Int64} (h : fit32 x = true) : (fun j => (upd f i x.toInt32 j).toInt64) = vp_updL (fun j => (f j).toInt64) i x := by
  have h := of_decide_eq_true h
  funext j
  unfold upd vp_updL
  by_cases q : j = i <;> simp [q, h]
theorem J.last (C : Cx X own cc n0 ret fr lo) {τ : Type} {e : Option τ} {t : τ} {k : Nat} (hok : Ok (Xks X) k 104) {i : Int32} {x : Int64} (hf : chk (ckI i (alen k)) (chk (fit32 x) e) = some t) (hdg : decode cc pc = .ok (.lastore, 1)) (K : e = some t → J X (pc + 1) loc rest (gput σ k (upd (σ k) (ix i) x.toInt32))) : J X pc loc (.long x :: .int i :: .ref (Xad X k) :: rest) σ := by
  obtain ⟨p, l, e, R, s, m, args, below, meth, c, D, cI, ad, A0, ks, nL, mc, ms, Q⟩ := X
  obtain ⟨hx, hb, hml, hn0, hr, hown, hts, hlocks, hK, hcl, hfr, hlo, hmc, hms, hnw⟩ := C
  intro H locs ls hP hD hT hS hl
  obtain ⟨hin, hf⟩ := chk_some hf
  obtain ⟨hft, hf⟩ := chk_some hf
  obtain ⟨q, hq, he⟩ := wl_get cI ad σ hok.1
  have hset := wl_set hD hq (upd (σ k) (ix i) x.toInt32)
  rw [ce_lng hok.2, gput_s, updL_fit hft] at hset
  rw [ce_lng hok.2] at he
  refine va_last hx hb hK hP hD hS q 2 he rfl (ckI_in hin) hdg (fun H1 locs1 hP1 hD1 hS1 => ?_)
  have hP1 : va_P D vwCl ((wl cI ad σ ks).set q (ad k, .inl (cI 104, alen k, .inr (.inl (vp_updL (fun j => (σ k j).toInt64) (ix i) x))))) H1 := hP1
  have hD1 : va_D A0 ((wl cI ad σ ks).set q (ad k, .inl (cI 104, alen k, .inr (.inl (vp_updL (fun j => (σ k j).toInt64) (ix i) x))))) := hD1
  rw [hset] at hP1 hD1
  exact K hf H1 locs1 ls hP1 hD1 (hT.put (by rw [hok.2]; decide) _) hS1 hl
/-- a loop: its body goes on (inr) or goes out (inl) -/
def iter {S R : Type} (body : S → Option (R ⊕ S)) : Nat → S → Option R
  | 0, _ => none
  | n + 1, s => match body s with
    | none => none
    | some (.inl r) => some r
    | some (.inr s') => iter body n s'
theorem J_iter {S R : Type} {body : S → Option (R ⊕ S)} {JJ : S → Prop} {Ps : R → Prop} (hb : ∀ s t, body s = some t → (∀ r, t = .inl r → Ps r) → (∀ s', t = .inr s' → JJ s') → JJ s) : ∀ (n : Nat) (s : S) (r : R), iter body n s = some r → Ps r → JJ s := by
  intro n
  induction n with
  | zero => intro s r h; simp [iter] at h
  | succ n ih =>
    intro s r h hp
    rw [iter] at h
    cases hbs : body s with
    | none => rw [hbs] at h; cases h
    | some t =>
      rw [hbs] at h
      refine hb s t hbs ?_ ?_
      · intro r' e
        subst e
        cases h
        exact hp
      · intro s' e
        subst e
        exact ih s' r h hp
/-- ends -/
theorem J.iret (C : Cx X own cc n0 (some .int) fr lo) {v r : Int32} {σ' : Mem} (hR : Rt X (some (.int r)) σ') (hv : v = r) (hs : σ = σ') (hdg : decode cc pc = .ok (.ireturn, 1)) : J X pc loc [.int v] σ := by
  subst hv
  subst hs
  obtain ⟨p, l, e, R, s, m, args, below, meth, c, D, cI, ad, A0, ks, nL, mc, ms, Q⟩ := X
  obtain ⟨hx, hb, hml, hn0, hr, hown, hts, hlocks, hK, hcl, hfr, hlo, hmc, hms, hnw⟩ := C
  intro H locs ls hP hD hT hS hl
  show W _ _ _ _ _ _ _ _ _ _ _ _ _ _ Q _
  rw [show Q = _ from hR]
  exact W.iret hx hb hr (fun t ht hW => ⟨rfl, ⟨va_K.moved hW.alike hK, by rw [ht]; exact hP, hD, hT.out hS ht hW.alike⟩, hS.F ht⟩) hS.2.2 hdg hlocks
theorem J.zret {rt : FieldType} (C : Cx X own cc n0 (some rt) fr lo) {v r : Int32} {σ' : Mem} (hn : narrow rt (.int v) = .int v) (hR : Rt X (some (.int r)) σ') (hv : v = r) (hs : σ = σ') (hdg : decode cc pc = .ok (.ireturn, 1)) : J X pc loc [.int v] σ := by
  subst hv
  subst hs
  obtain ⟨p, l, e, R, s, m, args, below, meth, c, D, cI, ad, A0, ks, nL, mc, ms, Q⟩ := X
  obtain ⟨hx, hb, hml, hn0, hr, hown, hts, hlocks, hK, hcl, hfr, hlo, hmc, hms, hnw⟩ := C
  intro H locs ls hP hD hT hS hl
  show W _ _ _ _ _ _ _ _ _ _ _ _ _ _ Q _
  rw [show Q = _ from hR]
  exact W.zret hx hb hr hn (fun t ht hW => ⟨rfl, ⟨va_K.moved hW.alike hK, by rw [ht]; exact hP, hD, hT.out hS ht hW.alike⟩, hS.F ht⟩) hS.2.2 hdg hlocks
theorem J.lret (C : Cx X own cc n0 (some .long) fr lo) {v r : Int64} {σ' : Mem} (hR : Rt X (some (.long r)) σ') (hv : v = r) (hs : σ = σ') (hdg : decode cc pc = .ok (.lreturn, 1)) : J X pc loc [.long v] σ := by
  subst hv
  subst hs
  obtain ⟨p, l, e, R, s, m, args, below, meth, c, D, cI, ad, A0, ks, nL, mc, ms, Q⟩ := X
  obtain ⟨hx, hb, hml, hn0, hr, hown, hts, hlocks, hK, hcl, hfr, hlo, hmc, hms, hnw⟩ := C
  intro H locs ls hP hD hT hS hl
  show W _ _ _ _ _ _ _ _ _ _ _ _ _ _ Q _
  rw [show Q = _ from hR]
  exact W.lret hx hb hr (fun t ht hW => ⟨rfl, ⟨va_K.moved hW.alike hK, by rw [ht]; exact hP, hD, hT.out hS ht hW.alike⟩, hS.F ht⟩) hS.2.2 hdg hlocks
theorem J.vret (C : Cx X own cc n0 none fr lo) {σ' : Mem} (hR : Rt X none σ') (hs : σ = σ') (hdg : decode cc pc = .ok (.return_, 1)) : J X pc loc [] σ := by
  subst hs
  obtain ⟨p, l, e, R, s, m, args, below, meth, c, D, cI, ad, A0, ks, nL, mc, ms, Q⟩ := X
  obtain ⟨hx, hb, hml, hn0, hr, hown, hts, hlocks, hK, hcl, hfr, hlo, hmc, hms, hnw⟩ := C
  intro H locs ls hP hD hT hS hl
  show W _ _ _ _ _ _ _ _ _ _ _ _ _ _ Q _
  rw [show Q = _ from hR]
  exact W.vret hx hb hr (fun t ht hW => ⟨rfl, ⟨va_K.moved hW.alike hK, by rw [ht]; exact hP, hD, hT.out hS ht hW.alike⟩, hS.F ht⟩) hS.2.2 hdg hlocks

/-- what the tables say of a method that is called, but the place that calls it -/
def Wy (y : MethodName) (cc : ByteArray) (nL : Nat) (ret : Option FieldType) (n : Nat) : Prop := Cond.code y cc nL ret ∈ lw_g ∧ Cond.initialized y.cls ∈ lw_g ∧ (y.cls ≠ "java/lang/invoke/MethodHandle" ∧ y.cls ≠ "java/lang/invoke/VarHandle" ∧ (parseMethodDescriptor y.desc).map (fun d => d.parameters.length) = some n)
theorem PcBlind {D : va_G} {cI : Nat → ClassId} {ad : Nat → Nat} {A0 : Nat → Prop} {ks : List Nat} {σ : Mem} {av : List Value} : FrameBlind (va_Pc av (fun U => Wx D cI ad A0 ks σ U ∧ Nw U)) := fun a U g mk h => ⟨h.1, Wx.moved (u := U) (U := U.calling g mk a) (Vm.Alike.refl U.vm) rfl h.2.1, Nw.same (u := U) (U := U.calling g mk a) rfl h.2.2⟩
theorem J_run {p : Program} {l : Launch} {e : Env} {R : Room} {s : State} {m : MethodId} {args : Array Value} {below : List Frame} {meth : Method} {c : Code} {D : va_G} {cI : Nat → ClassId} {ad : Nat → Nat} {A0 : Nat → Prop} {ks : List Nat} {nL mc ms : Nat} {Q : State → Prop} {H : Heap} {locs : List Loc} {ls : Array Slot} {o : Option Value} {σ' : Mem} {a : Array Value} {stk' : List Value}
    (hr : va_Run p l e R s m args below meth c H locs mc ms 0 0 (F0 m pc ls stk) rest (QcOf D cI ad A0 ks o σ' a) A0) (hT : Ws ad A0 σ s) (hS : va_S A0 s.heap H locs) (hl : lv_has ls nL loc) (hst : o.toList ++ rest = stk')
    (K : J (p, l, e, R, s, m, args, below, meth, c, D, cI, ad, A0, ks, nL, mc, ms, Q) (pc + 3) loc stk' σ') : W p l e R s m args below meth c H locs mc ms Q (F0 m pc ls stk) := by
  intro T hTT X
  obtain ⟨v, st₀, t, T', L, h0, X', hL, e1, e2, ⟨hv, ⟨-, hP1, hD1, hT1⟩, hz, hk⟩, st⟩ := hr T hTT X
  cases hv
  rw [h0] at hz hk
  subst hst
  have hT' : Ws ad A0 σ' s := hT.back hT1 (fun q h1 h2 => by rw [hk q (Nat.lt_of_lt_of_le h1 hS.1) h2]; exact hS.2.1 q h1 h2)
  obtain ⟨t2, a1, b1⟩ := K T'.heap (locs ++ L) ls (by rw [e1]; exact hP1) hD1 hT' ⟨Nat.le_trans hS.1 (by rw [e1]; exact hz), fun q h1 h2 => by rw [e1, hk q (Nat.lt_of_lt_of_le h1 hS.1) h2]; exact hS.2.1 q h1 h2, fun q hq => by
      rcases List.mem_append.mp hq with h | h
      · exact hS.2.2 q h
      · exact hL q h⟩ hl T' rfl X'
  exact ⟨t2, st t2 a1, b1⟩

theorem J.callV (C : Cx X own cc n0 ret fr lo) {y : MethodName} {cc' : ByteArray} {nL' fr' lo' n : Nat} {ret' : Option FieldType} {ok : List Nat → Prop} {as : (Nat → Nat) → List Value} {o : (Nat → Nat) → Option Value} {σ' : Mem} (hM : Ct (Xl X) y cc' nL' ret' fr' lo' ok as σ o σ') (hok : ok (Xks X)) (wy : Wy y cc' nL' ret' n) (hin : Cond.instanceMethod y ∈ lw_g) (hsel : Cond.selects y.cls y y ∈ lw_g) {idx : Nat} (hlink : Cond.methodLink own idx y ∈ lw_g) {ci N : Nat} {Cn : String} {T : u_T} {ty : Nat → FieldType} (hkc : Kc ci Cn T N ty) (hCn : y.cls = Cn) {k : Nat} (hk : Ok (Xks X) k ci) (As rest : List Value) (has : as (Xad X) = .ref (Xad X k) :: As) (hn : As.length = n) (hcat : (rest.map fun v => v.category).sum ≤ 8) (hfr' : fr' + 1 ≤ fr) (hlo' : 8 + (nL' + 11) + lo' ≤ lo) {stk stk' : List Value} (hst : stk = As.reverse ++ .ref (Xad X k) :: rest) (hdg : decode cc pc = .ok (.invokevirtual idx, 3)) (hst' : (o (Xad X)).toList ++ rest = stk') (K : J X (pc + 3) loc stk' σ') : J X pc loc stk σ := by
  obtain ⟨p, l, e, R, s, m, args, below, meth, c, D, cI, ad, A0, ks, nL, mc, ms, Q⟩ := X
  obtain ⟨hx, hb, hml, hn0, hr, hown, hts, hlocks, hK, hcl, hfr, hlo, hmc, hms, hnw⟩ := C
  intro H locs ls hP hD hT hS hl
  obtain ⟨q, hq, he⟩ := wl_get cI ad σ hk.1
  rw [ce_obj hk.2 hkc.2.1] at he
  have hrc : ∃ cellB : Cell, H[ad k]? = some cellB ∧ cellB.vm.isStatics = false ∧ s.vm.findClass y.cls = some cellB.cls := by rw [hCn]; exact va_recv hK hP hkc.1 he
  exact J_run (va_runV ⟨hx, hb, hml, hown, hts⟩ (hM D cI ad A0 ks hcl hok) ⟨⟨rfl, rfl, Nat.le_trans hfr' hfr, Nat.le_trans hlo' hlo, pay_in hts (tblIn wy.1), List.mem_cons_self, hts _ wy.1, hts _ wy.2.1, ⟨wy.2.2.1, wy.2.2.2.1⟩, fun sig h => by have h2 := wy.2.2.2.2; rw [h] at h2; exact (Option.some.inj h2).symm, hts _ hlink⟩, hts _ hin, hts _ hsel⟩ ⟨PcBlind, hrc, fun U hU hW => ⟨by have := has; dsimp only [Xad] at this; rw [this], ⟨va_K.moved hW.alike hK, by rw [hU]; exact hP, hD, hT.out hS hU hW.alike⟩, hnw.warm hW⟩⟩ rfl hn hl.1 hst (lv_room hcat) hdg ⟨hmc, hms⟩) hT hS hl hst' K
theorem J.callS (C : Cx X own cc n0 ret fr lo) {y : MethodName} {cc' : ByteArray} {nL' fr' lo' n : Nat} {ret' : Option FieldType} {ok : List Nat → Prop} {as : (Nat → Nat) → List Value} {o : (Nat → Nat) → Option Value} {σ' : Mem} (hM : Ct (Xl X) y cc' nL' ret' fr' lo' ok as σ o σ') (hok : ok (Xks X)) (wy : Wy y cc' nL' ret' n) (hin : Cond.static y ∈ lw_g) {idx : Nat} (hlink : Cond.methodLink own idx y ∈ lw_g) (As rest : List Value) (has : as (Xad X) = As) (hn : As.length = n) (hcat : (rest.map fun v => v.category).sum ≤ 8) (hfr' : fr' + 1 ≤ fr) (hlo' : 8 + (nL' + 11) + lo' ≤ lo) {stk stk' : List Value} (hst : stk = As.reverse ++ rest) (hdg : decode cc pc = .ok (.invokestatic idx, 3)) (hst' : (o (Xad X)).toList ++ rest = stk') (K : J X (pc + 3) loc stk' σ') : J X pc loc stk σ := by
  obtain ⟨p, l, e, R, s, m, args, below, meth, c, D, cI, ad, A0, ks, nL, mc, ms, Q⟩ := X
  obtain ⟨hx, hb, hml, hn0, hr, hown, hts, hlocks, hK, hcl, hfr, hlo, hmc, hms, hnw⟩ := C
  intro H locs ls hP hD hT hS hl
  exact J_run (va_runS ⟨hx, hb, hml, hown, hts⟩ (hM D cI ad A0 ks hcl hok) ⟨⟨rfl, rfl, Nat.le_trans hfr' hfr, Nat.le_trans hlo' hlo, pay_in hts (tblIn wy.1), List.mem_cons_self, hts _ wy.1, hts _ wy.2.1, ⟨wy.2.2.1, wy.2.2.2.1⟩, fun sig h => by have h2 := wy.2.2.2.2; rw [h] at h2; exact (Option.some.inj h2).symm, hts _ hlink⟩, hts _ hin⟩ ⟨PcBlind, fun U hU hW => ⟨by have := has; dsimp only [Xad] at this; rw [this], ⟨va_K.moved hW.alike hK, by rw [hU]; exact hP, hD, hT.out hS hU hW.alike⟩, hnw.warm hW⟩⟩ rfl hn hl.1 hst (lv_room hcat) hdg ⟨hmc, hms⟩) hT hS hl hst' K
theorem J.callSN (C : Cx X own cc n0 ret fr lo) {y : MethodName} {cc' : ByteArray} {nL' fr' lo' n : Nat} {ret' : Option FieldType} {ok : List Nat → Prop} {as : (Nat → Nat) → List Value} {o : (Nat → Nat) → Option Value} {σ' : Mem} (hM : Ct (Xl X) y cc' nL' ret' fr' lo' ok as σ o σ') (hok : ok (Xks X)) (wy : Wy y cc' nL' ret' n) (hin : Cond.static y ∈ lw_g) {idx : Nat} {host : String} (hlink : Cond.methodLinkNest own idx y host ∈ lw_n) (As rest : List Value) (has : as (Xad X) = As) (hn : As.length = n) (hcat : (rest.map fun v => v.category).sum ≤ 8) (hfr' : fr' + 1 ≤ fr) (hlo' : 8 + (nL' + 11) + lo' ≤ lo) {stk stk' : List Value} (hst : stk = As.reverse ++ rest) (hdg : decode cc pc = .ok (.invokestatic idx, 3)) (hst' : (o (Xad X)).toList ++ rest = stk') (K : J X (pc + 3) loc stk' σ') : J X pc loc stk σ := by
  obtain ⟨p, l, e, R, s, m, args, below, meth, c, D, cI, ad, A0, ks, nL, mc, ms, Q⟩ := X
  obtain ⟨hx, hb, hml, hn0, hr, hown, hts, hlocks, hK, hcl, hfr, hlo, hmc, hms, hnw⟩ := C
  intro H locs ls hP hD hT hS hl
  exact J_run (va_runSN ⟨hx, hb, hml, hown, hts⟩ (hM D cI ad A0 ks hcl hok) ⟨⟨⟨rfl, rfl, Nat.le_trans hfr' hfr, Nat.le_trans hlo' hlo, pay_in hts (tblIn wy.1), List.mem_cons_self⟩, hts _ wy.1, hts _ wy.2.1, ⟨wy.2.2.1, wy.2.2.2.1⟩, fun sig h => by have h2 := wy.2.2.2.2; rw [h] at h2; exact (Option.some.inj h2).symm, va_Nw.use rfl (hnw _ hlink)⟩, hts _ hin, trivial⟩ ⟨PcBlind, fun U hU hW => ⟨by have := has; dsimp only [Xad] at this; rw [this], ⟨va_K.moved hW.alike hK, by rw [hU]; exact hP, hD, hT.out hS hU hW.alike⟩, hnw.warm hW⟩⟩ rfl hn hl.1 hst (lv_room hcat) hdg ⟨hmc, hms⟩) hT hS hl hst' K
theorem J.mmax (C : Cx X own cc n0 ret fr lo) {idx : Nat} (hlink : Cond.methodLink own idx Lib.Math.max.name ∈ lw_g) (h2 : Cond.static Lib.Math.max.name ∈ lw_g) (h3 : Cond.initialized "java/lang/Math" ∈ lw_g) (h4 : Cond.code Lib.Math.max.name Lib.Math.max.code 2 (some .int) ∈ lw_g) (hcat : (rest.map fun v => v.category).sum + 13 ≤ lo) (hf1 : 1 ≤ fr) {x y : Int32} (hdg : decode cc pc = .ok (.invokestatic idx, 3)) (K : J X (pc + 3) loc (.int (if x < y then y else x) :: rest) σ) : J X pc loc (.int y :: .int x :: rest) σ := by
  obtain ⟨p, l, e, R, s, m, args, below, meth, c, D, cI, ad, A0, ks, nL, mc, ms, Q⟩ := X
  obtain ⟨hx, hb, hml, hn0, hr, hown, hts, hlocks, hK, hcl, hfr, hlo, hmc, hms, hnw⟩ := C
  intro H locs ls hP hD hT hS hl
  exact va_mmax hx hb (hml.trans hl.1.symm) hown (hts _ hlink) (hts _ h2) (hts _ h3) (hts _ h4) (Nat.le_trans hf1 hfr) (Nat.le_trans hcat hlo) hmc hms hdg (K H locs ls hP hD hT hS hl)
theorem J.mmin (C : Cx X own cc n0 ret fr lo) {idx : Nat} (hlink : Cond.methodLink own idx Lib.Math.min.name ∈ lw_g) (h2 : Cond.static Lib.Math.min.name ∈ lw_g) (h3 : Cond.initialized "java/lang/Math" ∈ lw_g) (h4 : Cond.code Lib.Math.min.name Lib.Math.min.code 2 (some .int) ∈ lw_g) (hcat : (rest.map fun v => v.category).sum + 13 ≤ lo) (hf1 : 1 ≤ fr) {x y : Int32} (hdg : decode cc pc = .ok (.invokestatic idx, 3)) (K : J X (pc + 3) loc (.int (if y < x then y else x) :: rest) σ) : J X pc loc (.int y :: .int x :: rest) σ := by
  obtain ⟨p, l, e, R, s, m, args, below, meth, c, D, cI, ad, A0, ks, nL, mc, ms, Q⟩ := X
  obtain ⟨hx, hb, hml, hn0, hr, hown, hts, hlocks, hK, hcl, hfr, hlo, hmc, hms, hnw⟩ := C
  intro H locs ls hP hD hT hS hl
  exact va_mmin hx hb (hml.trans hl.1.symm) hown (hts _ hlink) (hts _ h2) (hts _ h3) (hts _ h4) (Nat.le_trans hf1 hfr) (Nat.le_trans hcat hlo) hmc hms hdg (K H locs ls hP hD hT hS hl)
/-- what System.arraycopy asks -/
def ckC (sp dp n : Int32) (na nb : Nat) : Bool := decide (0 ≤ sp.toInt ∧ 0 ≤ dp.toInt ∧ 0 ≤ n.toInt ∧ sp.toInt + n.toInt ≤ (na : Int) ∧ dp.toInt + n.toInt ≤ (nb : Int))
theorem ckC_in {sp dp n : Int32} {na nb : Nat} (h : ckC sp dp n na nb = true) : ¬ sp < 0 ∧ ¬ dp < 0 ∧ ¬ n < 0 ∧ sp.toNatClampNeg + n.toNatClampNeg ≤ na ∧ dp.toNatClampNeg + n.toNatClampNeg ≤ nb := by
  have h := of_decide_eq_true h
  have e : ∀ z : Int32, z.toNatClampNeg = z.toInt.toNat := fun z => rfl
  have lt : ∀ z : Int32, 0 ≤ z.toInt → ¬ z < 0 := fun z hz => by rw [Int32.lt_iff_toInt_lt, Int32.toInt_zero]; omega
  refine ⟨lt _ h.1, lt _ h.2.1, lt _ h.2.2.1, ?_, ?_⟩ <;> rw [e, e] <;> omega
theorem J.acopy (C : Cx X own cc n0 ret fr lo) {τ : Type} {ex : Option τ} {t : τ} {idx : Nat} (hlink : Cond.methodLink own idx arraycopyName ∈ lw_g) (h2 : Cond.native arraycopyName ∈ lw_g) (h3 : Cond.static arraycopyName ∈ lw_g) (h4 : Cond.initialized "java/lang/System" ∈ lw_g) (hcat : (rest.map fun v => v.category).sum + 18 ≤ lo) (hf1 : 1 ≤ fr) {a b : Nat} (ha : Ok (Xks X) a 100) (hbk : Ok (Xks X) b 100) {sp dp n : Int32} (hf : chk (ckC sp dp n (alen a) (alen b)) ex = some t) (hdg : decode cc pc = .ok (.invokestatic idx, 3))
    (K : ex = some t → J X (pc + 3) loc rest (gput σ b (va_cpy (σ a) (σ b) (ix sp) (ix dp) (ix n)))) : J X pc loc (.int n :: .int dp :: .ref (Xad X b) :: .int sp :: .ref (Xad X a) :: rest) σ := by
  obtain ⟨p, l, e, R, s, m, args, below, meth, c, D, cI, ad, A0, ks, nL, mc, ms, Q⟩ := X
  obtain ⟨hx, hb, hml, hn0, hr, hown, hts, hlocks, hK, hcl, hfr, hlo, hmc, hms, hnw⟩ := C
  intro H locs ls hP hD hT hS hl
  obtain ⟨hin, hf⟩ := chk_some hf
  obtain ⟨g1, g2, g3, g4, g5⟩ := ckC_in hin
  obtain ⟨q, hq, he⟩ := wl_get cI ad σ ha.1
  obtain ⟨q', hq', he'⟩ := wl_get cI ad σ hbk.1
  have hset := wl_set hD hq' (va_cpy (σ a) (σ b) (ix sp) (ix dp) (ix n))
  rw [ce_arr hbk.2 (by decide) (by decide), gput_s] at hset
  rw [ce_arr ha.2 (by decide) (by decide)] at he
  rw [ce_arr hbk.2 (by decide) (by decide)] at he'
  refine va_copyi (ty := .int) hx hb (hml.trans hl.1.symm) hown (hts _ hlink) (hts _ h2) (hts _ h3) (hts _ h4) hK hP hD hS q q' 0 0 he he' rfl rfl rfl g1 g2 g3 g4 g5 (fun _ _ => rfl) (Nat.le_trans hf1 hfr) (Nat.le_trans hcat hlo) hdg (fun H1 locs1 hP1 hD1 hS1 => ?_)
  have hP1 : va_P D vwCl ((wl cI ad σ ks).set q' (ad b, .inl (cI 100, alen b, .inl (va_cpy (σ a) (σ b) (ix sp) (ix dp) (ix n))))) H1 := hP1
  have hD1 : va_D A0 ((wl cI ad σ ks).set q' (ad b, .inl (cI 100, alen b, .inl (va_cpy (σ a) (σ b) (ix sp) (ix dp) (ix n))))) := hD1
  rw [hset] at hP1 hD1
  exact K hf H1 locs1 ls hP1 hD1 (hT.put (by rw [hbk.2]; decide) _) hS1 hl
theorem stretch_eq {cs : Cell} {N sp n : Nat} {f : Nat → Value} (hv : ∀ j : Nat, j < N → cs.slots[j]? = some (f j)) (h : sp + n ≤ N) (c0 : ClassId) : cs.stretch sp n = (arrV c0 N f).stretch sp n := by
  unfold Cell.stretch
  apply List.map_congr_left
  intro i hi
  have hi' := List.mem_range.mp hi
  rw [Array.getD_eq_getD_getElem?, Array.getD_eq_getD_getElem?, arrV_read _ _ (by omega), hv _ (by omega)]
/-- from a static row -/
theorem J.scopy (C : Cx X own cc n0 ret fr lo) {τ : Type} {ex : Option τ} {t : τ} {idx : Nat} (hlink : Cond.methodLink own idx arraycopyName ∈ lw_g) (h2 : Cond.native arraycopyName ∈ lw_g) (h3 : Cond.static arraycopyName ∈ lw_g) (h4 : Cond.initialized "java/lang/System" ∈ lw_g) (hcat : (rest.map fun v => v.category).sum + 18 ≤ lo) (hf1 : 1 ≤ fr) {a b : Nat} (ha : clsOf a = 103) (hbk : Ok (Xks X) b 100) {sp dp n : Int32} (hf : chk (ckC sp dp n (alen a) (alen b)) ex = some t) (hdg : decode cc pc = .ok (.invokestatic idx, 3))
    (K : ex = some t → J X (pc + 3) loc rest (gput σ b (va_cpy (σ a) (σ b) (ix sp) (ix dp) (ix n)))) : J X pc loc (.int n :: .int dp :: .ref (Xad X b) :: .int sp :: .ref (Xad X a) :: rest) σ := by
  obtain ⟨p, l, e, R, s, m, args, below, meth, c, D, cI, ad, A0, ks, nL, mc, ms, Q⟩ := X
  obtain ⟨hx, hb, hml, hn0, hr, hown, hts, hlocks, hK, hcl, hfr, hlo, hmc, hms, hnw⟩ := C
  intro H locs ls hP hD hT hS hl
  obtain ⟨hin, hf⟩ := chk_some hf
  obtain ⟨g1, g2, g3, g4, g5⟩ := ckC_in hin
  obtain ⟨q', hq', he'⟩ := wl_get cI ad σ hbk.1
  have hset := wl_set hD hq' (va_cpy (σ a) (σ b) (ix sp) (ix dp) (ix n))
  rw [ce_arr hbk.2 (by decide) (by decide), gput_s] at hset
  rw [ce_arr hbk.2 (by decide) (by decide)] at he'
  obtain ⟨cs, a1, a2, a3, a4, a5, a6, a7⟩ := hT a ha
  have a1 : H[ad a]? = some cs := by rw [hS.2.1 _ (Array.getElem?_eq_some_iff.mp a1).1 a7]; exact a1
  have nn : ∀ z : Int32, ¬ z < 0 → z.toInt = (z.toNatClampNeg : Int) := by
    intro z hz
    have hz0 : (0 : Int) ≤ z.toInt := by
      have := Int32.not_lt.mp hz
      simpa using Int32.le_iff_toInt_le.mp this
    show z.toInt = ((z.toInt.toNat : Nat) : Int)
    omega
  have hc1 : H[ad b]? = some (vp_cell (cI 100) (alen b, .inl (σ b))) := hP q' _ he'
  obtain ⟨b1, k0, hk0, cm0, hkk0⟩ := a2
  obtain ⟨-, k1, hk1, cm1, hkk1⟩ := (hK.2 0 (cI 100, .int) rfl).1 (alen b) (fun j => .int (σ b j))
  intro TT hTT XX
  obtain ⟨vm', X', step⟩ := XX.arraycopy hx hown (hts _ hlink) (hts _ h2) (hts _ h3) (hts _ h4) (src := ad a) (dst := ad b) (cs := cs) (cd := vp_cell (cI 100) (alen b, .inl (σ b))) (srcPos := sp) (destPos := dp) (n := n) (by rw [hTT]; exact a1) (by rw [hTT]; exact hc1)
    b1 (fun _ h => by cases h) a3 (fun h => by cases h) hk0 hk1 hkk0 hkk1 rfl g1 g2 g3
    (by rw [nn sp g1, nn n g3]; omega)
    (by rw [nn dp g2, nn n g3]; show ¬ _ > ((arrV (cI 100) (alen b) (fun j => .int (σ b j))).slots.size : Int); rw [arrV_size]; omega)
    (fun vm₁ _ i hi => by
      have e : cs.slots.getD (sp.toNatClampNeg + i) .null = .int (σ a (sp.toNatClampNeg + i)) := by
        rw [Array.getD_eq_getD_getElem?, a6 _ (by omega)]
        rfl
      refine ⟨?_, ?_⟩
      · rw [e]; rfl
      · rw [e]; exact trivial)
    (g := F0 m pc ls (.int n :: .int dp :: .ref (ad b) :: .int sp :: .ref (ad a) :: rest)) rfl (by show ls.size = _; rw [hml, hl.1]) (rest := rest) rfl (by rw [hb]; exact hdg) (Nat.le_trans hf1 hfr) (by show 2 * 0 + _ + 18 ≤ _; omega)
  have e1 : copied cs (vp_cell (cI 100) (alen b, .inl (σ b))) sp dp n = vp_cell (cI 100) (alen b, .inl (va_cpy (σ a) (σ b) (ix sp) (ix dp) (ix n))) := by
    show (vp_cell (cI 100) (alen b, .inl (σ b))).storeRun _ (cs.stretch _ _) = _
    rw [stretch_eq a6 g4 (cI 100)]
    exact va_copied (fun z => .int z) (cI 100) (cI 100) (σ a) (σ b) g4
  rw [e1] at X' step
  have hlb : ad b < H.size := (Array.getElem?_eq_some_iff.mp hc1).1
  have hheap : ((TT.setVm vm').setCell (ad b) (vp_cell (cI 100) (alen b, .inl (va_cpy (σ a) (σ b) (ix sp) (ix dp) (ix n))))).heap = H.setIfInBounds (ad b) (vp_cell (cI 100) (alen b, .inl (va_cpy (σ a) (σ b) (ix sp) (ix dp) (ix n)))) := by rw [← hTT]; rfl
  have oq : ∀ z : Nat, z ≠ ad b → (H.setIfInBounds (ad b) (vp_cell (cI 100) (alen b, .inl (va_cpy (σ a) (σ b) (ix sp) (ix dp) (ix n)))))[z]? = H[z]? := fun z hz => by simp [Array.getElem?_setIfInBounds, Ne.symm hz]
  have hP1 := hP.set hD he' (e := .inl (cI 100, alen b, .inl (va_cpy (σ a) (σ b) (ix sp) (ix dp) (ix n)))) (show (H.setIfInBounds (ad b) _)[ad b]? = some _ by simp [Array.getElem?_setIfInBounds, hlb]) oq
  have hD1 := hD.set (e := .inl (cI 100, alen b, .inl (va_cpy (σ a) (σ b) (ix sp) (ix dp) (ix n)))) he'
  rw [hset] at hP1 hD1
  obtain ⟨t2, r1, r2⟩ := K hf _ _ ls hP1 hD1 (hT.put (by rw [hbk.2]; decide) _) ⟨by simp; exact hS.1, fun z y1 y2 => by
      rw [oq z (fun e => y2 (by rw [e]; exact hD.2 q' _ he'))]
      exact hS.2.1 z y1 y2, fun z hz => by
      rcases List.mem_append.mp hz with h | h
      · exact hS.2.2 z h
      · obtain ⟨y, -, hy⟩ := List.mem_map.mp h
        rw [← hy]
        exact hD.2 q' _ he'⟩ hl _ hheap X'
  exact ⟨t2, step t2 r1, r2⟩
theorem J.tblIn (C : Cx X own cc n0 ret fr lo) {τ : Type} {t : τ} {dflt lo' hi' : Int} {offs : Array Int} {len : Nat} {x : Int32} (hdg : decode cc pc = .ok (.tableswitch dflt lo' hi' offs, len)) (v : Int32) {A B : τ} (hf : (if x = v then A else B) = t) (h1 : ¬ v.toInt < lo') (h2 : ¬ hi' < v.toInt) {off : Int} {tgt : Nat} (ho : offs[(v.toInt - lo').toNat]? = some off) (ht : (pc : Int) + off = (tgt : Int)) (kt : A = t → J X tgt loc rest σ) (kf : ¬ x = v → B = t → J X pc loc (.int x :: rest) σ) : J X pc loc (.int x :: rest) σ := by
  by_cases h : x = v
  · subst h
    obtain ⟨p, l, e, R, s, m, args, below, meth, c, D, cI, ad, A0, ks, nL, mc, ms, Q⟩ := X
    obtain ⟨hx, hb, hml, hn0, hr, hown, hts, hlocks, hK, hcl, hfr, hlo, hmc, hms, hnw⟩ := C
    intro H locs ls hP hD hT hS hl
    exact lv_tableIn hx hb hdg h1 h2 ho ht (kt (by rw [← hf, if_pos rfl]) H locs ls hP hD hT hS hl)
  · exact kf h (by rw [← hf, if_neg h])
theorem J.tblOut (C : Cx X own cc n0 ret fr lo) {dflt lo' hi' : Int} {offs : Array Int} {len : Nat} {x : Int32} {tgt : Nat} (hdg : decode cc pc = .ok (.tableswitch dflt lo' hi' offs, len)) (h : x.toInt < lo' ∨ hi' < x.toInt) (ht : (pc : Int) + dflt = (tgt : Int)) (K : J X tgt loc rest σ) : J X pc loc (.int x :: rest) σ := by
  obtain ⟨p, l, e, R, s, m, args, below, meth, c, D, cI, ad, A0, ks, nL, mc, ms, Q⟩ := X
  obtain ⟨hx, hb, hml, hn0, hr, hown, hts, hlocks, hK, hcl, hfr, hlo, hmc, hms, hnw⟩ := C
  intro H locs ls hP hD hT hS hl
  exact lv_tableOut hx hb hdg h ht (K H locs ls hP hD hT hS hl)
theorem J.lookup (C : Cx X own cc n0 ret fr lo) {dflt : Int} {ps : Array (Int × Int)} {len : Nat} {x : Int32} {off : Int} {tgt : Nat} (hdg : decode cc pc = .ok (.lookupswitch dflt ps, len)) (hp : (ps.toList.zip (ps.toList.drop 1)).all (fun (a, next) => a.1 < next.1) = true) (ho : Op.lookupswitch.offset ps.toList dflt x.toInt = off) (ht : (pc : Int) + off = (tgt : Int)) (K : J X tgt loc rest σ) : J X pc loc (.int x :: rest) σ := by
  obtain ⟨p, l, e, R, s, m, args, below, meth, c, D, cI, ad, A0, ks, nL, mc, ms, Q⟩ := X
  obtain ⟨hx, hb, hml, hn0, hr, hown, hts, hlocks, hK, hcl, hfr, hlo, hmc, hms, hnw⟩ := C
  intro H locs ls hP hD hT hS hl
  exact lv_lookup hx hb hdg hp ho ht (K H locs ls hP hD hT hS hl)
theorem J.ifnonnull (C : Cx X own cc n0 ret fr lo) {x : Nat} {off : Int} {tgt : Nat} (hdg : decode cc pc = .ok (.ifnonnull off, 3)) (ht : (pc : Int) + off = (tgt : Int)) (K : J X tgt loc rest σ) : J X pc loc (.ref x :: rest) σ := by
  obtain ⟨p, l, e, R, s, m, args, below, meth, c, D, cI, ad, A0, ks, nL, mc, ms, Q⟩ := X
  obtain ⟨hx, hb, hml, hn0, hr, hown, hts, hlocks, hK, hcl, hfr, hlo, hmc, hms, hnw⟩ := C
  intro H locs ls hP hD hT hS hl
  exact lv_ifnonnull hx hb hdg ht (K H locs ls hP hD hT hS hl)

end JR
