def vrow (V : Sh) (r : Nat) (g : Nat → Nat) : Sh := fun r' c => if r' = r then g c else V r' c
theorem vrow_s (V : Sh) (r : Nat) (g : Nat → Nat) : vrow V r g r = g := by funext c; unfold vrow; rw [if_pos rfl]
theorem vrow_n {V : Sh} {r r' : Nat} {g : Nat → Nat} (h : r' ≠ r) : vrow V r g r' = V r' := by funext c; unfold vrow; rw [if_neg h]
theorem vrow_vrow (V : Sh) (r : Nat) (g g' : Nat → Nat) : vrow (vrow V r g) r g' = vrow V r g' := by
  funext r' c
  unfold vrow
  split <;> rfl
theorem gst_self (σ : Mem) (k j : Nat) (v : Int32) : gst σ k j v k = upd (σ k) j v := by unfold gst; exact gput_s _ _ _
theorem gst_only (σ : Mem) (k j : Nat) (v : Int32) : Only [k] σ (gst σ k j v) := fun a ha => gst_row (by intro e; subst e; simp at ha)
theorem Only.one {k : Nat} {σ σ1 σ2 : Mem} (h1 : Only [k] σ σ1) (h2 : Only [k] σ1 σ2) : Only [k] σ σ2 := fun a h => (h2 a h).trans (h1 a h)
theorem upd_s {f : Nat → Int32} {x : Nat} {v : Int32} : upd f x v x = v := by unfold upd; rw [if_pos rfl]
theorem upd_n {f : Nat → Int32} {x y : Nat} {v : Int32} (h : y ≠ x) : upd f x v y = f y := by unfold upd; rw [if_neg h]
theorem l_0 : (0 : Int32) = nI 0 := rfl
theorem l_1 : (1 : Int32) = nI 1 := rfl
theorem l_2 : (2 : Int32) = nI 2 := rfl
theorem l_3 : (3 : Int32) = nI 3 := rfl
theorem l_4 : (4 : Int32) = nI 4 := rfl
theorem l_5 : (5 : Int32) = nI 5 := rfl
theorem l_6 : (6 : Int32) = nI 6 := rfl
theorem l_7 : (7 : Int32) = nI 7 := rfl
theorem l_8 : (8 : Int32) = nI 8 := rfl
theorem l_9 : (9 : Int32) = nI 9 := rfl
theorem l_10 : (10 : Int32) = nI 10 := rfl
theorem l_11 : (11 : Int32) = nI 11 := rfl
theorem l_12 : (12 : Int32) = nI 12 := rfl
theorem l_30 : (30 : Int32) = nI 30 := rfl
theorem l_50 : (50 : Int32) = nI 50 := rfl
theorem l_51 : (51 : Int32) = nI 51 := rfl
theorem l_60 : (60 : Int32) = nI 60 := rfl
theorem l_64 : (64 : Int32) = nI 64 := rfl
theorem l_80 : (80 : Int32) = nI 80 := rfl
theorem l_100 : (100 : Int32) = nI 100 := rfl
theorem l_144 : (144 : Int32) = nI 144 := rfl
theorem l_150 : (150 : Int32) = nI 150 := rfl
theorem l_200 : (200 : Int32) = nI 200 := rfl
theorem l_300 : (300 : Int32) = nI 300 := rfl
theorem l_500 : (500 : Int32) = nI 500 := rfl
theorem l_912 : (912 : Int32) = nI 912 := rfl
theorem l_927 : (927 : Int32) = nI 927 := rfl
theorem l_928 : (928 : Int32) = nI 928 := rfl
theorem l_929 : (929 : Int32) = nI 929 := rfl
theorem l_930 : (930 : Int32) = nI 930 := rfl
theorem l_931 : (931 : Int32) = nI 931 := rfl
theorem l_932 : (932 : Int32) = nI 932 := rfl
theorem l_933 : (933 : Int32) = nI 933 := rfl
theorem l_934 : (934 : Int32) = nI 934 := rfl
theorem l_935 : (935 : Int32) = nI 935 := rfl
theorem l_936 : (936 : Int32) = nI 936 := rfl
theorem l_937 : (937 : Int32) = nI 937 := rfl
theorem l_938 : (938 : Int32) = nI 938 := rfl
theorem l_939 : (939 : Int32) = nI 939 := rfl
theorem l_940 : (940 : Int32) = nI 940 := rfl
theorem l_941 : (941 : Int32) = nI 941 := rfl
theorem l_1000 : (1000 : Int32) = nI 1000 := rfl
theorem l_1024 : (1024 : Int32) = nI 1024 := rfl
theorem l_1121 : (1121 : Int32) = nI 1121 := rfl
theorem l_2000 : (2000 : Int32) = nI 2000 := rfl
theorem l_100000 : (100000 : Int32) = nI 100000 := rfl
theorem l_200000 : (200000 : Int32) = nI 200000 := rfl
/-- a row that is new up to a place -/
def vcut (V : Sh) (r : Nat) (g : Nat → Nat) (i : Nat) : Sh := vrow V r (fun c => if c < i then g c else V r c)
theorem vcut_0 (V : Sh) (r : Nat) (g : Nat → Nat) : vcut V r g 0 = V := by
  funext r' c
  unfold vcut vrow
  by_cases e : r' = r
  · subst e; simp
  · rw [if_neg e]
theorem vcut_new (V : Sh) (r : Nat) (g : Nat → Nat) (i : Nat) : vcut V r g (i + 1) r i = g i := by
  unfold vcut vrow
  simp
theorem vcut_same (V : Sh) (r : Nat) (g : Nat → Nat) (i : Nat) : ∀ r' c, ¬ (r' = r ∧ c = i) → vcut V r g (i + 1) r' c = vcut V r g i r' c := by
  intro r' c h
  unfold vcut vrow
  by_cases e : r' = r
  · simp only [if_pos e]
    by_cases q : c < i
    · rw [if_pos q, if_pos (by omega)]
    · rw [if_neg q, if_neg (by omega)]
  · rw [if_neg e, if_neg e]
theorem vcut_at {V : Sh} {r : Nat} {g : Nat → Nat} {i c : Nat} (h : i ≤ c) : vcut V r g i r c = V r c := by
  unfold vcut vrow
  simp only [if_pos]
  rw [if_neg (by omega)]
theorem vcut_lt {V : Sh} {r : Nat} {g : Nat → Nat} {i c : Nat} (h : c < i) : vcut V r g i r c = g c := by
  unfold vcut vrow
  simp only [if_pos]
  rw [if_pos h]
theorem vcut_n {V : Sh} {r r' : Nat} {g : Nat → Nat} {i : Nat} (h : r' ≠ r) : vcut V r g i r' = V r' := vrow_n h
/-! the reference's wind -/
def scaV (V : Sh) (F st ca : Nat) : Sh := vrow V 18 (fun j => if j = 1 then F else if j = 2 then st else if j = 3 then ca else V 18 j)
