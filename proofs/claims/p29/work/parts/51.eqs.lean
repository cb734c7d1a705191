/-! THE SAME SHOW but for the greatest goal and for what is past and gone -/
def EqS (V W : Sh) : Prop := ∀ r i, (r < 22 ∧ ¬ (r = 18 ∧ i = 8)) ∨ (22 ≤ r ∧ r < 22 + V 18 4) → W r i = V r i
theorem EqS.rf (V : Sh) : EqS V V := fun _ _ _ => rfl
theorem EqS.t {V W : Sh} (h : EqS V W) : W 18 4 = V 18 4 := h 18 4 (Or.inl (by omega))
theorem EqS.sy {V W : Sh} (h : EqS V W) : EqS W V := fun r i hr => (h r i (by rw [h.t] at hr; exact hr)).symm
theorem EqS.tr {V W U : Sh} (h : EqS V W) (h2 : EqS W U) : EqS V U := fun r i hr => (h2 r i (by rw [h.t]; exact hr)).trans (h r i hr)
theorem EqS.e {V W : Sh} (h : EqS V W) {j : Nat} (hj : j ≠ 8) : W 18 j = V 18 j := h 18 j (Or.inl (by omega))
theorem EqS.r {V W : Sh} (h : EqS V W) {r : Nat} (hr : r < 22) (hn : r ≠ 18) : W r = V r := funext fun i => h r i (Or.inl ⟨hr, fun q => hn q.1⟩)
theorem eqs_gg (V : Sh) (G : Nat) : EqS V (vset V 18 8 G) := fun r i hr => vset_n (by omega)
section EqsR
variable {V W : Sh} (h : EqS V W)
theorem eqs_carry (h : EqS V W) : ∀ k, carryV W k = carryV V k
  | 0 => h.r (r := 6) (by decide) (by decide)
  | k + 1 => by
    show (if W 19 k = W 18 4 then obeyV (carryV W k) (W 20 k) (W 21 k) else carryV W k) = (if V 19 k = V 18 4 then obeyV (carryV V k) (V 20 k) (V 21 k) else carryV V k)
    rw [eqs_carry h k, h.r (r := 19) (by decide) (by decide), h.r (r := 20) (by decide) (by decide), h.r (r := 21) (by decide) (by decide), h.t]
theorem eqs_cmd (h : EqS V W) : cmdV W = cmdV V := by
  unfold cmdV
  rw [eqs_carry h, h.e (j := 7) (by decide)]
theorem eqs_filt (h : EqS V W) : filtV W = filtV V := by
  unfold filtV
  rw [h.e (j := 1) (by decide), h.e (j := 0) (by decide), h.r (r := 17) (by decide) (by decide)]
theorem eqs_meas (h : EqS V W) : measV W = measV V := by
  unfold measV
  rw [eqs_filt h]
theorem eqs_wind (h : EqS V W) : windV W = windV V := by
  unfold windV
  rw [eqs_meas h, h.e (j := 2) (by decide), h.e (j := 3) (by decide), h.r (r := 17) (by decide) (by decide)]
theorem eqs_goal0 (h : EqS V W) (i : Nat) : goal0 W i = goal0 V i := by
  unfold goal0 histV
  rw [h.t, h.r (r := 2) (by decide) (by decide), eqs_cmd h]
  by_cases q : V 2 i ≤ V 18 4
  · rw [if_pos q, if_pos q]
    by_cases q2 : V 18 4 - V 2 i = V 18 4
    · rw [if_pos q2, if_pos q2]
    · rw [if_neg q2, if_neg q2]
      exact h _ _ (Or.inr (by omega))
  · rw [if_neg q, if_neg q]
theorem eqs_open (h : EqS V W) (i : Nat) : openV W i = openV V i := by
  unfold openV goalV
  rw [eqs_goal0 h, eqs_wind h, h.r (r := 7) (by decide) (by decide), h.r (r := 3) (by decide) (by decide), h.r (r := 17) (by decide) (by decide)]
theorem eqs_own (h : EqS V W) (i : Nat) : ownV W i = ownV V i := by
  unfold ownV
  rw [eqs_open h, h.r (r := 0) (by decide) (by decide)]
theorem eqs_dem (h : EqS V W) (p : Nat) : demV W p = demV V p := by
  unfold demV
  rw [h.r (r := 4) (by decide) (by decide), h.e (j := 5) (by decide)]
  exact sumV_eq (fun i _ => by rw [eqs_own h])
theorem eqs_run (h : EqS V W) (p : Nat) : runV W p = runV V p := by
  unfold runV
  rw [eqs_dem h, h.r (r := 14) (by decide) (by decide), h.r (r := 12) (by decide) (by decide), h.r (r := 13) (by decide) (by decide)]
theorem eqs_flow (h : EqS V W) (i : Nat) : flowV W i = flowV V i := by
  unfold flowV
  rw [h.r (r := 4) (by decide) (by decide), eqs_dem h, eqs_run h, eqs_own h]
theorem eqs_high (h : EqS V W) (i : Nat) : highV W i = highV V i := by
  unfold highV
  rw [eqs_flow h, h.r (r := 1) (by decide) (by decide), h.r (r := 0) (by decide) (by decide)]
theorem eqs_drift (h : EqS V W) (i : Nat) : driftV W i = driftV V i := by
  unfold driftV
  rw [eqs_high h, eqs_meas h, h.r (r := 5) (by decide) (by decide)]
theorem eqs_wet (h : EqS V W) : wetV W = wetV V := by
  unfold wetV
  rw [h.e (j := 5) (by decide), h.r (r := 17) (by decide) (by decide)]
  exact anyV_eq (fun i _ => by rw [eqs_drift h])
theorem tick_t (V : Sh) : tickV V 18 4 = V 18 4 + 1 := rfl
theorem tick_lo {V : Sh} {r i : Nat} (hr : r < 22) (h : r ≠ 6 ∧ r ≠ 7 ∧ r ≠ 8 ∧ r ≠ 9 ∧ r ≠ 10 ∧ r ≠ 11 ∧ r ≠ 14 ∧ r ≠ 15 ∧ r ≠ 16 ∧ r ≠ 18) : tickV V r i = V r i := by
  have : r = 0 ∨ r = 1 ∨ r = 2 ∨ r = 3 ∨ r = 4 ∨ r = 5 ∨ r = 12 ∨ r = 13 ∨ r = 17 ∨ r = 19 ∨ r = 20 ∨ r = 21 := by omega
  rcases this with q | q | q | q | q | q | q | q | q | q | q | q <;> subst q <;> rfl
theorem tick_18 {V : Sh} {j : Nat} (h : j = 0 ∨ j = 5 ∨ j = 7 ∨ 8 < j) : tickV V 18 j = V 18 j := by
  rcases h with q | q | q | q
  · subst q; rfl
  · subst q; rfl
  · subst q; rfl
  · obtain ⟨k, rfl⟩ : ∃ k, j = 9 + k := ⟨j - 9, by omega⟩
    rw [Nat.add_comm]
    rfl
theorem eqs_tick (h : EqS V W) : EqS (tickV V) (tickV W) := by
  intro r i hr
  rw [tick_t] at hr
  rcases hr with ⟨hr, hn⟩ | ⟨hr, hn⟩
  · by_cases q : r ≠ 6 ∧ r ≠ 7 ∧ r ≠ 8 ∧ r ≠ 9 ∧ r ≠ 10 ∧ r ≠ 11 ∧ r ≠ 14 ∧ r ≠ 15 ∧ r ≠ 16 ∧ r ≠ 18
    · rw [tick_lo hr q, tick_lo hr q]
      exact h r i (Or.inl ⟨hr, hn⟩)
    · have : r = 6 ∨ r = 7 ∨ r = 8 ∨ r = 9 ∨ r = 10 ∨ r = 11 ∨ r = 14 ∨ r = 15 ∨ r = 16 ∨ r = 18 := by omega
      rcases this with q | q | q | q | q | q | q | q | q | q <;> subst q
      · show cmdV W i = cmdV V i; rw [eqs_cmd h]
      · exact eqs_open h i
      · exact eqs_flow h i
      · exact eqs_high h i
      · exact eqs_drift h i
      · show max (W 11 i) (highV W i) = max (V 11 i) (highV V i); rw [eqs_high h, h.r (r := 11) (by decide) (by decide)]
      · exact eqs_run h i
      · exact eqs_dem h i
      · show W 16 i + (if runV W i < demV W i then 1 else 0) = V 16 i + (if runV V i < demV V i then 1 else 0)
        rw [eqs_run h, eqs_dem h, h.r (r := 16) (by decide) (by decide)]
      · have : i = 1 ∨ i = 2 ∨ i = 3 ∨ i = 4 ∨ i = 6 ∨ i = 8 ∨ (i = 0 ∨ i = 5 ∨ i = 7 ∨ 8 < i) := by omega
        rcases this with q | q | q | q | q | q | q
        · subst q; exact eqs_filt h
        · subst q; show (windV W).1 = (windV V).1; rw [eqs_wind h]
        · subst q; show (windV W).2 = (windV V).2; rw [eqs_wind h]
        · subst q; show W 18 4 + 1 = V 18 4 + 1; rw [h.t]
        · subst q; show W 18 6 + (if wetV W = true then 1 else 0) = V 18 6 + (if wetV V = true then 1 else 0); rw [eqs_wet h, h.e (j := 6) (by decide)]
        · exact absurd ⟨rfl, q⟩ hn
        · rw [tick_18 q, tick_18 q]
          exact h.e (by omega)
  · obtain ⟨t, rfl⟩ : ∃ t, r = 22 + t := ⟨r - 22, by omega⟩
    rw [tick_hist, tick_hist, h.t, eqs_cmd h]
    by_cases q : t = V 18 4
    · rw [if_pos q, if_pos q]
    · rw [if_neg q, if_neg q]
      exact h _ _ (Or.inr (by omega))
theorem eqs_tk (h : EqS V W) : ∀ k, EqS (tkV V k) (tkV W k)
  | 0 => h
  | k + 1 => eqs_tick (eqs_tk h k)
theorem eqs_gd (h : EqS V W) (p : Nat) : ∀ k, gdV W p k = gdV V p k
  | 0 => rfl
  | k + 1 => by
    show max (gdV W p k) (tkV W (k + 1) 15 p) = max (gdV V p k) (tkV V (k + 1) 15 p)
    rw [eqs_gd h p k, (eqs_tk h (k + 1)).r (r := 15) (by decide) (by decide)]
theorem eqs_gh (h : EqS V W) : ∀ k, ghV W k = ghV V k
  | 0 => rfl
  | k + 1 => by
    show max (ghV W k) (maxV (tkV W (k + 1) 9) 0 (tkV W (k + 1) 18 5)) = max (ghV V k) (maxV (tkV V (k + 1) 9) 0 (tkV V (k + 1) 18 5))
    rw [eqs_gh h k, (eqs_tk h (k + 1)).r (r := 9) (by decide) (by decide), (eqs_tk h (k + 1)).e (j := 5) (by decide)]
theorem eqs_fs (h : EqS V W) (p : Nat) : ∀ k, fsV W p k = fsV V p k
  | 0 => rfl
  | k + 1 => by
    show (match fsV W p k with | some j => some j | none => if tkV W (k + 1) 14 p < tkV W (k + 1) 15 p then some k else none) = (match fsV V p k with | some j => some j | none => if tkV V (k + 1) 14 p < tkV V (k + 1) 15 p then some k else none)
    rw [eqs_fs h p k, (eqs_tk h (k + 1)).r (r := 14) (by decide) (by decide), (eqs_tk h (k + 1)).r (r := 15) (by decide) (by decide)]
theorem eqs_ah (h : EqS V W) (p w e : Nat) : ahV W p w e = ahV V p w e := by
  unfold ahV
  rw [eqs_gd h, eqs_gh h, eqs_fs h, (eqs_tk h e).r (r := 16) (by decide) (by decide), h.r (r := 16) (by decide) (by decide), (eqs_tk h e).e (j := 6) (by decide), h.e (j := 6) (by decide)]
theorem eqs_sup (h : EqS V W) (e : Nat) : supV W e = supV V e := by
  unfold supV shSum
  rw [(eqs_tk h e).r (r := 16) (by decide) (by decide), (eqs_tk h 0).r (r := 16) (by decide) (by decide)]
theorem eqs_dry (h : EqS V W) (e : Nat) : dryV W e = dryV V e := by
  unfold dryV
  rw [(eqs_tk h e).e (j := 6) (by decide), h.e (j := 6) (by decide)]
end EqsR
