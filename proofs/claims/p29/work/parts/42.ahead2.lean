/-! ahead: the reference's, and both -/
def ahV (V : Sh) (p w e : Nat) : Int32 := if w = 0 then nI (gdV V p e) else if w = 1 then nI (tkV V e 16 p - V 16 p) else if w = 2 then fsI (fsV V p e) else if w = 3 then nI (tkV V e 18 6 - V 18 6) else nI (ghV V e)
theorem fs_lt {V : Sh} {p : Nat} : ∀ {k j : Nat}, fsV V p k = some j → j < k
  | 0, j, h => by
    have h : (none : Option Nat) = some j := h
    cases h
  | k + 1, j, h => by
    have h : (match fsV V p k with | some j => some j | none => if tkV V (k + 1) 14 p < tkV V (k + 1) 15 p then some k else none) = some j := h
    cases q : fsV V p k with
    | some j' =>
      rw [q] at h
      have := fs_lt q
      cases h
      omega
    | none =>
      rw [q] at h
      dsimp only at h
      split at h
      · cases h
        omega
      · cases h
/-- the trial's greatest goal, after some ticks -/
theorem gg_trial {V : Sh} {σ : Mem} {k : Nat} (hV : Vok V) (hk : V 18 4 + k ≤ 2000000) (h : Rc 25 (tkV V k) σ) : ∃ g, g ≤ 1000 ∧ σ 28 9 = nI g := Rc_gg (tk_ok hV k hk) h
theorem ahead_c {n : Nat} (hn : 1200 < n) {σ : Mem} {V : Sh} {e p w : Nat} (hw : w ≤ 4) (hp : p < 3) (hV : Vok V) (hc : Rc 25 V σ) (he : e < n) (he2 : V 18 4 + e ≤ 2000000) (hh : e < 2 ^ 31) {y : Int32} (hy : w ≤ 2 → y = nI p) : Ret (if nI w = 0 then bnd2 (f_X8_greatestDemand n σ 0 (nI e) y) fun r_12 σ_13 => some (r_12, σ_13) else if nI w = 1 then bnd2 (f_X8_shortTicks n σ 0 (nI e) y) fun r_15 σ_16 => some (r_15, σ_16) else if nI w = 2 then bnd2 (f_X8_firstShort n σ 0 (nI e) y) fun r_18 σ_19 => some (r_18, σ_19) else if nI w = 3 then bnd2 (f_X8_wetTicks n σ 0 (nI e)) fun r_21 σ_22 => some (r_21, σ_22) else bnd2 (f_X8_greatestHeight n σ 0 (nI e)) fun r_9 σ_10 => some (r_9, σ_10)) (fun q => q.1 = ahV V p w e ∧ (∃ g, g ≤ 1000 ∧ q.2 28 9 = nI g) ∧ Fr 25 σ q.2) := by
  have : w = 0 ∨ w = 1 ∨ w = 2 ∨ w = 3 ∨ w = 4 := by omega
  unfold ahV
  rcases this with z | z | z | z | z <;> subst z
  · rw [if_pos (c := nI 0 = 0) rfl, hy (by omega)]
    obtain ⟨q, e1, a1, a2, a3⟩ := l_demand (n := n) (by omega) hp hV hc he he2 hh
    rw [e1, bnd2_s]
    exact Ret_some ⟨a1, gg_trial hV he2 a2, a3⟩
  · rw [if_neg (c := nI 1 = 0) (by decide), if_pos (c := nI 1 = 1) rfl, hy (by omega)]
    obtain ⟨q, e1, a1, ⟨k, k1, k2⟩, a3⟩ := l_short (n := n) (by omega) hp hV hc he he2 hh
    rw [e1, bnd2_s]
    exact Ret_some ⟨a1, gg_trial hV k1 k2, a3⟩
  · rw [if_neg (c := nI 2 = 0) (by decide), if_neg (c := nI 2 = 1) (by decide), if_pos (c := nI 2 = 2) rfl, hy (by omega)]
    obtain ⟨q, e1, a1, ⟨k, k1, k2⟩, a3⟩ := l_first (n := n) (by omega) hp hV hc he he2 hh
    rw [e1, bnd2_s]
    exact Ret_some ⟨a1, gg_trial hV k1 k2, a3⟩
  · rw [if_neg (c := nI 3 = 0) (by decide), if_neg (c := nI 3 = 1) (by decide), if_neg (c := nI 3 = 2) (by decide), if_pos (c := nI 3 = 3) rfl]
    obtain ⟨q, e1, a1, ⟨k, k1, k2⟩, a3⟩ := l_wet (n := n) (by omega) hV hc he he2 hh
    rw [e1, bnd2_s]
    exact Ret_some ⟨a1, gg_trial hV k1 k2, a3⟩
  · rw [if_neg (c := nI 4 = 0) (by decide), if_neg (c := nI 4 = 1) (by decide), if_neg (c := nI 4 = 2) (by decide), if_neg (c := nI 4 = 3) (by decide)]
    obtain ⟨q, e1, a1, a2, a3⟩ := l_height (n := n) (by omega) hV hc he he2 hh
    rw [e1, bnd2_s]
    exact Ret_some ⟨a1, gg_trial hV he2 a2, a3⟩
