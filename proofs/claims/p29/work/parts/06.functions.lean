/-! THE METHODS AS FUNCTIONS over one memory, by program out of their bytecode: an answer where every index is in its row, every divisor is not 0 and every loop ends within n rounds -/
def f_X8_within (x0 : Int32) (x1 : Int32) (x2 : Int32) : Option Int32 :=
  (if x0 < x1 then some 0
  else (if x2 < x0 then some 0
  else some 1))
def f_X0_has (σ : Mem) (k : Nat) (x1 : Int32) : Option Int32 :=
  bnd (f_X8_within x1 0 ((σ k 3) - 1)) fun r_2 =>
  chk (bit r_2) (some r_2)
def f_X8_copyRow (σ : Mem) (x0 : Nat) (x1 : Nat) : Option Mem :=
  chk (ckC 0 0 (mnI (Int32.ofNat (alen x0)) (Int32.ofNat (alen x1))) (alen x0) (alen x1)) (nm (gput σ x1 (va_cpy (σ x0) (σ x1) (ix 0) (ix 0) (ix (mnI (Int32.ofNat (alen x0)) (Int32.ofNat (alen x1)))))) fun σ_1 =>
  some σ_1)
def f_X0_copy (σ : Mem) (k : Nat) (x1 : Nat) : Option Mem :=
  nm (gst σ k 3 (σ x1 3)) fun σ_1 =>
  bnd (f_X8_copyRow σ_1 (ptr x1 0) (ptr k 0)) fun σ_4 =>
  bnd (f_X8_copyRow σ_4 (ptr x1 1) (ptr k 1)) fun σ_7 =>
  bnd (f_X8_copyRow σ_7 (ptr x1 2) (ptr k 2)) fun σ_10 =>
  some σ_10
def f_X0_next_B2 (n : Nat) (σ : Mem) (k : Nat) (x1 : Int32) (x2 : Int32) : Option (Int32 ⊕ (Int32)) :=
  (if (σ k 3) ≤ x2 then some (.inl (-6))
  else chk (ckI x2 (alen (ptr k 0))) ((if (σ (ptr k 0) (ix x2)) < x1 then nm (x2 + 1) fun x2_1 =>
  some (.inr x2_1)
  else some (.inl x2))))
def f_X0_next_L2 (n : Nat) (σ : Mem) (k : Nat) (x1 : Int32) (x2 : Int32) : Option Int32 :=
  iter (fun (s : Int32) => f_X0_next_B2 n σ k x1 s) n x2
def f_X0_next (n : Nat) (σ : Mem) (k : Nat) (x1 : Int32) : Option Int32 :=
  f_X0_next_L2 n σ k x1 0
def f_X0_shift (σ : Mem) (k : Nat) (x1 : Int32) (x2 : Int32) (x3 : Int32) : Option Mem :=
  chk (ckC x1 x2 x3 (alen (ptr k 0)) (alen (ptr k 0))) (nm (gput σ (ptr k 0) (va_cpy (σ (ptr k 0)) (σ (ptr k 0)) (ix x1) (ix x2) (ix x3))) fun σ_1 =>
  chk (ckC x1 x2 x3 (alen (ptr k 1)) (alen (ptr k 1))) (nm (gput σ_1 (ptr k 1) (va_cpy (σ_1 (ptr k 1)) (σ_1 (ptr k 1)) (ix x1) (ix x2) (ix x3))) fun σ_2 =>
  chk (ckC x1 x2 x3 (alen (ptr k 2)) (alen (ptr k 2))) (nm (gput σ_2 (ptr k 2) (va_cpy (σ_2 (ptr k 2)) (σ_2 (ptr k 2)) (ix x1) (ix x2) (ix x3))) fun σ_3 =>
  some σ_3)))
def f_X0_insert_L34 (n : Nat) (σ : Mem) (k : Nat) (x1 : Int32) (x2 : Int32) (x3 : Int32) (x4 : Int32) : Option (Int32 × Mem) :=
  bnd (f_X0_shift σ k x4 (x4 + 1) ((σ k 3) - x4)) fun σ_5 =>
  chk (ckI x4 (alen (ptr k 0))) (nm (gst σ_5 (ptr k 0) (ix x4) x1) fun σ_6 =>
  chk (ckI x4 (alen (ptr k 1))) (nm (gst σ_6 (ptr k 1) (ix x4) x2) fun σ_7 =>
  chk (ckI x4 (alen (ptr k 2))) (nm (gst σ_7 (ptr k 2) (ix x4) x3) fun σ_8 =>
  nm (gst σ_8 k 3 ((σ_8 k 3) + 1)) fun σ_9 =>
  some (x4, σ_9))))
def f_X0_insert (n : Nat) (σ : Mem) (k : Nat) (x1 : Int32) (x2 : Int32) (x3 : Int32) : Option (Int32 × Mem) :=
  (if (σ k 3) < 60 then bnd (f_X0_next n σ k (x1 + 1)) fun r_2 =>
  (if r_2 = (-6) then nm ((σ k 3)) fun x4_10 =>
  f_X0_insert_L34 n σ k x1 x2 x3 x4_10
  else f_X0_insert_L34 n σ k x1 x2 x3 r_2)
  else some ((-4), σ))
def f_X0_takeOut (σ : Mem) (k : Nat) (x1 : Int32) : Option Mem :=
  bnd (f_X0_shift σ k (x1 + 1) x1 (((σ k 3) - x1) - 1)) fun σ_3 =>
  nm (gst σ_3 k 3 ((σ_3 k 3) - 1)) fun σ_4 =>
  some σ_4
def f_X0_postpone (n : Nat) (σ : Mem) (k : Nat) (x1 : Int32) (x2 : Int32) : Option (Int32 × Mem) :=
  chk (ckI x1 (alen (ptr k 0))) (nm (((σ (ptr k 0) (ix x1)) + x2)) fun x3_1 =>
  chk (ckI x1 (alen (ptr k 1))) (nm ((σ (ptr k 1) (ix x1))) fun x4_2 =>
  chk (ckI x1 (alen (ptr k 2))) (nm ((σ (ptr k 2) (ix x1))) fun x5_3 =>
  bnd (f_X0_takeOut σ k x1) fun σ_6 =>
  bnd2 (f_X0_insert n σ_6 k x3_1 x4_2 x5_3) fun r_8 σ_9 =>
  some (r_8, σ_9))))
def f_X1_obey_B2 (n : Nat) (σ : Mem) (k : Nat) (x1 : Int32) (x2 : Int32) (x3 : Int32) : Option (Mem ⊕ (Mem × Int32)) :=
  (if (σ k 8) ≤ x3 then some (.inl σ)
  else (if ((x1 >>> (x3 &&& 31)) &&& 1) = 1 then chk (ckI x3 (alen (ptr k 1))) (nm (gst σ (ptr k 1) (ix x3) x2) fun σ_2 =>
  nm (x3 + 1) fun x3_3 =>
  some (.inr (σ_2, x3_3)))
  else nm (x3 + 1) fun x3_1 =>
  some (.inr (σ, x3_1))))
def f_X1_obey_L2 (n : Nat) (σ : Mem) (k : Nat) (x1 : Int32) (x2 : Int32) (x3 : Int32) : Option Mem :=
  iter (fun (s : Mem × Int32) => f_X1_obey_B2 n s.1 k x1 x2 s.2) n (σ, x3)
def f_X1_obey (n : Nat) (σ : Mem) (k : Nat) (x1 : Int32) (x2 : Int32) : Option Mem :=
  f_X1_obey_L2 n σ k x1 x2 0
def f_X0_carryOut_B2 (n : Nat) (σ : Mem) (k : Nat) (x2 : Nat) (x1 : Int32) (x3 : Int32) : Option (Mem ⊕ (Mem × Int32)) :=
  (if (σ k 3) ≤ x3 then some (.inl σ)
  else chk (ckI x3 (alen (ptr k 0))) ((if x1 < (σ (ptr k 0) (ix x3)) then some (.inl σ)
  else chk (ckI x3 (alen (ptr k 0))) ((if (σ (ptr k 0) (ix x3)) = x1 then chk (ckI x3 (alen (ptr k 1))) (chk (ckI x3 (alen (ptr k 2))) (bnd (f_X1_obey n σ x2 (σ (ptr k 1) (ix x3)) (σ (ptr k 2) (ix x3))) fun σ_4 =>
  nm (x3 + 1) fun x3_5 =>
  some (.inr (σ_4, x3_5))))
  else nm (x3 + 1) fun x3_1 =>
  some (.inr (σ, x3_1)))))))
def f_X0_carryOut_L2 (n : Nat) (σ : Mem) (k : Nat) (x2 : Nat) (x1 : Int32) (x3 : Int32) : Option Mem :=
  iter (fun (s : Mem × Int32) => f_X0_carryOut_B2 n s.1 k x2 x1 s.2) n (σ, x3)
def f_X0_carryOut (n : Nat) (σ : Mem) (k : Nat) (x2 : Nat) (x1 : Int32) : Option Mem :=
  f_X0_carryOut_L2 n σ k x2 x1 0
def f_X1_has (σ : Mem) (k : Nat) (x1 : Int32) : Option Int32 :=
  bnd (f_X8_within x1 0 ((σ k 8) - 1)) fun r_2 =>
  chk (bit r_2) (some r_2)
def f_X4_reset_B2 (n : Nat) (σ : Mem) (k : Nat) (x1 : Int32) : Option (Mem ⊕ (Mem × Int32)) :=
  (if (σ k 3) ≤ x1 then some (.inl σ)
  else chk (ckC 0 (x1 * (Int32.ofNat (alen (ptr k 2)))) (Int32.ofNat (alen (ptr k 2))) (alen (ptr k 2)) (alen (ptr k 4))) (nm (gput σ (ptr k 4) (va_cpy (σ (ptr k 2)) (σ (ptr k 4)) (ix 0) (ix (x1 * (Int32.ofNat (alen (ptr k 2))))) (ix (Int32.ofNat (alen (ptr k 2)))))) fun σ_1 =>
  nm (x1 + 1) fun x1_2 =>
  some (.inr (σ_1, x1_2))))
def f_X4_reset_L2 (n : Nat) (σ : Mem) (k : Nat) (x1 : Int32) : Option Mem :=
  iter (fun (s : Mem × Int32) => f_X4_reset_B2 n s.1 k s.2) n (σ, x1)
def f_X4_reset (n : Nat) (σ : Mem) (k : Nat) : Option Mem :=
  f_X4_reset_L2 n σ k 0
def f_X1_begin (n : Nat) (σ : Mem) (k : Nat) (x1 : Int32) : Option Mem :=
  nm (gst σ k 8 x1) fun σ_1 =>
  bnd (f_X4_reset n σ_1 (ptr k 0)) fun σ_4 =>
  some σ_4
def f_X8_clear_B2 (n : Nat) (σ : Mem) (x0 : Nat) (x1 : Int32) : Option (Mem ⊕ (Mem × Int32)) :=
  (if (Int32.ofNat (alen x0)) ≤ x1 then some (.inl σ)
  else chk (ckI x1 (alen x0)) (nm (gst σ x0 (ix x1) 0) fun σ_1 =>
  nm (x1 + 1) fun x1_2 =>
  some (.inr (σ_1, x1_2))))
def f_X8_clear_L2 (n : Nat) (σ : Mem) (x0 : Nat) (x1 : Int32) : Option Mem :=
  iter (fun (s : Mem × Int32) => f_X8_clear_B2 n s.1 x0 s.2) n (σ, x1)
def f_X8_clear (n : Nat) (σ : Mem) (x0 : Nat) : Option Mem :=
  f_X8_clear_L2 n σ x0 0
def f_X1_goBack (n : Nat) (σ : Mem) (k : Nat) : Option Mem :=
  bnd (f_X8_clear n σ (ptr k 1)) fun σ_3 =>
  bnd (f_X8_clear n σ_3 (ptr k 2)) fun σ_6 =>
  bnd (f_X8_clear n σ_6 (ptr k 3)) fun σ_9 =>
  bnd (f_X8_clear n σ_9 (ptr k 4)) fun σ_12 =>
  bnd (f_X8_clear n σ_12 (ptr k 5)) fun σ_15 =>
  bnd (f_X8_clear n σ_15 (ptr k 6)) fun σ_18 =>
  bnd (f_X8_clear n σ_18 (ptr k 7)) fun σ_21 =>
  some σ_21
def f_X4_copy (σ : Mem) (k : Nat) (x1 : Nat) : Option Mem :=
  bnd (f_X8_copyRow σ (ptr x1 4) (ptr k 4)) fun σ_3 =>
  some σ_3
def f_X1_copy (σ : Mem) (k : Nat) (x1 : Nat) : Option Mem :=
  nm (gst σ k 8 (σ x1 8)) fun σ_1 =>
  bnd (f_X4_copy σ_1 (ptr k 0) (ptr x1 0)) fun σ_4 =>
  bnd (f_X8_copyRow σ_4 (ptr x1 1) (ptr k 1)) fun σ_7 =>
  bnd (f_X8_copyRow σ_7 (ptr x1 2) (ptr k 2)) fun σ_10 =>
  bnd (f_X8_copyRow σ_10 (ptr x1 3) (ptr k 3)) fun σ_13 =>
  bnd (f_X8_copyRow σ_13 (ptr x1 4) (ptr k 4)) fun σ_16 =>
  bnd (f_X8_copyRow σ_16 (ptr x1 5) (ptr k 5)) fun σ_19 =>
  bnd (f_X8_copyRow σ_19 (ptr x1 6) (ptr k 6)) fun σ_22 =>
  bnd (f_X8_copyRow σ_22 (ptr x1 7) (ptr k 7)) fun σ_25 =>
  some σ_25
def f_J9_floorMod_7cf53 (x0 : Int32) (x1 : Int32) : Option Int32 :=
  chk (decide (¬ x1 = 0)) (nm ((irm x0 x1)) fun x2_1 =>
  (if 0 ≤ (x0 ^^^ x1) then some x2_1
  else (if x2_1 = 0 then some x2_1
  else some (x2_1 + x1))))
def f_X1_rowOf (x0 : Int32) : Option Int32 :=
  bnd (f_J9_floorMod_7cf53 x0 51) fun r_2 =>
  some (r_2 * 12)
def f_X1_keepCommands (σ : Mem) (k : Nat) (x1 : Int32) : Option Mem :=
  bnd (f_X1_rowOf x1) fun r_2 =>
  chk (ckC 0 r_2 12 (alen (ptr k 1)) (alen (ptr k 7))) (nm (gput σ (ptr k 7) (va_cpy (σ (ptr k 1)) (σ (ptr k 7)) (ix 0) (ix r_2) (ix 12))) fun σ_3 =>
  some σ_3)
def f_X1_commandAt (σ : Mem) (k : Nat) (x1 : Int32) (x2 : Int32) : Option Int32 :=
  (if 0 ≤ x1 then bnd (f_X1_rowOf x1) fun r_2 =>
  chk (ckI (r_2 + x2) (alen (ptr k 7))) (some (σ (ptr k 7) (ix (r_2 + x2))))
  else some 0)
def f_X4_value (σ : Mem) (k : Nat) (x1 : Int32) (x2 : Int32) : Option Int32 :=
  nm (((x1 * (Int32.ofNat (alen (ptr k 2)))) + x2)) fun x3_1 =>
  (if x3_1 < 0 then some 0
  else (if (Int32.ofNat (alen (ptr k 4))) ≤ x3_1 then some 0
  else chk (ckI x3_1 (alen (ptr k 4))) (some (σ (ptr k 4) (ix x3_1)))))
def f_X8_toward (x0 : Int32) (x1 : Int32) (x2 : Int32) : Option Int32 :=
  (if x1 ≤ x0 then some (mxI x1 (x0 - x2))
  else some (mnI x1 (x0 + x2)))
def f_X1_open_L69 (n : Nat) (σ : Mem) (k : Nat) (x1 : Int32) (x2 : Int32) (x3 : Int32) (x4 : Int32) (x5 : Int32) : Option (Mem ⊕ (Mem × Int32)) :=
  chk (ckI x4 (alen (ptr k 2))) (bnd (f_X4_value σ (ptr k 0) x4 3) fun r_6 =>
  bnd (f_X8_toward (σ (ptr k 2) (ix x4)) x5 r_6) fun r_8 =>
  chk (ckI x4 (alen (ptr k 2))) (nm (gst σ (ptr k 2) (ix x4) r_8) fun σ_9 =>
  nm (x4 + 1) fun x4_10 =>
  some (.inr (σ_9, x4_10))))
def f_X1_open_B3 (n : Nat) (σ : Mem) (k : Nat) (x1 : Int32) (x2 : Int32) (x3 : Int32) (x4 : Int32) : Option (Mem ⊕ (Mem × Int32)) :=
  (if (σ k 8) ≤ x4 then some (.inl σ)
  else bnd (f_X4_value σ (ptr k 0) x4 2) fun r_2 =>
  bnd (f_X1_commandAt σ k (x1 - r_2) x4) fun r_4 =>
  (if x2 = 1 then nm (gst σ k 9 (mxI (σ k 9) r_4)) fun σ_11 =>
  nm ((mnI r_4 x3)) fun x5_12 =>
  f_X1_open_L69 n σ_11 k x1 x2 x3 x4 x5_12
  else (if x2 = 2 then f_X1_open_L69 n σ k x1 x2 x3 x4 0
  else f_X1_open_L69 n σ k x1 x2 x3 x4 r_4)))
def f_X1_open_L3 (n : Nat) (σ : Mem) (k : Nat) (x1 : Int32) (x2 : Int32) (x3 : Int32) (x4 : Int32) : Option Mem :=
  iter (fun (s : Mem × Int32) => f_X1_open_B3 n s.1 k x1 x2 x3 s.2) n (σ, x4)
def f_X1_open (n : Nat) (σ : Mem) (k : Nat) (x1 : Int32) (x2 : Int32) (x3 : Int32) : Option Mem :=
  f_X1_open_L3 n σ k x1 x2 x3 0
def f_X1_demandAt (σ : Mem) (k : Nat) (x1 : Int32) : Option Int32 :=
  chk (ckI x1 (alen (ptr k 2))) (bnd (f_X4_value σ (ptr k 0) x1 0) fun r_2 =>
  some ((σ (ptr k 2) (ix x1)) * r_2))
def f_X1_demandOf_B4 (n : Nat) (σ : Mem) (k : Nat) (x1 : Int32) (x2 : Int32) (x3 : Int32) : Option (Int32 ⊕ (Int32 × Int32)) :=
  (if (σ k 8) ≤ x3 then some (.inl x2)
  else bnd (f_X4_value σ (ptr k 0) x3 4) fun r_2 =>
  (if r_2 = x1 then bnd (f_X1_demandAt σ k x3) fun r_5 =>
  nm ((x2 + r_5)) fun x2_6 =>
  nm (x3 + 1) fun x3_7 =>
  some (.inr (x2_6, x3_7))
  else nm (x3 + 1) fun x3_3 =>
  some (.inr (x2, x3_3))))
def f_X1_demandOf_L4 (n : Nat) (σ : Mem) (k : Nat) (x1 : Int32) (x2 : Int32) (x3 : Int32) : Option Int32 :=
  iter (fun (s : Int32 × Int32) => f_X1_demandOf_B4 n σ k x1 s.1 s.2) n (x2, x3)
def f_X1_demandOf (n : Nat) (σ : Mem) (k : Nat) (x1 : Int32) : Option Int32 :=
  f_X1_demandOf_L4 n σ k x1 0 0
def f_J9_floorDiv_f86c9 (x0 : Int64) (x2 : Int64) : Option Int64 :=
  chk (decide (¬ x2 = 0)) (nm ((x0 / x2)) fun x4_1 =>
  (if 0 ≤ (lg_cmp (x0 ^^^ x2) (0 : Int64)) then some x4_1
  else (if (lg_cmp (x4_1 * x2) x0) = 0 then some x4_1
  else some (x4_1 - (1 : Int64)))))
def f_X8_quotient (x0 : Int64) (x2 : Int64) : Option Int64 :=
  (if 0 ≤ (lg_cmp x2 (1 : Int64)) then bnd (f_J9_floorDiv_f86c9 x0 x2) fun r_2 =>
  some r_2
  else some (0 : Int64))
def f_X1_flow_L62 (n : Nat) (σ : Mem) (k : Nat) (x1 : Int32) (x2 : Int32) (x3 : Int32) (x4 : Int32) (y0 : Int32) (y1 : Int32) : Option (Mem ⊕ (Mem × Int32)) :=
  chk (ckI y1 (alen (ptr k 3))) (nm (gst σ (ptr k 3) (ix y1) y0) fun σ_8 =>
  nm (x4 + 1) fun x4_9 =>
  some (.inr (σ_8, x4_9)))
def f_X1_flow_B3 (n : Nat) (σ : Mem) (k : Nat) (x1 : Int32) (x2 : Int32) (x3 : Int32) (x4 : Int32) : Option (Mem ⊕ (Mem × Int32)) :=
  (if (σ k 8) ≤ x4 then some (.inl σ)
  else bnd (f_X4_value σ (ptr k 0) x4 4) fun r_2 =>
  (if r_2 = x1 then bnd (f_X1_demandAt σ k x4) fun r_5 =>
  (if x3 < x2 then bnd (f_X8_quotient ((r_5.toInt64) * (x3.toInt64)) (x2.toInt64)) fun r_7 =>
  f_X1_flow_L62 n σ k x1 x2 x3 x4 (r_7.toInt32) x4
  else f_X1_flow_L62 n σ k x1 x2 x3 x4 r_5 x4)
  else nm (x4 + 1) fun x4_3 =>
  some (.inr (σ, x4_3))))
def f_X1_flow_L3 (n : Nat) (σ : Mem) (k : Nat) (x1 : Int32) (x2 : Int32) (x3 : Int32) (x4 : Int32) : Option Mem :=
  iter (fun (s : Mem × Int32) => f_X1_flow_B3 n s.1 k x1 x2 x3 s.2) n (σ, x4)
def f_X1_flow (n : Nat) (σ : Mem) (k : Nat) (x1 : Int32) (x2 : Int32) (x3 : Int32) : Option Mem :=
  f_X1_flow_L3 n σ k x1 x2 x3 0
def f_X1_rise_B2 (n : Nat) (σ : Mem) (k : Nat) (x1 : Int32) (x2 : Int32) : Option (Mem ⊕ (Mem × Int32)) :=
  (if (σ k 8) ≤ x2 then some (.inl σ)
  else chk (ckI x2 (alen (ptr k 3))) (bnd (f_X4_value σ (ptr k 0) x2 0) fun r_2 =>
  bnd (f_X8_quotient ((σ (ptr k 3) (ix x2)).toInt64) (r_2.toInt64)) fun r_4 =>
  bnd (f_X4_value σ (ptr k 0) x2 1) fun r_6 =>
  chk (ckI x2 (alen (ptr k 4))) (nm (gst σ (ptr k 4) (ix x2) (((((r_6.toInt64) * r_4) * r_4) / (1000000 : Int64)).toInt32)) fun σ_7 =>
  chk (ckI x2 (alen (ptr k 4))) (bnd (f_X4_value σ_7 (ptr k 0) x2 5) fun r_9 =>
  chk (ckI x2 (alen (ptr k 5))) (nm (gst σ_7 (ptr k 5) (ix x2) ((((((σ_7 (ptr k 4) (ix x2)).toInt64) * (x1.toInt64)) * (r_9.toInt64)) / (100000 : Int64)).toInt32)) fun σ_10 =>
  chk (ckI x2 (alen (ptr k 6))) (chk (ckI x2 (alen (ptr k 4))) (chk (ckI x2 (alen (ptr k 6))) (nm (gst σ_10 (ptr k 6) (ix x2) (mxI (σ_10 (ptr k 6) (ix x2)) (σ_10 (ptr k 4) (ix x2)))) fun σ_11 =>
  nm (x2 + 1) fun x2_12 =>
  some (.inr (σ_11, x2_12))))))))))
def f_X1_rise_L2 (n : Nat) (σ : Mem) (k : Nat) (x1 : Int32) (x2 : Int32) : Option Mem :=
  iter (fun (s : Mem × Int32) => f_X1_rise_B2 n s.1 k x1 s.2) n (σ, x2)
def f_X1_rise (n : Nat) (σ : Mem) (k : Nat) (x1 : Int32) : Option Mem :=
  f_X1_rise_L2 n σ k x1 0
def f_X1_driftsBeyond_B2 (n : Nat) (σ : Mem) (k : Nat) (x1 : Int32) (x2 : Int32) : Option (Int32 ⊕ (Int32)) :=
  (if (σ k 8) ≤ x2 then some (.inl 0)
  else chk (ckI x2 (alen (ptr k 5))) ((if (σ (ptr k 5) (ix x2)) ≤ x1 then nm (x2 + 1) fun x2_1 =>
  some (.inr x2_1)
  else some (.inl 1))))
def f_X1_driftsBeyond_L2 (n : Nat) (σ : Mem) (k : Nat) (x1 : Int32) (x2 : Int32) : Option Int32 :=
  iter (fun (s : Int32) => f_X1_driftsBeyond_B2 n σ k x1 s) n x2
def f_X1_driftsBeyond (n : Nat) (σ : Mem) (k : Nat) (x1 : Int32) : Option Int32 :=
  f_X1_driftsBeyond_L2 n σ k x1 0
def f_X1_greatestHeightNow_B4 (n : Nat) (σ : Mem) (k : Nat) (x1 : Int32) (x2 : Int32) : Option (Int32 ⊕ (Int32 × Int32)) :=
  (if (σ k 8) ≤ x2 then some (.inl x1)
  else chk (ckI x2 (alen (ptr k 4))) (nm ((mxI x1 (σ (ptr k 4) (ix x2)))) fun x1_1 =>
  nm (x2 + 1) fun x2_2 =>
  some (.inr (x1_1, x2_2))))
def f_X1_greatestHeightNow_L4 (n : Nat) (σ : Mem) (k : Nat) (x1 : Int32) (x2 : Int32) : Option Int32 :=
  iter (fun (s : Int32 × Int32) => f_X1_greatestHeightNow_B4 n σ k s.1 s.2) n (x1, x2)
def f_X1_greatestHeightNow (n : Nat) (σ : Mem) (k : Nat) : Option Int32 :=
  f_X1_greatestHeightNow_L4 n σ k 0 0
def f_X2_append (σ : Mem) (k : Nat) (x1 : Int32) : Option (Int32 × Mem) :=
  (if (σ k 2) < 80 then chk (ckI (σ k 2) (alen (ptr k 1))) (nm (gst σ (ptr k 1) (ix (σ k 2)) (vp_nar .char x1)) fun σ_1 =>
  nm (gst σ_1 k 2 ((σ_1 k 2) + 1)) fun σ_2 =>
  some ((σ_2 k 2), σ_2))
  else some ((-4), σ))
def f_X2_endsCue (n : Nat) (σ : Mem) (k : Nat) : Option (Int32 × Mem) :=
  (if (σ k 3) = 2 then (if (σ k 6) = (-1) then some (0, σ)
  else bnd2 (f_X0_insert n σ (ptr k 0) (σ k 4) (σ k 5) (σ k 6)) fun r_2 σ_3 =>
  nm (gst σ_3 k 6 (-1)) fun σ_4 =>
  nm (gst σ_4 k 3 0) fun σ_5 =>
  some (1, σ_5))
  else some (0, σ))
def f_X2_endsSet (σ : Mem) (k : Nat) : Option (Int32 × Mem) :=
  nm (gst σ k 6 (-1)) fun σ_1 =>
  nm (gst σ_1 k 3 2) fun σ_2 =>
  (if (σ_2 k 5) = 0 then some (0, σ_2)
  else some (1, σ_2))
def f_X2_endsTime (σ : Mem) (k : Nat) : Option (Int32 × Mem) :=
  nm (gst σ k 4 (σ k 6)) fun σ_1 =>
  nm (gst σ_1 k 5 0) fun σ_2 =>
  nm (gst σ_2 k 3 1) fun σ_3 =>
  (if (σ_3 k 6) = (-1) then some (0, σ_3)
  else some (1, σ_3))
def f_X2_isDigitUpTo_L48 (σ : Mem) (k : Nat) (x1 : Int32) (y0 : Int32) : Option (Int32 × Mem) :=
  nm (gst σ k 6 y0) fun σ_2 =>
  (if x1 < (σ_2 k 6) then some (0, σ_2)
  else some (1, σ_2))
def f_X2_isDigitUpTo (σ : Mem) (k : Nat) (x1 : Int32) (x2 : Int32) : Option (Int32 × Mem) :=
  (if x2 < 48 then some (0, σ)
  else (if 57 < x2 then some (0, σ)
  else (if (σ k 6) = 0 then some (0, σ)
  else nm ((x2 - 48)) fun x3_1 =>
  (if (σ k 6) = (-1) then f_X2_isDigitUpTo_L48 σ k x1 x3_1
  else f_X2_isDigitUpTo_L48 σ k x1 ((10 * (σ k 6)) + x3_1)))))
def f_X2_isLetter_L34 (σ : Mem) (k : Nat) (x2 : Int32) (y0 : Int32) : Option (Int32 × Mem) :=
  nm (gst σ k 5 ((σ k 5) ||| x2)) fun σ_2 =>
  chk (bit y0) (some (y0, σ_2))
def f_X2_isLetter (σ : Mem) (k : Nat) (x1 : Int32) : Option (Int32 × Mem) :=
  (if x1 < 97 then some (0, σ)
  else (if x1 ≤ 108 then nm ((1 <<< ((x1 - 97) &&& 31))) fun x2_1 =>
  (if x2_1 ≤ (σ k 5) then f_X2_isLetter_L34 σ k x2_1 0
  else f_X2_isLetter_L34 σ k x2_1 1)
  else some (0, σ)))
def f_X2_accepts (n : Nat) (σ : Mem) (k : Nat) (x1 : Int32) : Option (Int32 × Mem) :=
  nm ((σ k 3)) fun z_1 =>
  (if z_1 = 0 then (if x1 = 58 then bnd2 (f_X2_endsTime σ k) fun r_6 σ_7 =>
  chk (bit r_6) (some (r_6, σ_7))
  else bnd2 (f_X2_isDigitUpTo σ k 9999 x1) fun r_3 σ_4 =>
  chk (bit r_3) (some (r_3, σ_4)))
  else (if z_1 = 1 then (if x1 = 61 then bnd2 (f_X2_endsSet σ k) fun r_12 σ_13 =>
  chk (bit r_12) (some (r_12, σ_13))
  else bnd2 (f_X2_isLetter σ k x1) fun r_9 σ_10 =>
  chk (bit r_9) (some (r_9, σ_10)))
  else (if x1 = 44 then bnd2 (f_X2_endsCue n σ k) fun r_18 σ_19 =>
  chk (bit r_18) (some (r_18, σ_19))
  else bnd2 (f_X2_isDigitUpTo σ k 1000 x1) fun r_15 σ_16 =>
  chk (bit r_15) (some (r_15, σ_16)))))
def f_X2_findFault_B20 (n : Nat) (σ : Mem) (k : Nat) (x1 : Int32) : Option ((Int32 × Mem) ⊕ (Mem × Int32)) :=
  (if (σ k 2) ≤ x1 then bnd2 (f_X2_endsCue n σ k) fun r_5 σ_6 =>
  (if r_5 = 0 then some (.inl ((σ_6 k 2), σ_6))
  else some (.inl ((-6), σ_6)))
  else chk (ckI x1 (alen (ptr k 1))) (bnd2 (f_X2_accepts n σ k (σ (ptr k 1) (ix x1))) fun r_8 σ_9 =>
  (if r_8 = 0 then some (.inl (x1, σ_9))
  else nm (x1 + 1) fun x1_10 =>
  some (.inr (σ_9, x1_10)))))
def f_X2_findFault_L20 (n : Nat) (σ : Mem) (k : Nat) (x1 : Int32) : Option (Int32 × Mem) :=
  iter (fun (s : Mem × Int32) => f_X2_findFault_B20 n s.1 k s.2) n (σ, x1)
def f_X2_findFault (n : Nat) (σ : Mem) (k : Nat) : Option (Int32 × Mem) :=
  nm (gst σ (ptr k 0) 3 0) fun σ_1 =>
  nm (gst σ_1 k 3 0) fun σ_2 =>
  nm (gst σ_2 k 6 (-1)) fun σ_3 =>
  f_X2_findFault_L20 n σ_3 k 0
def f_X3_goBack (n : Nat) (σ : Mem) (k : Nat) : Option Mem :=
  bnd (f_X8_clear n σ (ptr k 1)) fun σ_3 =>
  bnd (f_X8_clear n σ_3 (ptr k 2)) fun σ_6 =>
  bnd (f_X8_clear n σ_6 (ptr k 3)) fun σ_9 =>
  some σ_9
def f_X3_copy (σ : Mem) (k : Nat) (x1 : Nat) : Option Mem :=
  bnd (f_X4_copy σ (ptr k 0) (ptr x1 0)) fun σ_3 =>
  bnd (f_X8_copyRow σ_3 (ptr x1 1) (ptr k 1)) fun σ_6 =>
  bnd (f_X8_copyRow σ_6 (ptr x1 2) (ptr k 2)) fun σ_9 =>
  bnd (f_X8_copyRow σ_9 (ptr x1 3) (ptr k 3)) fun σ_12 =>
  some σ_12
def f_X3_supply_B2 (n : Nat) (σ : Mem) (k : Nat) (x1 : Nat) (x2 : Int32) : Option (Mem ⊕ (Mem × Int32)) :=
  (if 3 ≤ x2 then some (.inl σ)
  else bnd (f_X1_demandOf n σ x1 x2) fun r_2 =>
  chk (ckI x2 (alen (ptr k 2))) (nm (gst σ (ptr k 2) (ix x2) r_2) fun σ_3 =>
  chk (ckI x2 (alen (ptr k 2))) (bnd (f_X4_value σ_3 (ptr k 0) x2 0) fun r_5 =>
  nm ((mnI (σ_3 (ptr k 2) (ix x2)) (1000 * r_5))) fun x3_6 =>
  chk (ckI x2 (alen (ptr k 1))) (bnd (f_X4_value σ_3 (ptr k 0) x2 1) fun r_8 =>
  bnd (f_X8_toward (σ_3 (ptr k 1) (ix x2)) x3_6 (1000 * r_8)) fun r_10 =>
  chk (ckI x2 (alen (ptr k 1))) (nm (gst σ_3 (ptr k 1) (ix x2) r_10) fun σ_11 =>
  chk (ckI x2 (alen (ptr k 2))) (chk (ckI x2 (alen (ptr k 1))) (bnd (f_X1_flow n σ_11 x1 x2 (σ_11 (ptr k 2) (ix x2)) (σ_11 (ptr k 1) (ix x2))) fun σ_14 =>
  nm (x2 + 1) fun x2_15 =>
  some (.inr (σ_14, x2_15)))))))))
def f_X3_supply_L2 (n : Nat) (σ : Mem) (k : Nat) (x1 : Nat) (x2 : Int32) : Option Mem :=
  iter (fun (s : Mem × Int32) => f_X3_supply_B2 n s.1 k x1 s.2) n (σ, x2)
def f_X3_supply (n : Nat) (σ : Mem) (k : Nat) (x1 : Nat) : Option Mem :=
  f_X3_supply_L2 n σ k x1 0
def f_X3_isShort (σ : Mem) (k : Nat) (x1 : Int32) : Option Int32 :=
  chk (ckI x1 (alen (ptr k 2))) (chk (ckI x1 (alen (ptr k 1))) ((if (σ (ptr k 2) (ix x1)) ≤ (σ (ptr k 1) (ix x1)) then some 0
  else some 1)))
def f_X3_countShort_B2 (n : Nat) (σ : Mem) (k : Nat) (x1 : Int32) : Option (Mem ⊕ (Mem × Int32)) :=
  (if 3 ≤ x1 then some (.inl σ)
  else bnd (f_X3_isShort σ k x1) fun r_2 =>
  (if r_2 = 0 then nm (x1 + 1) fun x1_3 =>
  some (.inr (σ, x1_3))
  else chk (ckI x1 (alen (ptr k 3))) (chk (ckI x1 (alen (ptr k 3))) (nm (gst σ (ptr k 3) (ix x1) ((σ (ptr k 3) (ix x1)) + 1)) fun σ_4 =>
  nm (x1 + 1) fun x1_5 =>
  some (.inr (σ_4, x1_5))))))
def f_X3_countShort_L2 (n : Nat) (σ : Mem) (k : Nat) (x1 : Int32) : Option Mem :=
  iter (fun (s : Mem × Int32) => f_X3_countShort_B2 n s.1 k s.2) n (σ, x1)
def f_X3_countShort (n : Nat) (σ : Mem) (k : Nat) : Option Mem :=
  f_X3_countShort_L2 n σ k 0
def f_X3_someShort_B2 (n : Nat) (σ : Mem) (k : Nat) (x1 : Int32) : Option (Int32 ⊕ (Int32)) :=
  (if 3 ≤ x1 then some (.inl 0)
  else bnd (f_X3_isShort σ k x1) fun r_2 =>
  (if r_2 = 0 then nm (x1 + 1) fun x1_3 =>
  some (.inr x1_3)
  else some (.inl 1)))
def f_X3_someShort_L2 (n : Nat) (σ : Mem) (k : Nat) (x1 : Int32) : Option Int32 :=
  iter (fun (s : Int32) => f_X3_someShort_B2 n σ k s) n x1
def f_X3_someShort (n : Nat) (σ : Mem) (k : Nat) : Option Int32 :=
  f_X3_someShort_L2 n σ k 0
def f_X4_change (σ : Mem) (k : Nat) (x1 : Int32) (x2 : Int32) (x3 : Int32) : Option (Int32 × Mem) :=
  bnd (f_X8_within x1 0 ((σ k 3) - 1)) fun r_2 =>
  (if r_2 = 0 then some ((-2), σ)
  else bnd (f_X8_within x2 0 ((Int32.ofNat (alen (ptr k 2))) - 1)) fun r_4 =>
  (if r_4 = 0 then some ((-2), σ)
  else chk (ckI x2 (alen (ptr k 0))) (chk (ckI x2 (alen (ptr k 1))) (bnd (f_X8_within x3 (σ (ptr k 0) (ix x2)) (σ (ptr k 1) (ix x2))) fun r_6 =>
  (if r_6 = 0 then some ((-2), σ)
  else nm (((x1 * (Int32.ofNat (alen (ptr k 2)))) + x2)) fun x4_7 =>
  chk (ckI x4_7 (alen (ptr k 4))) (nm ((σ (ptr k 4) (ix x4_7))) fun x5_8 =>
  chk (ckI x4_7 (alen (ptr k 4))) (nm (gst σ (ptr k 4) (ix x4_7) x3) fun σ_9 =>
  some (x5_8, σ_9))))))))
def f_X7_goBack (σ : Mem) (k : Nat) : Option Mem :=
  nm (gst σ k 1 0) fun σ_1 =>
  nm (gst σ_1 k 2 0) fun σ_2 =>
  nm (gst σ_2 k 3 0) fun σ_3 =>
  some σ_3
def f_X5_goBack (n : Nat) (σ : Mem) (k : Nat) : Option Mem :=
  bnd (f_X1_goBack n σ (ptr k 1)) fun σ_3 =>
  bnd (f_X3_goBack n σ_3 (ptr k 2)) fun σ_6 =>
  bnd (f_X7_goBack σ_6 (ptr k 3)) fun σ_9 =>
  nm (gst σ_9 k 5 0) fun σ_10 =>
  nm (gst σ_10 k 6 0) fun σ_11 =>
  some σ_11
def f_X5_begin (n : Nat) (σ : Mem) (k : Nat) (x1 : Int32) : Option Mem :=
  bnd (f_X4_reset n σ (ptr k 0)) fun σ_3 =>
  bnd (f_X1_begin n σ_3 (ptr k 1) x1) fun σ_6 =>
  bnd (f_X4_reset n σ_6 (ptr (ptr k 2) 0)) fun σ_9 =>
  nm (gst σ_9 (ptr k 3) 0 0) fun σ_10 =>
  nm (gst σ_10 (ptr k 4) 3 0) fun σ_11 =>
  bnd (f_X5_goBack n σ_11 k) fun σ_14 =>
  some σ_14
def f_X7_copy (σ : Mem) (k : Nat) (x1 : Nat) : Option Mem :=
  nm (gst σ k 0 (σ x1 0)) fun σ_1 =>
  nm (gst σ_1 k 1 (σ_1 x1 1)) fun σ_2 =>
  nm (gst σ_2 k 2 (σ_2 x1 2)) fun σ_3 =>
  nm (gst σ_3 k 3 (σ_3 x1 3)) fun σ_4 =>
  some σ_4
def f_X5_copy (σ : Mem) (k : Nat) (x1 : Nat) : Option Mem :=
  bnd (f_X4_copy σ (ptr k 0) (ptr x1 0)) fun σ_3 =>
  bnd (f_X1_copy σ_3 (ptr k 1) (ptr x1 1)) fun σ_6 =>
  bnd (f_X3_copy σ_6 (ptr k 2) (ptr x1 2)) fun σ_9 =>
  bnd (f_X7_copy σ_9 (ptr k 3) (ptr x1 3)) fun σ_12 =>
  bnd (f_X0_copy σ_12 (ptr k 4) (ptr x1 4)) fun σ_15 =>
  nm (gst σ_15 k 5 (σ_15 x1 5)) fun σ_16 =>
  nm (gst σ_16 k 6 (σ_16 x1 6)) fun σ_17 =>
  some σ_17
def f_X7_enter (σ : Mem) (k : Nat) (x1 : Int32) : Option Mem :=
  nm (gst σ k 2 x1) fun σ_1 =>
  nm (gst σ_1 k 3 0) fun σ_2 =>
  some σ_2
def f_X7_calmDown (σ : Mem) (k : Nat) (x1 : Int32) : Option Mem :=
  nm (gst σ k 3 ((σ k 3) + 1)) fun σ_1 =>
  (if (σ_1 k 3) < x1 then some σ_1
  else bnd (f_X7_enter σ_1 k ((σ_1 k 2) - 1)) fun σ_4 =>
  some σ_4)
def f_X7_measured (σ : Mem) (k : Nat) : Option Int32 :=
  some ((σ k 1) / 1024)
def f_X7_blow_L130 (σ : Mem) (k : Nat) (x1 : Nat) : Option Mem :=
  nm (gst σ k 3 0) fun σ_14 =>
  some σ_14
def f_X7_blow_L111 (σ : Mem) (k : Nat) (x1 : Nat) (y0 : Int32) (y1 : Int32) : Option Mem :=
  (if (y0 - 10) ≤ y1 then f_X7_blow_L130 σ k x1
  else bnd (f_X4_value σ x1 0 4) fun r_18 =>
  bnd (f_X7_calmDown σ k r_18) fun σ_21 =>
  some σ_21)
def f_X7_blow_L87 (σ : Mem) (k : Nat) (x1 : Nat) (x2 : Int32) (x3 : Int32) : Option Mem :=
  (if (σ k 2) ≤ 0 then f_X7_blow_L130 σ k x1
  else bnd (f_X7_measured σ k) fun r_16 =>
  (if (σ k 2) = 2 then f_X7_blow_L111 σ k x1 x3 r_16
  else f_X7_blow_L111 σ k x1 x2 r_16))
def f_X7_blow (σ : Mem) (k : Nat) (x1 : Nat) : Option Mem :=
  bnd (f_X4_value σ x1 0 0) fun r_2 =>
  bnd (f_X8_quotient (((1024 * (σ k 0)) - (σ k 1)).toInt64) (r_2.toInt64)) fun r_4 =>
  nm (gst σ k 1 ((σ k 1) + (r_4.toInt32))) fun σ_5 =>
  bnd (f_X4_value σ_5 x1 0 1) fun r_7 =>
  bnd (f_X4_value σ_5 x1 0 2) fun r_9 =>
  bnd (f_X7_measured σ_5 k) fun r_11 =>
  (if r_11 < r_9 then bnd (f_X7_measured σ_5 k) fun r_13 =>
  (if r_13 < r_7 then f_X7_blow_L87 σ_5 k x1 r_7 r_9
  else (if (σ_5 k 2) = 0 then bnd (f_X7_enter σ_5 k 1) fun σ_24 =>
  some σ_24
  else f_X7_blow_L87 σ_5 k x1 r_7 r_9))
  else bnd (f_X7_enter σ_5 k 2) fun σ_27 =>
  some σ_27)
def f_X5_makeTick_L125 (n : Nat) (σ : Mem) (k : Nat) : Option Mem :=
  nm (gst σ k 5 ((σ k 5) + 1)) fun σ_30 =>
  some σ_30
def f_X5_makeTick (n : Nat) (σ : Mem) (k : Nat) : Option Mem :=
  bnd (f_X0_carryOut n σ (ptr k 4) (ptr k 1) (σ k 5)) fun σ_3 =>
  bnd (f_X1_keepCommands σ_3 (ptr k 1) (σ_3 k 5)) fun σ_6 =>
  bnd (f_X7_blow σ_6 (ptr k 3) (ptr k 0)) fun σ_9 =>
  bnd (f_X4_value σ_9 (ptr k 0) 0 3) fun r_11 =>
  bnd (f_X1_open n σ_9 (ptr k 1) (σ_9 k 5) (σ_9 (ptr k 3) 2) r_11) fun σ_14 =>
  bnd (f_X3_supply n σ_14 (ptr k 2) (ptr k 1)) fun σ_17 =>
  bnd (f_X7_measured σ_17 (ptr k 3)) fun r_19 =>
  bnd (f_X1_rise n σ_17 (ptr k 1) r_19) fun σ_22 =>
  bnd (f_X3_countShort n σ_22 (ptr k 2)) fun σ_25 =>
  bnd (f_X4_value σ_25 (ptr k 0) 0 5) fun r_27 =>
  bnd (f_X1_driftsBeyond n σ_25 (ptr k 1) r_27) fun r_29 =>
  (if r_29 = 0 then f_X5_makeTick_L125 n σ_25 k
  else nm (gst σ_25 k 6 ((σ_25 k 6) + 1)) fun σ_31 =>
  f_X5_makeTick_L125 n σ_31 k)
def f_X8_setUp (n : Nat) (σ : Mem) (k : Nat) (x1 : Int32) : Option (Int32 × Mem) :=
  bnd (f_X8_within x1 1 12) fun r_2 =>
  (if r_2 = 0 then some ((-2), σ)
  else nm ((σ (ptr (ptr k 0) 1) 8)) fun x2_3 =>
  bnd (f_X5_begin n σ (ptr k 0) x1) fun σ_6 =>
  some (x2_3, σ_6))
def f_X8_nozzle (σ : Mem) (k : Nat) (x1 : Int32) (x2 : Int32) (x3 : Int32) : Option (Int32 × Mem) :=
  bnd (f_X1_has σ (ptr (ptr k 0) 1) x1) fun r_2 =>
  (if r_2 = 0 then some ((-1), σ)
  else bnd2 (f_X4_change σ (ptr (ptr (ptr k 0) 1) 0) x1 x2 x3) fun r_4 σ_5 =>
  some (r_4, σ_5))
def f_X8_pump (σ : Mem) (k : Nat) (x1 : Int32) (x2 : Int32) (x3 : Int32) : Option (Int32 × Mem) :=
  bnd (f_X8_within x1 0 2) fun r_2 =>
  (if r_2 = 0 then some ((-1), σ)
  else bnd2 (f_X4_change σ (ptr (ptr (ptr k 0) 2) 0) x1 x2 x3) fun r_4 σ_5 =>
  some (r_4, σ_5))
def f_X8_set (σ : Mem) (k : Nat) (x1 : Int32) (x2 : Int32) : Option (Int32 × Mem) :=
  bnd2 (f_X4_change σ (ptr (ptr k 0) 0) 0 x1 x2) fun r_2 σ_3 =>
  some (r_2, σ_3)
def f_X8_wind (σ : Mem) (k : Nat) (x1 : Int32) : Option (Int32 × Mem) :=
  bnd (f_X8_within x1 0 300) fun r_2 =>
  (if r_2 = 0 then some ((-2), σ)
  else nm ((σ (ptr (ptr k 0) 3) 0)) fun x2_3 =>
  nm (gst σ (ptr (ptr k 0) 3) 0 x1) fun σ_4 =>
  some (x2_3, σ_4))
def f_X8_cue (n : Nat) (σ : Mem) (k : Nat) (x1 : Int32) (x2 : Int32) (x3 : Int32) : Option (Int32 × Mem) :=
  bnd (f_X8_within x1 0 100000) fun r_2 =>
  (if r_2 = 0 then some ((-2), σ)
  else bnd (f_X8_within x2 1 4095) fun r_4 =>
  (if r_4 = 0 then some ((-2), σ)
  else bnd (f_X8_within x3 0 1000) fun r_6 =>
  (if r_6 = 0 then some ((-2), σ)
  else bnd2 (f_X0_insert n σ (ptr (ptr k 0) 4) x1 x2 x3) fun r_8 σ_9 =>
  some (r_8, σ_9))))
def f_X8_remove (σ : Mem) (k : Nat) (x1 : Int32) : Option (Int32 × Mem) :=
  bnd (f_X0_has σ (ptr (ptr k 0) 4) x1) fun r_2 =>
  (if r_2 = 0 then some ((-1), σ)
  else bnd (f_X0_takeOut σ (ptr (ptr k 0) 4) x1) fun σ_5 =>
  some ((σ_5 (ptr (ptr k 0) 4) 3), σ_5))
def f_X8_move (n : Nat) (σ : Mem) (k : Nat) (x1 : Int32) (x2 : Int32) : Option (Int32 × Mem) :=
  bnd (f_X0_has σ (ptr (ptr k 0) 4) x1) fun r_2 =>
  (if r_2 = 0 then some ((-1), σ)
  else bnd (f_X8_within x2 (-100000) 100000) fun r_4 =>
  (if r_4 = 0 then some ((-2), σ)
  else chk (ckI x1 (alen (ptr (ptr (ptr k 0) 4) 0))) (bnd (f_X8_within ((σ (ptr (ptr (ptr k 0) 4) 0) (ix x1)) + x2) 0 100000) fun r_6 =>
  (if r_6 = 0 then some ((-2), σ)
  else bnd2 (f_X0_postpone n σ (ptr (ptr k 0) 4) x1 x2) fun r_8 σ_9 =>
  some (r_8, σ_9)))))
def f_X8_part (σ : Mem) (k : Nat) (x1 : Int32) (x2 : Int32) : Option Int32 :=
  bnd (f_X0_has σ (ptr (ptr k 0) 4) x1) fun r_2 =>
  (if r_2 = 0 then some (-1)
  else (if x2 = 0 then chk (ckI x1 (alen (ptr (ptr (ptr k 0) 4) 0))) (some (σ (ptr (ptr (ptr k 0) 4) 0) (ix x1)))
  else (if x2 = 1 then chk (ckI x1 (alen (ptr (ptr (ptr k 0) 4) 1))) (some (σ (ptr (ptr (ptr k 0) 4) 1) (ix x1)))
  else (if x2 = 2 then chk (ckI x1 (alen (ptr (ptr (ptr k 0) 4) 2))) (some (σ (ptr (ptr (ptr k 0) 4) 2) (ix x1)))
  else some (-2)))))
def f_X8_command (n : Nat) (σ : Mem) (k : Nat) (x1 : Int32) (x2 : Int32) : Option (Int32 × Mem) :=
  bnd (f_X8_within x1 1 4095) fun r_2 =>
  (if r_2 = 0 then some ((-2), σ)
  else bnd (f_X8_within x2 0 1000) fun r_4 =>
  (if r_4 = 0 then some ((-2), σ)
  else bnd (f_X1_obey n σ (ptr (ptr k 0) 1) x1 x2) fun σ_7 =>
  some ((σ_7 (ptr k 0) 5), σ_7)))
def f_X8_tick_B33 (n : Nat) (σ : Mem) (k : Nat) (x1 : Int32) (x2 : Int32) : Option ((Int32 × Mem) ⊕ (Mem × Int32)) :=
  (if x1 ≤ x2 then some (.inl ((σ (ptr k 0) 5), σ))
  else bnd (f_X5_makeTick n σ (ptr k 0)) fun σ_5 =>
  nm (x2 + 1) fun x2_6 =>
  some (.inr (σ_5, x2_6)))
def f_X8_tick_L33 (n : Nat) (σ : Mem) (k : Nat) (x1 : Int32) (x2 : Int32) : Option (Int32 × Mem) :=
  iter (fun (s : Mem × Int32) => f_X8_tick_B33 n s.1 k x1 s.2) n (σ, x2)
def f_X8_tick (n : Nat) (σ : Mem) (k : Nat) (x1 : Int32) : Option (Int32 × Mem) :=
  bnd (f_X8_within x1 1 2000) fun r_2 =>
  (if r_2 = 0 then some ((-2), σ)
  else (if ((σ (ptr k 0) 5) + x1) ≤ 200000 then f_X8_tick_L33 n σ k x1 0
  else some ((-5), σ)))
def f_X8_rewind (n : Nat) (σ : Mem) (k : Nat) : Option (Int32 × Mem) :=
  nm ((σ (ptr k 0) 5)) fun x1_1 =>
  bnd (f_X5_goBack n σ (ptr k 0)) fun σ_4 =>
  some (x1_1, σ_4)
def f_X8_spray (σ : Mem) (k : Nat) (x1 : Int32) (x2 : Int32) : Option Int32 :=
  bnd (f_X1_has σ (ptr (ptr k 0) 1) x1) fun r_2 =>
  (if r_2 = 0 then some (-1)
  else (if x2 = 6 then chk (ckI x1 (alen (ptr (ptr (ptr k 0) 1) 1))) (some (σ (ptr (ptr (ptr k 0) 1) 1) (ix x1)))
  else (if x2 = 7 then chk (ckI x1 (alen (ptr (ptr (ptr k 0) 1) 2))) (some (σ (ptr (ptr (ptr k 0) 1) 2) (ix x1)))
  else (if x2 = 8 then chk (ckI x1 (alen (ptr (ptr (ptr k 0) 1) 3))) (some (σ (ptr (ptr (ptr k 0) 1) 3) (ix x1)))
  else (if x2 = 9 then chk (ckI x1 (alen (ptr (ptr (ptr k 0) 1) 4))) (some (σ (ptr (ptr (ptr k 0) 1) 4) (ix x1)))
  else (if x2 = 10 then chk (ckI x1 (alen (ptr (ptr (ptr k 0) 1) 5))) (some (σ (ptr (ptr (ptr k 0) 1) 5) (ix x1)))
  else (if x2 = 11 then chk (ckI x1 (alen (ptr (ptr (ptr k 0) 1) 6))) (some (σ (ptr (ptr (ptr k 0) 1) 6) (ix x1)))
  else bnd (f_X8_within x2 0 5) fun r_4 =>
  (if r_4 = 0 then some (-2)
  else bnd (f_X4_value σ (ptr (ptr (ptr k 0) 1) 0) x1 x2) fun r_6 =>
  some r_6))))))))
def f_X8_pressure (σ : Mem) (k : Nat) (x1 : Int32) (x2 : Int32) : Option Int32 :=
  bnd (f_X8_within x1 0 2) fun r_2 =>
  (if r_2 = 0 then some (-1)
  else (if x2 = 2 then chk (ckI x1 (alen (ptr (ptr (ptr k 0) 2) 1))) (some (σ (ptr (ptr (ptr k 0) 2) 1) (ix x1)))
  else (if x2 = 3 then chk (ckI x1 (alen (ptr (ptr (ptr k 0) 2) 2))) (some (σ (ptr (ptr (ptr k 0) 2) 2) (ix x1)))
  else (if x2 = 4 then chk (ckI x1 (alen (ptr (ptr (ptr k 0) 2) 3))) (some (σ (ptr (ptr (ptr k 0) 2) 3) (ix x1)))
  else bnd (f_X8_within x2 0 1) fun r_4 =>
  (if r_4 = 0 then some (-2)
  else bnd (f_X4_value σ (ptr (ptr (ptr k 0) 2) 0) x1 x2) fun r_6 =>
  some r_6)))))
def f_X8_state (n : Nat) (σ : Mem) (k : Nat) (x1 : Int32) : Option Int32 :=
  (if x1 = 0 then some (σ (ptr k 0) 5)
  else (if x1 = 1 then some (σ (ptr (ptr k 0) 1) 8)
  else (if x1 = 2 then some (σ (ptr (ptr k 0) 4) 3)
  else (if x1 = 3 then some (σ (ptr (ptr k 0) 3) 0)
  else (if x1 = 4 then bnd (f_X7_measured σ (ptr (ptr k 0) 3)) fun r_6 =>
  some r_6
  else (if x1 = 5 then some (σ (ptr (ptr k 0) 3) 2)
  else (if x1 = 6 then some (σ (ptr (ptr k 0) 3) 3)
  else (if x1 = 7 then some (σ (ptr k 0) 6)
  else (if x1 = 8 then bnd (f_X0_next n σ (ptr (ptr k 0) 4) (σ (ptr k 0) 5)) fun r_8 =>
  some r_8
  else (if x1 = 9 then some (σ (ptr k 4) 2)
  else bnd (f_X8_within x1 10 15) fun r_2 =>
  (if r_2 = 0 then some (-2)
  else bnd (f_X4_value σ (ptr (ptr k 0) 0) 0 (x1 - 10)) fun r_4 =>
  some r_4)))))))))))
def f_X8_firstShort_B2 (n : Nat) (σ : Mem) (k : Nat) (x1 : Int32) (x2 : Int32) (x3 : Int32) : Option ((Int32 × Mem) ⊕ (Mem × Int32)) :=
  (if x1 ≤ x3 then some (.inl ((-6), σ))
  else bnd (f_X5_makeTick n σ (ptr k 1)) fun σ_3 =>
  bnd (f_X3_isShort σ_3 (ptr (ptr k 1) 2) x2) fun r_5 =>
  (if r_5 = 0 then nm (x3 + 1) fun x3_6 =>
  some (.inr (σ_3, x3_6))
  else some (.inl (x3, σ_3))))
def f_X8_firstShort_L2 (n : Nat) (σ : Mem) (k : Nat) (x1 : Int32) (x2 : Int32) (x3 : Int32) : Option (Int32 × Mem) :=
  iter (fun (s : Mem × Int32) => f_X8_firstShort_B2 n s.1 k x1 x2 s.2) n (σ, x3)
def f_X8_firstShort (n : Nat) (σ : Mem) (k : Nat) (x1 : Int32) (x2 : Int32) : Option (Int32 × Mem) :=
  f_X8_firstShort_L2 n σ k x1 x2 0
def f_X8_greatestDemand_B5 (n : Nat) (σ : Mem) (k : Nat) (x1 : Int32) (x2 : Int32) (x3 : Int32) (x4 : Int32) : Option ((Int32 × Mem) ⊕ (Mem × Int32 × Int32)) :=
  (if x1 ≤ x4 then some (.inl (x3, σ))
  else bnd (f_X5_makeTick n σ (ptr k 1)) fun σ_3 =>
  chk (ckI x2 (alen (ptr (ptr (ptr k 1) 2) 2))) (nm ((mxI x3 (σ_3 (ptr (ptr (ptr k 1) 2) 2) (ix x2)))) fun x3_4 =>
  nm (x4 + 1) fun x4_5 =>
  some (.inr (σ_3, x3_4, x4_5))))
def f_X8_greatestDemand_L5 (n : Nat) (σ : Mem) (k : Nat) (x1 : Int32) (x2 : Int32) (x3 : Int32) (x4 : Int32) : Option (Int32 × Mem) :=
  iter (fun (s : Mem × Int32 × Int32) => f_X8_greatestDemand_B5 n s.1 k x1 x2 s.2.1 s.2.2) n (σ, x3, x4)
def f_X8_greatestDemand (n : Nat) (σ : Mem) (k : Nat) (x1 : Int32) (x2 : Int32) : Option (Int32 × Mem) :=
  f_X8_greatestDemand_L5 n σ k x1 x2 0 0
def f_X8_greatestHeight_B4 (n : Nat) (σ : Mem) (k : Nat) (x1 : Int32) (x2 : Int32) (x3 : Int32) : Option ((Int32 × Mem) ⊕ (Mem × Int32 × Int32)) :=
  (if x1 ≤ x3 then some (.inl (x2, σ))
  else bnd (f_X5_makeTick n σ (ptr k 1)) fun σ_3 =>
  bnd (f_X1_greatestHeightNow n σ_3 (ptr (ptr k 1) 1)) fun r_5 =>
  nm ((mxI x2 r_5)) fun x2_6 =>
  nm (x3 + 1) fun x3_7 =>
  some (.inr (σ_3, x2_6, x3_7)))
def f_X8_greatestHeight_L4 (n : Nat) (σ : Mem) (k : Nat) (x1 : Int32) (x2 : Int32) (x3 : Int32) : Option (Int32 × Mem) :=
  iter (fun (s : Mem × Int32 × Int32) => f_X8_greatestHeight_B4 n s.1 k x1 s.2.1 s.2.2) n (σ, x2, x3)
def f_X8_greatestHeight (n : Nat) (σ : Mem) (k : Nat) (x1 : Int32) : Option (Int32 × Mem) :=
  f_X8_greatestHeight_L4 n σ k x1 0 0
def f_X8_shortTicks_B16 (n : Nat) (σ : Mem) (k : Nat) (x1 : Int32) (x2 : Int32) (x3 : Int32) (x4 : Int32) : Option ((Int32 × Mem) ⊕ (Mem × Int32)) :=
  (if x1 ≤ x4 then chk (ckI x2 (alen (ptr (ptr (ptr k 1) 2) 3))) (some (.inl (((σ (ptr (ptr (ptr k 1) 2) 3) (ix x2)) - x3), σ)))
  else bnd (f_X5_makeTick n σ (ptr k 1)) fun σ_4 =>
  nm (x4 + 1) fun x4_5 =>
  some (.inr (σ_4, x4_5)))
def f_X8_shortTicks_L16 (n : Nat) (σ : Mem) (k : Nat) (x1 : Int32) (x2 : Int32) (x3 : Int32) (x4 : Int32) : Option (Int32 × Mem) :=
  iter (fun (s : Mem × Int32) => f_X8_shortTicks_B16 n s.1 k x1 x2 x3 s.2) n (σ, x4)
def f_X8_shortTicks (n : Nat) (σ : Mem) (k : Nat) (x1 : Int32) (x2 : Int32) : Option (Int32 × Mem) :=
  chk (ckI x2 (alen (ptr (ptr (ptr k 1) 2) 3))) (nm ((σ (ptr (ptr (ptr k 1) 2) 3) (ix x2))) fun x3_1 =>
  f_X8_shortTicks_L16 n σ k x1 x2 x3_1 0)
def f_X8_wetTicks_B10 (n : Nat) (σ : Mem) (k : Nat) (x1 : Int32) (x2 : Int32) (x3 : Int32) : Option ((Int32 × Mem) ⊕ (Mem × Int32)) :=
  (if x1 ≤ x3 then some (.inl (((σ (ptr k 1) 6) - x2), σ))
  else bnd (f_X5_makeTick n σ (ptr k 1)) fun σ_4 =>
  nm (x3 + 1) fun x3_5 =>
  some (.inr (σ_4, x3_5)))
def f_X8_wetTicks_L10 (n : Nat) (σ : Mem) (k : Nat) (x1 : Int32) (x2 : Int32) (x3 : Int32) : Option (Int32 × Mem) :=
  iter (fun (s : Mem × Int32) => f_X8_wetTicks_B10 n s.1 k x1 x2 s.2) n (σ, x3)
def f_X8_wetTicks (n : Nat) (σ : Mem) (k : Nat) (x1 : Int32) : Option (Int32 × Mem) :=
  nm ((σ (ptr k 1) 6)) fun x2_1 =>
  f_X8_wetTicks_L10 n σ k x1 x2_1 0
def f_X8_ahead_L39 (n : Nat) (σ : Mem) (k : Nat) (x1 : Int32) (x2 : Int32) (x3 : Int32) : Option (Int32 × Mem) :=
  bnd (f_X5_copy σ (ptr k 1) (ptr k 0)) fun σ_7 =>
  (if x3 = 0 then bnd2 (f_X8_greatestDemand n σ_7 k x1 x2) fun r_12 σ_13 =>
  some (r_12, σ_13)
  else (if x3 = 1 then bnd2 (f_X8_shortTicks n σ_7 k x1 x2) fun r_15 σ_16 =>
  some (r_15, σ_16)
  else (if x3 = 2 then bnd2 (f_X8_firstShort n σ_7 k x1 x2) fun r_18 σ_19 =>
  some (r_18, σ_19)
  else (if x3 = 3 then bnd2 (f_X8_wetTicks n σ_7 k x1) fun r_21 σ_22 =>
  some (r_21, σ_22)
  else bnd2 (f_X8_greatestHeight n σ_7 k x1) fun r_9 σ_10 =>
  some (r_9, σ_10)))))
def f_X8_ahead (n : Nat) (σ : Mem) (k : Nat) (x1 : Int32) (x2 : Int32) (x3 : Int32) : Option (Int32 × Mem) :=
  bnd (f_X8_within x1 1 1000) fun r_2 =>
  (if r_2 = 0 then some ((-2), σ)
  else bnd (f_X8_within x3 0 4) fun r_4 =>
  (if r_4 = 0 then some ((-2), σ)
  else (if 2 < x3 then f_X8_ahead_L39 n σ k x1 x2 x3
  else bnd (f_X8_within x2 0 2) fun r_24 =>
  (if r_24 = 0 then some ((-1), σ)
  else f_X8_ahead_L39 n σ k x1 x2 x3))))
def f_X8_staysSupplied_B2 (n : Nat) (σ : Mem) (k : Nat) (x1 : Int32) (x2 : Int32) : Option ((Int32 × Mem) ⊕ (Mem × Int32)) :=
  (if x1 ≤ x2 then some (.inl (1, σ))
  else bnd (f_X5_makeTick n σ (ptr k 1)) fun σ_3 =>
  bnd (f_X3_someShort n σ_3 (ptr (ptr k 1) 2)) fun r_5 =>
  (if r_5 = 0 then nm (x2 + 1) fun x2_6 =>
  some (.inr (σ_3, x2_6))
  else some (.inl (0, σ_3))))
def f_X8_staysSupplied_L2 (n : Nat) (σ : Mem) (k : Nat) (x1 : Int32) (x2 : Int32) : Option (Int32 × Mem) :=
  iter (fun (s : Mem × Int32) => f_X8_staysSupplied_B2 n s.1 k x1 s.2) n (σ, x2)
def f_X8_staysSupplied (n : Nat) (σ : Mem) (k : Nat) (x1 : Int32) : Option (Int32 × Mem) :=
  f_X8_staysSupplied_L2 n σ k x1 0
def f_X8_delay_B64 (n : Nat) (σ : Mem) (k : Nat) (x1 : Int32) (x3 : Int32) (x4 : Int32) (x5 : Int32) : Option ((Int32 × Mem) ⊕ (Mem × Int32)) :=
  (if x4 < x5 then some (.inl ((-6), σ))
  else bnd (f_X5_copy σ (ptr k 1) (ptr k 0)) fun σ_10 =>
  bnd2 (f_X0_postpone n σ_10 (ptr (ptr k 1) 4) x1 x5) fun r_12 σ_13 =>
  bnd2 (f_X8_staysSupplied n σ_13 k x3) fun r_15 σ_16 =>
  (if r_15 = 0 then nm (x5 + 1) fun x5_17 =>
  some (.inr (σ_16, x5_17))
  else some (.inl (x5, σ_16))))
def f_X8_delay_L64 (n : Nat) (σ : Mem) (k : Nat) (x1 : Int32) (x3 : Int32) (x4 : Int32) (x5 : Int32) : Option (Int32 × Mem) :=
  iter (fun (s : Mem × Int32) => f_X8_delay_B64 n s.1 k x1 x3 x4 s.2) n (σ, x5)
def f_X8_delay (n : Nat) (σ : Mem) (k : Nat) (x1 : Int32) (x2 : Int32) (x3 : Int32) : Option (Int32 × Mem) :=
  bnd (f_X0_has σ (ptr (ptr k 0) 4) x1) fun r_2 =>
  (if r_2 = 0 then some ((-1), σ)
  else bnd (f_X8_within x2 0 100) fun r_4 =>
  (if r_4 = 0 then some ((-2), σ)
  else bnd (f_X8_within x3 1 300) fun r_6 =>
  (if r_6 = 0 then some ((-2), σ)
  else chk (ckI x1 (alen (ptr (ptr (ptr k 0) 4) 0))) (nm ((mnI x2 (100000 - (σ (ptr (ptr (ptr k 0) 4) 0) (ix x1))))) fun x4_7 =>
  f_X8_delay_L64 n σ k x1 x3 x4_7 0))))
def f_X8_staysDry_B21 (n : Nat) (σ : Mem) (k : Nat) (x1 : Int32) (x2 : Int32) (x3 : Int32) : Option ((Int32 × Mem) ⊕ (Mem × Int32)) :=
  (if x1 ≤ x3 then some (.inl (1, σ))
  else bnd (f_X5_makeTick n σ (ptr k 1)) fun σ_5 =>
  (if (σ_5 (ptr k 1) 6) ≤ x2 then nm (x3 + 1) fun x3_6 =>
  some (.inr (σ_5, x3_6))
  else some (.inl (0, σ_5))))
def f_X8_staysDry_L21 (n : Nat) (σ : Mem) (k : Nat) (x1 : Int32) (x2 : Int32) (x3 : Int32) : Option (Int32 × Mem) :=
  iter (fun (s : Mem × Int32) => f_X8_staysDry_B21 n s.1 k x1 x2 s.2) n (σ, x3)
def f_X8_staysDry (n : Nat) (σ : Mem) (k : Nat) (x1 : Int32) : Option (Int32 × Mem) :=
  nm ((σ (ptr k 1) 6)) fun x2_1 =>
  nm (gst σ (ptr (ptr k 1) 1) 9 0) fun σ_2 =>
  f_X8_staysDry_L21 n σ_2 k x1 x2_1 0
def f_X8_safeCut_B17 (n : Nat) (σ : Mem) (k : Nat) (x1 : Int32) (x2 : Int32) : Option ((Int32 × Mem) ⊕ (Mem × Int32)) :=
  (if x2 < 0 then some (.inl ((-6), σ))
  else bnd (f_X5_copy σ (ptr k 1) (ptr k 0)) fun σ_5 =>
  bnd2 (f_X4_change σ_5 (ptr (ptr k 1) 0) 0 3 x2) fun r_7 σ_8 =>
  bnd2 (f_X8_staysDry n σ_8 k x1) fun r_10 σ_11 =>
  (if r_10 = 0 then nm ((mnI x2 (σ_11 (ptr (ptr k 1) 1) 9))) fun x2_12 =>
  nm (x2_12 + (-1)) fun x2_13 =>
  some (.inr (σ_11, x2_13))
  else some (.inl (x2, σ_11))))
def f_X8_safeCut_L17 (n : Nat) (σ : Mem) (k : Nat) (x1 : Int32) (x2 : Int32) : Option (Int32 × Mem) :=
  iter (fun (s : Mem × Int32) => f_X8_safeCut_B17 n s.1 k x1 s.2) n (σ, x2)
def f_X8_safeCut (n : Nat) (σ : Mem) (k : Nat) (x1 : Int32) : Option (Int32 × Mem) :=
  bnd (f_X8_within x1 1 100) fun r_2 =>
  (if r_2 = 0 then some ((-2), σ)
  else f_X8_safeCut_L17 n σ k x1 1000)
def f_X8_say (σ : Mem) (k : Nat) (x1 : Int32) : Option (Int32 × Mem) :=
  bnd (f_X8_within x1 33 126) fun r_2 =>
  (if r_2 = 0 then some ((-2), σ)
  else bnd2 (f_X2_append σ (ptr k 4) ((x1.toUInt32 % 65536).toInt32)) fun r_4 σ_5 =>
  some (r_4, σ_5))
def f_X8_read_B61 (n : Nat) (σ : Mem) (k : Nat) (x1 : Int32) (x2 : Int32) (x3 : Int32) : Option ((Int32 × Mem) ⊕ (Mem × Int32)) :=
  (if x2 ≤ x3 then nm (gst σ (ptr k 4) 2 0) fun σ_7 =>
  some (.inl (x2, σ_7))
  else chk (ckI x3 (alen (ptr (ptr (ptr k 4) 0) 0))) (chk (ckI x3 (alen (ptr (ptr (ptr k 4) 0) 1))) (chk (ckI x3 (alen (ptr (ptr (ptr k 4) 0) 2))) (bnd2 (f_X0_insert n σ (ptr (ptr k 0) 4) ((σ (ptr (ptr (ptr k 4) 0) 0) (ix x3)) + x1) (σ (ptr (ptr (ptr k 4) 0) 1) (ix x3)) (σ (ptr (ptr (ptr k 4) 0) 2) (ix x3))) fun r_9 σ_10 =>
  nm (x3 + 1) fun x3_11 =>
  some (.inr (σ_10, x3_11))))))
def f_X8_read_L61 (n : Nat) (σ : Mem) (k : Nat) (x1 : Int32) (x2 : Int32) (x3 : Int32) : Option (Int32 × Mem) :=
  iter (fun (s : Mem × Int32) => f_X8_read_B61 n s.1 k x1 x2 s.2) n (σ, x3)
def f_X8_read (n : Nat) (σ : Mem) (k : Nat) (x1 : Int32) : Option (Int32 × Mem) :=
  bnd2 (f_X2_findFault n σ (ptr k 4)) fun r_2 σ_3 =>
  (if r_2 = (-6) then bnd (f_X8_within x1 0 90000) fun r_5 =>
  (if r_5 = 0 then some ((-2), σ_3)
  else nm ((σ_3 (ptr (ptr k 4) 0) 3)) fun x2_6 =>
  (if ((σ_3 (ptr (ptr k 0) 4) 3) + x2_6) ≤ 60 then f_X8_read_L61 n σ_3 k x1 x2_6 0
  else some ((-4), σ_3)))
  else some ((-3), σ_3))
def f_X8_slotAt (σ : Mem) (k : Nat) (x1 : Int32) : Option (Option Nat) :=
  (if x1 = 0 then some (some (ptr k 2))
  else (if x1 = 1 then some (some (ptr k 3))
  else some none))
def f_X8_save (σ : Mem) (k : Nat) (x1 : Int32) : Option (Int32 × Mem) :=
  bnd (f_X8_slotAt σ k x1) fun r_2 => mtc r_2 (some ((-2), σ)) fun q_3 =>
  chk (decide (q_3 = ptr k 2 ∨ q_3 = ptr k 3)) (bnd (f_X5_copy σ (ptr q_3 0) (ptr k 0)) fun σ_6 =>
  nm (gst σ_6 q_3 1 1) fun σ_7 =>
  some ((σ_7 (ptr k 0) 5), σ_7))
def f_X8_restore (σ : Mem) (k : Nat) (x1 : Int32) : Option (Int32 × Mem) :=
  bnd (f_X8_slotAt σ k x1) fun r_2 => mtc r_2 (some ((-2), σ)) fun q_3 =>
  chk (decide (q_3 = ptr k 2 ∨ q_3 = ptr k 3)) ((if (σ q_3 1) = 0 then some ((-5), σ)
  else bnd (f_X5_copy σ (ptr k 0) (ptr q_3 0)) fun σ_6 =>
  some ((σ_6 (ptr k 0) 5), σ_6)))
