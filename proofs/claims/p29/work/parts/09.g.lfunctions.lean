/-! THE LAW'S OWN METHODS AS FUNCTIONS, by program out of their bytecode; n: rounds of the class's loops, w: of the law's -/
def f_L_up (x0 : Int32) (x1 : Int32) : Option Int32 :=
  chk (decide (¬ x1 = 0)) (some (irm (x0 &&& 2147483647) x1))
def f_L_wind_L211 (n : Nat) (w : Nat) (σ : Mem) (x0 : Nat) : Option Int32 :=
  some 1
def f_L_wind_L197 (n : Nat) (w : Nat) (σ : Mem) (x0 : Nat) (x5 : Int32) : Option Int32 :=
  bnd (f_X8_state n σ x0 6) fun r_16 =>
  (if r_16 = 0 then f_L_wind_L211 n w σ x0
  else (if x5 ≤ 0 then some 0
  else f_L_wind_L211 n w σ x0))
def f_L_wind_L175 (n : Nat) (w : Nat) (σ : Mem) (x0 : Nat) (x1 : Int32) (x3 : Int32) (x5 : Int32) (y0 : Int32) (y1 : Int32) : Option Int32 :=
  (if y0 ≤ y1 then some 0
  else (if 0 < x5 then f_L_wind_L197 n w σ x0 x5
  else (if 0 < x1 then f_L_wind_L197 n w σ x0 x5
  else bnd (f_X8_state n σ x0 11) fun r_18 =>
  (if r_18 ≤ x3 then some 0
  else f_L_wind_L197 n w σ x0 x5))))
def f_L_wind_L79 (n : Nat) (w : Nat) (σ : Mem) (x0 : Nat) (x1 : Int32) (x3 : Int32) (x5 : Int32) : Option Int32 :=
  bnd (f_X8_state n σ x0 12) fun r_8 =>
  (if x3 < r_8 then (if x5 ≤ x1 then (if x5 < (x1 - 1) then some 0
  else bnd (f_X8_state n σ x0 6) fun r_10 =>
  bnd (f_X8_state n σ x0 14) fun r_12 =>
  (if r_12 = 0 then f_L_wind_L175 n w σ x0 x1 x3 x5 1 r_10
  else bnd (f_X8_state n σ x0 14) fun r_14 =>
  f_L_wind_L175 n w σ x0 x1 x3 x5 r_14 r_10))
  else (if x1 = 0 then (if x5 = 1 then bnd (f_X8_state n σ x0 11) fun r_20 =>
  (if x3 < r_20 then some 0
  else some 1)
  else some 0)
  else some 0))
  else (if x5 = 2 then bnd (f_X8_state n σ x0 6) fun r_22 =>
  (if r_22 = 0 then some 1
  else some 0)
  else some 0))
def f_L_wind_L64 (n : Nat) (w : Nat) (σ : Mem) (x0 : Nat) (x1 : Int32) (x2 : Int32) (x3 : Int32) (x4 : Int32) (x5 : Int32) : Option Int32 :=
  (if (x4 - 1) ≤ x3 then f_L_wind_L79 n w σ x0 x1 x3 x5
  else (if x2 ≤ x3 then f_L_wind_L79 n w σ x0 x1 x3 x5
  else some 0))
def f_L_wind_L53 (n : Nat) (w : Nat) (σ : Mem) (x0 : Nat) (x1 : Int32) (x2 : Int32) (x3 : Int32) (x4 : Int32) (x5 : Int32) : Option Int32 :=
  (if x3 ≤ x4 then f_L_wind_L64 n w σ x0 x1 x2 x3 x4 x5
  else (if x2 < x3 then some 0
  else f_L_wind_L64 n w σ x0 x1 x2 x3 x4 x5))
def f_L_wind_L42 (n : Nat) (w : Nat) (σ : Mem) (x0 : Nat) (x1 : Int32) (x2 : Int32) (x3 : Int32) (x4 : Int32) (x5 : Int32) : Option Int32 :=
  (if x2 < x4 then f_L_wind_L53 n w σ x0 x1 x2 x3 x4 x5
  else (if x2 < x3 then some 0
  else f_L_wind_L53 n w σ x0 x1 x2 x3 x4 x5))
def f_L_wind (n : Nat) (w : Nat) (σ : Mem) (x0 : Nat) (x1 : Int32) (x2 : Int32) : Option Int32 :=
  bnd (f_X8_state n σ x0 4) fun r_2 =>
  bnd (f_X8_state n σ x0 3) fun r_4 =>
  bnd (f_X8_state n σ x0 5) fun r_6 =>
  (if r_2 < 0 then some 0
  else (if 300 < r_2 then some 0
  else (if r_4 < x2 then f_L_wind_L42 n w σ x0 x1 x2 r_2 r_4 r_6
  else (if r_2 < x2 then some 0
  else f_L_wind_L42 n w σ x0 x1 x2 r_2 r_4 r_6))))
def f_L_ticks_L737 (n : Nat) (w : Nat) (σ : Mem) (x0 : Nat) (x1 : Int32) (x2 : Int32) (x6 : Int32) (y0 : Int32) (y1 : Int32) (y2 : Int32) : Option ((Int32 × Mem) ⊕ (Mem × Int32)) :=
  (if y2 = (y1 + y0) then nm (x6 + 1) fun x6_23 =>
  some (.inr (σ, x6_23))
  else some (.inl (0, σ)))
def f_L_ticks_L673 (n : Nat) (w : Nat) (σ : Mem) (x0 : Nat) (x1 : Int32) (x2 : Int32) (x6 : Int32) (x8 : Int32) (x13 : Int32) (x14 : Int32) (x15 : Int32) : Option (((Int32 × Mem) ⊕ (Mem × Int32)) ⊕ (Int32)) :=
  chk (ckI x14 (alen 106)) ((if x15 ≤ (σ 106 (ix x14)) then nm (x14 + 1) fun x14_33 =>
  some (.inr x14_33)
  else chk (ckI x14 (alen 108)) ((if 0 < (lg_cmp (x15.toInt64) (σ 108 (ix x14)).toInt64) then some (.inl (.inl (0, σ)))
  else bnd (f_X8_pressure σ x0 x14 0) fun r_35 =>
  (if x15 ≤ (1000 * r_35) then nm (x14 + 1) fun x14_36 =>
  some (.inr x14_36)
  else some (.inl (.inl (0, σ))))))))
def f_L_ticks_L644 (n : Nat) (w : Nat) (σ : Mem) (x0 : Nat) (x1 : Int32) (x2 : Int32) (x6 : Int32) (x8 : Int32) (x13 : Int32) (x14 : Int32) (x15 : Int32) : Option (((Int32 × Mem) ⊕ (Mem × Int32)) ⊕ (Int32)) :=
  chk (ckI x14 (alen 108)) ((if (lg_cmp (σ 108 (ix x14)).toInt64 (x15.toInt64)) ≤ 0 then f_L_ticks_L673 n w σ x0 x1 x2 x6 x8 x13 x14 x15
  else chk (ckI x14 (alen 109)) ((if (lg_cmp ((x15.toInt64) - (σ 109 (ix x14)).toInt64) (x2.toInt64)) ≤ 0 then f_L_ticks_L673 n w σ x0 x1 x2 x6 x8 x13 x14 x15
  else some (.inl (.inl (0, σ)))))))
def f_L_ticks_L612 (n : Nat) (w : Nat) (σ : Mem) (x0 : Nat) (x1 : Int32) (x2 : Int32) (x6 : Int32) (x8 : Int32) (x13 : Int32) (x14 : Int32) (x15 : Int32) (y0 : Int32) (y1 : Int32) (y2 : Int32) : Option (((Int32 × Mem) ⊕ (Mem × Int32)) ⊕ (Int32)) :=
  (if y2 = (y1 + y0) then chk (ckI x14 (alen 108)) ((if 0 < (lg_cmp (σ 108 (ix x14)).toInt64 (x15.toInt64)) then f_L_ticks_L644 n w σ x0 x1 x2 x6 x8 x13 x14 x15
  else chk (ckI x14 (alen 109)) (chk (ckI x14 (alen 108)) ((if (lg_cmp (σ 109 (ix x14)).toInt64 (σ 108 (ix x14)).toInt64) = 0 then f_L_ticks_L644 n w σ x0 x1 x2 x6 x8 x13 x14 x15
  else some (.inl (.inl (0, σ))))))))
  else some (.inl (.inl (0, σ))))
def f_L_ticks_L557 (n : Nat) (w : Nat) (σ : Mem) (x0 : Nat) (x1 : Int32) (x2 : Int32) (x6 : Int32) (x8 : Int32) (x13 : Int32) (x14 : Int32) (x15 : Int32) (x16 : Int32) : Option (((Int32 × Mem) ⊕ (Mem × Int32)) ⊕ (Int32)) :=
  chk (ckI x14 (alen 106)) ((if ((σ 106 (ix x14)) + x16) < x15 then some (.inl (.inl (0, σ)))
  else chk (ckI x14 (alen 106)) ((if x15 < ((σ 106 (ix x14)) - x16) then some (.inl (.inl (0, σ)))
  else bnd (f_X8_pressure σ x0 x14 4) fun r_32 =>
  chk (ckI x14 (alen 107)) (chk (ckI x14 (alen 108)) ((if (lg_cmp (σ 108 (ix x14)).toInt64 (x15.toInt64)) ≤ 0 then f_L_ticks_L612 n w σ x0 x1 x2 x6 x8 x13 x14 x15 0 (σ 107 (ix x14)) r_32
  else f_L_ticks_L612 n w σ x0 x1 x2 x6 x8 x13 x14 x15 1 (σ 107 (ix x14)) r_32)))))))
def f_L_ticks_B490 (n : Nat) (w : Nat) (σ : Mem) (x0 : Nat) (x1 : Int32) (x2 : Int32) (x6 : Int32) (x8 : Int32) (x13 : Int32) (x14 : Int32) : Option (((Int32 × Mem) ⊕ (Mem × Int32)) ⊕ (Int32)) :=
  (if 3 ≤ x14 then bnd (f_X8_state n σ x0 7) fun r_22 =>
  (if x13 = 0 then exi (f_L_ticks_L737 n w σ x0 x1 x2 x6 0 x8 r_22)
  else exi (f_L_ticks_L737 n w σ x0 x1 x2 x6 1 x8 r_22))
  else bnd (f_X8_pressure σ x0 x14 2) fun r_25 =>
  bnd (f_X8_pressure σ x0 x14 1) fun r_27 =>
  nm ((1000 * r_27)) fun x16_28 =>
  bnd (f_X8_pressure σ x0 x14 3) fun r_30 =>
  chk (ckI x14 (alen 108)) ((if (lg_cmp (r_30.toInt64) (σ 108 (ix x14)).toInt64) = 0 then chk (ckI x14 (alen 109)) ((if (lg_cmp (σ 109 (ix x14)).toInt64 (r_25.toInt64)) ≤ 0 then f_L_ticks_L557 n w σ x0 x1 x2 x6 x8 x13 x14 r_25 x16_28
  else chk (ckI x14 (alen 109)) ((if (lg_cmp (σ 109 (ix x14)).toInt64 (0 : Int64)) = 0 then f_L_ticks_L557 n w σ x0 x1 x2 x6 x8 x13 x14 r_25 x16_28
  else some (.inl (.inl (0, σ)))))))
  else some (.inl (.inl (0, σ))))))
def f_L_ticks_L490 (n : Nat) (w : Nat) (σ : Mem) (x0 : Nat) (x1 : Int32) (x2 : Int32) (x6 : Int32) (x8 : Int32) (x13 : Int32) (x14 : Int32) : Option ((Int32 × Mem) ⊕ (Mem × Int32)) :=
  iter (fun (s : Int32) => f_L_ticks_B490 n w σ x0 x1 x2 x6 x8 x13 s) w x14
def f_L_ticks_L324 (n : Nat) (w : Nat) (σ : Mem) (x0 : Nat) (x1 : Int32) (x2 : Int32) (x6 : Int32) (x8 : Int32) (x13 : Int32) (x14 : Int32) (x15 : Int32) (x16 : Int32) (x18 : Int32) : Option (((Int32 × Mem) ⊕ (Mem × Int32)) ⊕ (Mem × Int32 × Int32)) :=
  chk (decide (¬ x16 = 0)) (nm (((x18 / x16).toInt64)) fun x19_49 =>
  bnd (f_X8_spray σ x0 x14 9) fun r_51 =>
  bnd (f_X8_spray σ x0 x14 1) fun r_53 =>
  (if r_51 = ((((x19_49 * x19_49) * (r_53.toInt64)) / (1000000 : Int64)).toInt32) then bnd (f_X8_spray σ x0 x14 10) fun r_55 =>
  bnd (f_X8_spray σ x0 x14 9) fun r_57 =>
  bnd (f_X8_state n σ x0 4) fun r_59 =>
  bnd (f_X8_spray σ x0 x14 5) fun r_61 =>
  (if r_55 = (((r_57 * r_59) * r_61) / 100000) then bnd (f_X8_spray σ x0 x14 11) fun r_63 =>
  bnd (f_X8_spray σ x0 x14 9) fun r_65 =>
  (if r_65 ≤ r_63 then bnd (f_X8_spray σ x0 x14 4) fun r_67 =>
  chk (ckI r_67 (alen 108)) (chk (ckI r_67 (alen 108)) (chk (fit32 ((σ 108 (ix r_67)).toInt64 + ((x15 * x16).toInt64))) (nm (gst σ 108 (ix r_67) ((σ 108 (ix r_67)).toInt64 + ((x15 * x16).toInt64)).toInt32) fun σ_68 =>
  bnd (f_X8_spray σ_68 x0 x14 4) fun r_70 =>
  chk (ckI r_70 (alen 109)) (chk (ckI r_70 (alen 109)) (chk (fit32 ((σ_68 109 (ix r_70)).toInt64 + (x18.toInt64))) (nm (gst σ_68 109 (ix r_70) ((σ_68 109 (ix r_70)).toInt64 + (x18.toInt64)).toInt32) fun σ_71 =>
  bnd (f_X8_spray σ_71 x0 x14 10) fun r_73 =>
  bnd (f_X8_state n σ_71 x0 15) fun r_75 =>
  (if r_73 ≤ r_75 then nm ((x13 ||| 0)) fun x13_76 =>
  nm (x14 + 1) fun x14_77 =>
  some (.inr (σ_71, x13_76, x14_77))
  else nm ((x13 ||| 1)) fun x13_78 =>
  nm (x14 + 1) fun x14_79 =>
  some (.inr (σ_71, x13_78, x14_79)))))))))
  else some (.inl (.inl (0, σ))))
  else some (.inl (.inl (0, σ))))
  else some (.inl (.inl (0, σ)))))
def f_L_ticks_L290 (n : Nat) (w : Nat) (σ : Mem) (x0 : Nat) (x1 : Int32) (x2 : Int32) (x6 : Int32) (x8 : Int32) (x13 : Int32) (x14 : Int32) (x15 : Int32) (x16 : Int32) (x17 : Int32) (x18 : Int32) : Option (((Int32 × Mem) ⊕ (Mem × Int32)) ⊕ (Mem × Int32 × Int32)) :=
  bnd (f_X8_state n σ x0 5) fun r_48 =>
  (if r_48 = 1 then bnd (f_X8_state n σ x0 13) fun r_81 =>
  (if x15 ≤ r_81 then f_L_ticks_L324 n w σ x0 x1 x2 x6 x8 x13 x14 x15 x16 x18
  else chk (ckI x14 (alen 105)) ((if x15 = ((σ 105 (ix x14)) - x17) then f_L_ticks_L324 n w σ x0 x1 x2 x6 x8 x13 x14 x15 x16 x18
  else some (.inl (.inl (0, σ))))))
  else f_L_ticks_L324 n w σ x0 x1 x2 x6 x8 x13 x14 x15 x16 x18)
def f_L_ticks_B166 (n : Nat) (w : Nat) (σ : Mem) (x0 : Nat) (x1 : Int32) (x2 : Int32) (x6 : Int32) (x8 : Int32) (x13 : Int32) (x14 : Int32) : Option (((Int32 × Mem) ⊕ (Mem × Int32)) ⊕ (Mem × Int32 × Int32)) :=
  (if x2 ≤ x14 then exi (f_L_ticks_L490 n w σ x0 x1 x2 x6 x8 x13 0)
  else bnd (f_X8_spray σ x0 x14 7) fun r_38 =>
  bnd (f_X8_spray σ x0 x14 0) fun r_40 =>
  bnd (f_X8_spray σ x0 x14 3) fun r_42 =>
  bnd (f_X8_spray σ x0 x14 8) fun r_44 =>
  chk (ckI x14 (alen 105)) ((if r_38 < ((σ 105 (ix x14)) - r_42) then some (.inl (.inl (0, σ)))
  else chk (ckI x14 (alen 105)) ((if ((σ 105 (ix x14)) + r_42) < r_38 then some (.inl (.inl (0, σ)))
  else (if r_38 < 0 then some (.inl (.inl (0, σ)))
  else (if 1000 < r_38 then some (.inl (.inl (0, σ)))
  else (if (r_38 * r_40) < r_44 then some (.inl (.inl (0, σ)))
  else (if 0 ≤ r_44 then bnd (f_X8_state n σ x0 5) fun r_46 =>
  (if r_46 = 2 then (if r_38 ≤ 0 then f_L_ticks_L290 n w σ x0 x1 x2 x6 x8 x13 x14 r_38 r_40 r_42 r_44
  else chk (ckI x14 (alen 105)) ((if r_38 = ((σ 105 (ix x14)) - r_42) then f_L_ticks_L290 n w σ x0 x1 x2 x6 x8 x13 x14 r_38 r_40 r_42 r_44
  else some (.inl (.inl (0, σ))))))
  else f_L_ticks_L290 n w σ x0 x1 x2 x6 x8 x13 x14 r_38 r_40 r_42 r_44)
  else some (.inl (.inl (0, σ))))))))))))
def f_L_ticks_L166 (n : Nat) (w : Nat) (σ : Mem) (x0 : Nat) (x1 : Int32) (x2 : Int32) (x6 : Int32) (x8 : Int32) (x13 : Int32) (x14 : Int32) : Option ((Int32 × Mem) ⊕ (Mem × Int32)) :=
  iter (fun (s : Mem × Int32 × Int32) => f_L_ticks_B166 n w s.1 x0 x1 x2 x6 x8 s.2.1 s.2.2) w (σ, x13, x14)
def f_L_ticks_B89 (n : Nat) (w : Nat) (σ : Mem) (x0 : Nat) (x1 : Int32) (x2 : Int32) (x6 : Int32) (x7 : Int32) (x8 : Int32) (x9 : Int32) (x10 : Int32) (x11 : Int32) : Option (((Int32 × Mem) ⊕ (Mem × Int32)) ⊕ (Mem × Int32)) :=
  (if 3 ≤ x11 then bnd2 (f_X8_tick n σ x0 1) fun r_15 σ_16 =>
  (if r_15 = (x7 + 1) then bnd (f_L_wind n w σ_16 x0 x9 x10) fun r_18 =>
  (if r_18 = 0 then some (.inl (.inl (0, σ_16)))
  else nm (gput σ_16 108 (fun _ => 0)) fun σ_19 =>
  nm (gput σ_19 109 (fun _ => 0)) fun σ_20 =>
  exi (f_L_ticks_L166 n w σ_20 x0 x1 x2 x6 x8 0 0))
  else some (.inl (.inl (0, σ_16))))
  else bnd (f_X8_pressure σ x0 x11 2) fun r_83 =>
  chk (ckI x11 (alen 106)) (nm (gst σ 106 (ix x11) r_83) fun σ_84 =>
  bnd (f_X8_pressure σ_84 x0 x11 4) fun r_86 =>
  chk (ckI x11 (alen 107)) (nm (gst σ_84 107 (ix x11) r_86) fun σ_87 =>
  nm (x11 + 1) fun x11_88 =>
  some (.inr (σ_87, x11_88)))))
def f_L_ticks_L89 (n : Nat) (w : Nat) (σ : Mem) (x0 : Nat) (x1 : Int32) (x2 : Int32) (x6 : Int32) (x7 : Int32) (x8 : Int32) (x9 : Int32) (x10 : Int32) (x11 : Int32) : Option ((Int32 × Mem) ⊕ (Mem × Int32)) :=
  iter (fun (s : Mem × Int32) => f_L_ticks_B89 n w s.1 x0 x1 x2 x6 x7 x8 x9 x10 s.2) w (σ, x11)
def f_L_ticks_B62 (n : Nat) (w : Nat) (σ : Mem) (x0 : Nat) (x1 : Int32) (x2 : Int32) (x6 : Int32) (x7 : Int32) (x8 : Int32) (x9 : Int32) (x10 : Int32) (x11 : Int32) : Option (((Int32 × Mem) ⊕ (Mem × Int32)) ⊕ (Mem × Int32)) :=
  (if x2 ≤ x11 then exi (f_L_ticks_L89 n w σ x0 x1 x2 x6 x7 x8 x9 x10 0)
  else bnd (f_X8_spray σ x0 x11 7) fun r_90 =>
  chk (ckI x11 (alen 105)) (nm (gst σ 105 (ix x11) r_90) fun σ_91 =>
  nm (x11 + 1) fun x11_92 =>
  some (.inr (σ_91, x11_92))))
def f_L_ticks_L62 (n : Nat) (w : Nat) (σ : Mem) (x0 : Nat) (x1 : Int32) (x2 : Int32) (x6 : Int32) (x7 : Int32) (x8 : Int32) (x9 : Int32) (x10 : Int32) (x11 : Int32) : Option ((Int32 × Mem) ⊕ (Mem × Int32)) :=
  iter (fun (s : Mem × Int32) => f_L_ticks_B62 n w s.1 x0 x1 x2 x6 x7 x8 x9 x10 s.2) w (σ, x11)
def f_L_ticks_B24 (n : Nat) (w : Nat) (σ : Mem) (x0 : Nat) (x1 : Int32) (x2 : Int32) (x6 : Int32) : Option ((Int32 × Mem) ⊕ (Mem × Int32)) :=
  (if x1 ≤ x6 then some (.inl (1, σ))
  else bnd (f_X8_state n σ x0 0) fun r_7 =>
  bnd (f_X8_state n σ x0 7) fun r_9 =>
  bnd (f_X8_state n σ x0 5) fun r_11 =>
  bnd (f_X8_state n σ x0 4) fun r_13 =>
  f_L_ticks_L62 n w σ x0 x1 x2 x6 r_7 r_9 r_11 r_13 0)
def f_L_ticks_L24 (n : Nat) (w : Nat) (σ : Mem) (x0 : Nat) (x1 : Int32) (x2 : Int32) (x6 : Int32) : Option (Int32 × Mem) :=
  iter (fun (s : Mem × Int32) => f_L_ticks_B24 n w s.1 x0 x1 x2 s.2) w (σ, x6)
def f_L_ticks (n : Nat) (w : Nat) (σ : Mem) (x0 : Nat) (x1 : Int32) : Option (Int32 × Mem) :=
  bnd (f_X8_state n σ x0 1) fun r_2 =>
  nm (gput σ 105 (fun _ => 0)) fun σ_3 =>
  nm (gput σ_3 106 (fun _ => 0)) fun σ_4 =>
  nm (gput σ_4 107 (fun _ => 0)) fun σ_5 =>
  f_L_ticks_L24 n w σ_5 x0 x1 r_2 0
def f_L_act_L447 (n : Nat) (w : Nat) (σ : Mem) (x0 : Nat) (x4 : Int32) : Option (Int32 × Mem) :=
  bnd (f_X8_state n σ x0 2) fun r_22 =>
  (if r_22 = x4 then some (1, σ)
  else some (0, σ))
def f_L_act_L390 (n : Nat) (w : Nat) (σ : Mem) (x0 : Nat) : Option (Int32 × Mem) :=
  some (0, σ)
def f_L_act_L52 (n : Nat) (w : Nat) (σ : Mem) (x0 : Nat) (x2 : Int32) : Option (Int32 × Mem) :=
  bnd (f_L_up x2 7) fun r_31 =>
  bnd2 (f_L_ticks n w σ x0 (1 + r_31)) fun r_33 σ_34 =>
  chk (bit r_33) (some (r_33, σ_34))
def f_L_act_L65 (n : Nat) (w : Nat) (σ : Mem) (x0 : Nat) (x2 : Int32) (x3 : Int32) : Option (Int32 × Mem) :=
  bnd (f_X8_state n σ x0 0) fun r_36 =>
  bnd (f_L_up x2 25) fun r_38 =>
  nm ((r_36 + r_38)) fun x4_39 =>
  bnd (f_X8_state n σ x0 2) fun r_41 =>
  bnd (f_L_up (x2 >>> (5 &&& 31)) 4095) fun r_43 =>
  bnd (f_L_up x3 1001) fun r_45 =>
  bnd2 (f_X8_cue n σ x0 x4_39 (1 + r_43) r_45) fun r_47 σ_48 =>
  (if r_47 < 0 then some (0, σ_48)
  else bnd (f_X8_state n σ_48 x0 2) fun r_50 =>
  (if r_50 = (r_41 + 1) then bnd (f_X8_part σ_48 x0 r_47 0) fun r_52 =>
  (if r_52 = x4_39 then bnd (f_X8_part σ_48 x0 r_47 2) fun r_54 =>
  bnd (f_L_up x3 1001) fun r_56 =>
  (if r_54 = r_56 then some (1, σ_48)
  else some (0, σ_48))
  else some (0, σ_48))
  else some (0, σ_48)))
def f_L_act_B205 (n : Nat) (w : Nat) (σ : Mem) (x0 : Nat) (x4 : Int32) (x5 : Int32) (x6 : Int32) : Option ((Int32 × Mem) ⊕ (Int32)) :=
  bnd (f_X8_state n σ x0 1) fun r_68 =>
  (if r_68 ≤ x6 then some (.inl (1, σ))
  else (if ((x5 >>> (x6 &&& 31)) &&& 1) = 1 then bnd (f_X8_spray σ x0 x6 6) fun r_71 =>
  (if r_71 = x4 then nm (x6 + 1) fun x6_72 =>
  some (.inr x6_72)
  else some (.inl (0, σ)))
  else nm (x6 + 1) fun x6_69 =>
  some (.inr x6_69)))
def f_L_act_L205 (n : Nat) (w : Nat) (σ : Mem) (x0 : Nat) (x4 : Int32) (x5 : Int32) (x6 : Int32) : Option (Int32 × Mem) :=
  iter (fun (s : Int32) => f_L_act_B205 n w σ x0 x4 x5 s) w x6
def f_L_act (n : Nat) (w : Nat) (σ : Mem) (x0 : Nat) (x1 : Int32) (x2 : Int32) (x3 : Int32) : Option (Int32 × Mem) :=
  bnd (f_L_up x1 9) fun r_2 =>
  (if r_2 = 0 then f_L_act_L52 n w σ x0 x2
  else (if r_2 = 1 then f_L_act_L52 n w σ x0 x2
  else (if r_2 = 2 then f_L_act_L52 n w σ x0 x2
  else (if r_2 = 3 then f_L_act_L52 n w σ x0 x2
  else (if r_2 = 4 then f_L_act_L65 n w σ x0 x2 x3
  else (if r_2 = 5 then f_L_act_L65 n w σ x0 x2 x3
  else (if r_2 = 6 then bnd (f_L_up x3 1001) fun r_58 =>
  bnd (f_L_up x2 4095) fun r_60 =>
  nm ((1 + r_60)) fun x5_61 =>
  bnd2 (f_X8_command n σ x0 x5_61 r_58) fun r_63 σ_64 =>
  bnd (f_X8_state n σ_64 x0 0) fun r_66 =>
  (if r_63 = r_66 then f_L_act_L205 n w σ_64 x0 r_58 x5_61 0
  else some (0, σ_64))
  else (if r_2 = 7 then bnd (f_L_up x3 301) fun r_74 =>
  bnd2 (f_X8_wind σ x0 r_74) fun r_76 σ_77 =>
  (if r_76 < 0 then some (0, σ_77)
  else bnd (f_X8_state n σ_77 x0 3) fun r_79 =>
  bnd (f_L_up x3 301) fun r_81 =>
  (if r_79 = r_81 then some (1, σ_77)
  else some (0, σ_77)))
  else bnd (f_X8_state n σ x0 2) fun r_4 =>
  (if r_4 = 0 then bnd2 (f_X8_move n σ x0 0 1) fun r_28 σ_29 =>
  (if r_28 = (-1) then some (1, σ_29)
  else some (0, σ_29))
  else bnd (f_L_up x2 r_4) fun r_6 =>
  bnd (f_X8_part σ x0 r_6 0) fun r_8 =>
  bnd (f_X8_part σ x0 r_6 1) fun r_10 =>
  bnd (f_L_up x3 41) fun r_12 =>
  nm ((r_12 - 20)) fun x8_13 =>
  bnd2 (f_X8_move n σ x0 r_6 x8_13) fun r_15 σ_16 =>
  (if 0 ≤ (r_8 + x8_13) then bnd (f_X8_part σ_16 x0 r_15 0) fun r_18 =>
  (if r_18 = (r_8 + x8_13) then bnd (f_X8_part σ_16 x0 r_15 1) fun r_20 =>
  (if r_20 = r_10 then (if r_15 = (r_4 - 1) then f_L_act_L447 n w σ_16 x0 r_4
  else bnd (f_X8_part σ_16 x0 (r_15 + 1) 0) fun r_24 =>
  (if r_24 ≤ (r_8 + x8_13) then some (0, σ_16)
  else f_L_act_L447 n w σ_16 x0 r_4))
  else some (0, σ_16))
  else some (0, σ_16))
  else (if r_15 = (-2) then bnd (f_X8_part σ_16 x0 r_6 0) fun r_26 =>
  (if r_26 = r_8 then some (1, σ_16)
  else f_L_act_L390 n w σ_16 x0)
  else f_L_act_L390 n w σ_16 x0)))))))))))
def f_L_comesTrue_B171 (n : Nat) (w : Nat) (σ : Mem) (x0 : Nat) (x2 : Int32) (x3 : Int32) (x4 : Int32) (x5 : Int32) (x6 : Int32) (x7 : Int32) (x8 : Int32) (x9 : Int32) (x10 : Int32) (x11 : Int32) (x12 : Int32) (x13 : Int32) (x14 : Int32) (x15 : Int32) (x17 : Int32) : Option (((Int32 × Mem) ⊕ (Mem × Int32 × Int32 × Int32 × Int32)) ⊕ (Int32 × Int32)) :=
  bnd (f_X8_state n σ x0 1) fun r_48 =>
  (if r_48 ≤ x17 then nm (x15 + 1) fun x15_49 =>
  some (.inl (.inr (σ, x12, x13, x14, x15_49)))
  else bnd (f_X8_spray σ x0 x17 9) fun r_51 =>
  (if r_51 ≤ x12 then nm (x17 + 1) fun x17_52 =>
  some (.inr (x12, x17_52))
  else bnd (f_X8_spray σ x0 x17 9) fun r_54 =>
  nm (x17 + 1) fun x17_55 =>
  some (.inr (r_54, x17_55))))
def f_L_comesTrue_L171 (n : Nat) (w : Nat) (σ : Mem) (x0 : Nat) (x2 : Int32) (x3 : Int32) (x4 : Int32) (x5 : Int32) (x6 : Int32) (x7 : Int32) (x8 : Int32) (x9 : Int32) (x10 : Int32) (x11 : Int32) (x12 : Int32) (x13 : Int32) (x14 : Int32) (x15 : Int32) (x17 : Int32) : Option ((Int32 × Mem) ⊕ (Mem × Int32 × Int32 × Int32 × Int32)) :=
  iter (fun (s : Int32 × Int32) => f_L_comesTrue_B171 n w σ x0 x2 x3 x4 x5 x6 x7 x8 x9 x10 x11 s.1 x13 x14 x15 s.2) w (x12, x17)
def f_L_comesTrue_L166 (n : Nat) (w : Nat) (σ : Mem) (x0 : Nat) (x2 : Int32) (x3 : Int32) (x4 : Int32) (x5 : Int32) (x6 : Int32) (x7 : Int32) (x8 : Int32) (x9 : Int32) (x10 : Int32) (x11 : Int32) (x12 : Int32) (x14 : Int32) (x15 : Int32) (y0 : Int32) : Option ((Int32 × Mem) ⊕ (Mem × Int32 × Int32 × Int32 × Int32)) :=
  f_L_comesTrue_L171 n w σ x0 x2 x3 x4 x5 x6 x7 x8 x9 x10 x11 x12 y0 x14 x15 0
def f_L_comesTrue_L142 (n : Nat) (w : Nat) (σ : Mem) (x0 : Nat) (x2 : Int32) (x3 : Int32) (x4 : Int32) (x5 : Int32) (x6 : Int32) (x7 : Int32) (x8 : Int32) (x9 : Int32) (x10 : Int32) (x11 : Int32) (x12 : Int32) (x13 : Int32) (x15 : Int32) (y0 : Int32) : Option ((Int32 × Mem) ⊕ (Mem × Int32 × Int32 × Int32 × Int32)) :=
  bnd (f_X8_pressure σ x0 x3 3) fun r_46 =>
  (if r_46 ≤ x13 then f_L_comesTrue_L166 n w σ x0 x2 x3 x4 x5 x6 x7 x8 x9 x10 x11 x12 y0 x15 x13
  else bnd (f_X8_pressure σ x0 x3 3) fun r_57 =>
  f_L_comesTrue_L166 n w σ x0 x2 x3 x4 x5 x6 x7 x8 x9 x10 x11 x12 y0 x15 r_57)
def f_L_comesTrue_L140 (n : Nat) (w : Nat) (σ : Mem) (x0 : Nat) (x2 : Int32) (x3 : Int32) (x4 : Int32) (x5 : Int32) (x6 : Int32) (x7 : Int32) (x8 : Int32) (x9 : Int32) (x10 : Int32) (x11 : Int32) (x12 : Int32) (x13 : Int32) (x14 : Int32) (x15 : Int32) : Option ((Int32 × Mem) ⊕ (Mem × Int32 × Int32 × Int32 × Int32)) :=
  f_L_comesTrue_L142 n w σ x0 x2 x3 x4 x5 x6 x7 x8 x9 x10 x11 x12 x13 x15 x14
def f_L_comesTrue_B99 (n : Nat) (w : Nat) (σ : Mem) (x0 : Nat) (x2 : Int32) (x3 : Int32) (x4 : Int32) (x5 : Int32) (x6 : Int32) (x7 : Int32) (x8 : Int32) (x9 : Int32) (x10 : Int32) (x11 : Int32) (x12 : Int32) (x13 : Int32) (x14 : Int32) (x15 : Int32) : Option ((Int32 × Mem) ⊕ (Mem × Int32 × Int32 × Int32 × Int32)) :=
  (if x2 ≤ x15 then bnd (f_X8_pressure σ x0 x3 4) fun r_29 =>
  (if (r_29 - x10) = x5 then bnd (f_X8_state n σ x0 7) fun r_31 =>
  (if (r_31 - x11) = x7 then (if x14 = x6 then (if x13 = x4 then (if x12 = x8 then bnd (f_X8_state n σ x0 0) fun r_33 =>
  (if r_33 = (x9 + x2) then bnd2 (f_X8_restore σ x0 0) fun r_35 σ_36 =>
  (if r_35 = x9 then bnd2 (f_X8_ahead n σ_36 x0 x2 x3 0) fun r_38 σ_39 =>
  (if r_38 = x4 then some (.inl (1, σ_39))
  else some (.inl (0, σ_39)))
  else some (.inl (0, σ_36)))
  else some (.inl (0, σ)))
  else some (.inl (0, σ)))
  else some (.inl (0, σ)))
  else some (.inl (0, σ)))
  else some (.inl (0, σ)))
  else some (.inl (0, σ)))
  else bnd (f_X8_pressure σ x0 x3 4) fun r_41 =>
  bnd2 (f_X8_tick n σ x0 1) fun r_43 σ_44 =>
  (if 0 ≤ x14 then f_L_comesTrue_L140 n w σ_44 x0 x2 x3 x4 x5 x6 x7 x8 x9 x10 x11 x12 x13 x14 x15
  else bnd (f_X8_pressure σ_44 x0 x3 4) fun r_59 =>
  (if r_59 ≤ r_41 then f_L_comesTrue_L140 n w σ_44 x0 x2 x3 x4 x5 x6 x7 x8 x9 x10 x11 x12 x13 x14 x15
  else f_L_comesTrue_L142 n w σ_44 x0 x2 x3 x4 x5 x6 x7 x8 x9 x10 x11 x12 x13 x15 x15)))
def f_L_comesTrue_L99 (n : Nat) (w : Nat) (σ : Mem) (x0 : Nat) (x2 : Int32) (x3 : Int32) (x4 : Int32) (x5 : Int32) (x6 : Int32) (x7 : Int32) (x8 : Int32) (x9 : Int32) (x10 : Int32) (x11 : Int32) (x12 : Int32) (x13 : Int32) (x14 : Int32) (x15 : Int32) : Option (Int32 × Mem) :=
  iter (fun (s : Mem × Int32 × Int32 × Int32 × Int32) => f_L_comesTrue_B99 n w s.1 x0 x2 x3 x4 x5 x6 x7 x8 x9 x10 x11 s.2.1 s.2.2.1 s.2.2.2.1 s.2.2.2.2) w (σ, x12, x13, x14, x15)
def f_L_comesTrue (n : Nat) (w : Nat) (σ : Mem) (x0 : Nat) (x1 : Int32) : Option (Int32 × Mem) :=
  bnd (f_L_up x1 40) fun r_2 =>
  nm ((1 + r_2)) fun x2_3 =>
  bnd (f_L_up (x1 >>> (6 &&& 31)) 3) fun r_5 =>
  bnd2 (f_X8_ahead n σ x0 x2_3 r_5 0) fun r_7 σ_8 =>
  bnd2 (f_X8_ahead n σ_8 x0 x2_3 r_5 1) fun r_10 σ_11 =>
  bnd2 (f_X8_ahead n σ_11 x0 x2_3 r_5 2) fun r_13 σ_14 =>
  bnd2 (f_X8_ahead n σ_14 x0 x2_3 r_5 3) fun r_16 σ_17 =>
  bnd2 (f_X8_ahead n σ_17 x0 x2_3 r_5 4) fun r_19 σ_20 =>
  bnd2 (f_X8_save σ_20 x0 0) fun r_22 σ_23 =>
  bnd (f_X8_pressure σ_23 x0 r_5 4) fun r_25 =>
  bnd (f_X8_state n σ_23 x0 7) fun r_27 =>
  f_L_comesTrue_L99 n w σ_23 x0 x2_3 r_5 r_7 r_10 r_13 r_16 r_19 r_22 r_25 r_27 0 0 (-6) 0
def f_L_cutBack_L152 (n : Nat) (w : Nat) (σ : Mem) (x0 : Nat) (x4 : Int32) (x5 : Int32) : Option (Int32 × Mem) :=
  (if x5 = 0 then some (0, σ)
  else bnd2 (f_X8_set σ x0 3 x4) fun r_10 σ_11 =>
  (if r_10 < 0 then some (0, σ_11)
  else some (1, σ_11)))
def f_L_cutBack_L150 (n : Nat) (w : Nat) (σ : Mem) (x0 : Nat) (x4 : Int32) (y0 : Int32) : Option (Int32 × Mem) :=
  f_L_cutBack_L152 n w σ x0 x4 y0
def f_L_cutBack_L149 (n : Nat) (w : Nat) (σ : Mem) (x0 : Nat) (x4 : Int32) : Option (Int32 × Mem) :=
  f_L_cutBack_L150 n w σ x0 x4 0
def f_L_cutBack_L126 (n : Nat) (w : Nat) (σ : Mem) (x0 : Nat) (x2 : Int32) (x4 : Int32) (x5 : Int32) (y0 : Int32) (y1 : Int32) : Option (Int32 × Mem) :=
  bnd2 (f_X8_set σ x0 y1 y0) fun r_15 σ_16 =>
  (if x5 = 0 then f_L_cutBack_L149 n w σ_16 x0 x4
  else bnd2 (f_X8_ahead n σ_16 x0 x2 0 3) fun r_18 σ_19 =>
  (if r_18 ≤ 0 then f_L_cutBack_L149 n w σ_19 x0 x4
  else f_L_cutBack_L150 n w σ_19 x0 x4 1))
def f_L_cutBack_L86 (n : Nat) (w : Nat) (σ : Mem) (x0 : Nat) (x1 : Int32) (x2 : Int32) (x3 : Int32) (x4 : Int32) (x5 : Int32) : Option (Int32 × Mem) :=
  (if 1000 ≤ x3 then f_L_cutBack_L152 n w σ x0 x4 x5
  else (if 0 ≤ x3 then bnd (f_L_up (x1 >>> (5 &&& 31)) (1000 - x3)) fun r_13 =>
  f_L_cutBack_L126 n w σ x0 x2 x4 x5 ((x3 + 1) + r_13) 3
  else bnd (f_L_up (x1 >>> (5 &&& 31)) 1001) fun r_21 =>
  f_L_cutBack_L126 n w σ x0 x2 x4 x5 r_21 3))
def f_L_cutBack_L84 (n : Nat) (w : Nat) (σ : Mem) (x0 : Nat) (x1 : Int32) (x2 : Int32) (x3 : Int32) (x4 : Int32) (y0 : Int32) : Option (Int32 × Mem) :=
  f_L_cutBack_L86 n w σ x0 x1 x2 x3 x4 y0
def f_L_cutBack_L83 (n : Nat) (w : Nat) (σ : Mem) (x0 : Nat) (x1 : Int32) (x2 : Int32) (x3 : Int32) (x4 : Int32) : Option (Int32 × Mem) :=
  f_L_cutBack_L84 n w σ x0 x1 x2 x3 x4 0
def f_L_cutBack_L51 (n : Nat) (w : Nat) (σ : Mem) (x0 : Nat) (x1 : Int32) (x2 : Int32) (x3 : Int32) (x4 : Int32) (y0 : Int32) : Option (Int32 × Mem) :=
  (if x3 < 0 then f_L_cutBack_L86 n w σ x0 x1 x2 x3 x4 y0
  else bnd2 (f_X8_set σ x0 3 x3) fun r_23 σ_24 =>
  (if y0 = 0 then f_L_cutBack_L83 n w σ_24 x0 x1 x2 x3 x4
  else bnd2 (f_X8_ahead n σ_24 x0 x2 0 3) fun r_26 σ_27 =>
  (if r_26 = 0 then f_L_cutBack_L84 n w σ_27 x0 x1 x2 x3 x4 1
  else f_L_cutBack_L83 n w σ_27 x0 x1 x2 x3 x4)))
def f_L_cutBack_L50 (n : Nat) (w : Nat) (σ : Mem) (x0 : Nat) (x1 : Int32) (x2 : Int32) (x3 : Int32) (x4 : Int32) : Option (Int32 × Mem) :=
  f_L_cutBack_L51 n w σ x0 x1 x2 x3 x4 0
def f_L_cutBack_L46 (n : Nat) (w : Nat) (σ : Mem) (x0 : Nat) (x1 : Int32) (x2 : Int32) (x3 : Int32) (x4 : Int32) : Option (Int32 × Mem) :=
  f_L_cutBack_L51 n w σ x0 x1 x2 x3 x4 1
def f_L_cutBack (n : Nat) (w : Nat) (σ : Mem) (x0 : Nat) (x1 : Int32) : Option (Int32 × Mem) :=
  bnd (f_L_up x1 12) fun r_2 =>
  nm ((1 + r_2)) fun x2_3 =>
  bnd2 (f_X8_safeCut n σ x0 x2_3) fun r_5 σ_6 =>
  bnd (f_X8_state n σ_6 x0 13) fun r_8 =>
  (if r_5 < (-6) then f_L_cutBack_L50 n w σ_6 x0 x1 x2_3 r_5 r_8
  else (if 1000 < r_5 then f_L_cutBack_L50 n w σ_6 x0 x1 x2_3 r_5 r_8
  else (if 0 ≤ r_5 then f_L_cutBack_L46 n w σ_6 x0 x1 x2_3 r_5 r_8
  else (if r_5 = (-6) then f_L_cutBack_L46 n w σ_6 x0 x1 x2_3 r_5 r_8
  else f_L_cutBack_L50 n w σ_6 x0 x1 x2_3 r_5 r_8))))
def f_L_delayed_L189 (n : Nat) (w : Nat) (σ : Mem) (x0 : Nat) (x2 : Int32) (x3 : Int32) (x4 : Int32) (x5 : Int32) (x6 : Int32) (x7 : Int32) (y0 : Int32) (y1 : Int32) : Option ((Int32 × Mem) ⊕ (Mem × Int32)) :=
  (if y1 = y0 then bnd2 (f_X8_restore σ x0 1) fun r_20 σ_21 =>
  (if r_20 = x7 then nm (x6 + 1) fun x6_22 =>
  some (.inr (σ_21, x6_22))
  else some (.inl (0, σ_21)))
  else some (.inl (0, σ)))
def f_L_delayed_L177 (n : Nat) (w : Nat) (σ : Mem) (x0 : Nat) (x2 : Int32) (x3 : Int32) (x4 : Int32) (x5 : Int32) (x6 : Int32) (x7 : Int32) (y0 : Int32) : Option ((Int32 × Mem) ⊕ (Mem × Int32)) :=
  (if x6 = x4 then f_L_delayed_L189 n w σ x0 x2 x3 x4 x5 x6 x7 1 y0
  else f_L_delayed_L189 n w σ x0 x2 x3 x4 x5 x6 x7 0 y0)
def f_L_delayed_B137 (n : Nat) (w : Nat) (σ : Mem) (x0 : Nat) (x2 : Int32) (x3 : Int32) (x4 : Int32) (x5 : Int32) (x6 : Int32) (x7 : Int32) (x8 : Int32) (x9 : Int32) (x10 : Int32) : Option (((Int32 × Mem) ⊕ (Mem × Int32)) ⊕ (Mem × Int32 × Int32)) :=
  (if 3 ≤ x10 then (if x8 < 0 then some (.inl (.inl (0, σ)))
  else (if x9 = 0 then exi (f_L_delayed_L177 n w σ x0 x2 x3 x4 x5 x6 x7 1)
  else exi (f_L_delayed_L177 n w σ x0 x2 x3 x4 x5 x6 x7 0)))
  else bnd2 (f_X8_ahead n σ x0 x3 x10 1) fun r_24 σ_25 =>
  nm ((x9 + r_24)) fun x9_26 =>
  nm (x10 + 1) fun x10_27 =>
  some (.inr (σ_25, x9_26, x10_27)))
def f_L_delayed_L137 (n : Nat) (w : Nat) (σ : Mem) (x0 : Nat) (x2 : Int32) (x3 : Int32) (x4 : Int32) (x5 : Int32) (x6 : Int32) (x7 : Int32) (x8 : Int32) (x9 : Int32) (x10 : Int32) : Option ((Int32 × Mem) ⊕ (Mem × Int32)) :=
  iter (fun (s : Mem × Int32 × Int32) => f_L_delayed_B137 n w s.1 x0 x2 x3 x4 x5 x6 x7 x8 s.2.1 s.2.2) w (σ, x9, x10)
def f_L_delayed_B101 (n : Nat) (w : Nat) (σ : Mem) (x0 : Nat) (x2 : Int32) (x3 : Int32) (x4 : Int32) (x5 : Int32) (x6 : Int32) : Option ((Int32 × Mem) ⊕ (Mem × Int32)) :=
  (if x5 < x6 then some (.inl (1, σ))
  else (if 13 ≤ x6 then some (.inl (1, σ))
  else bnd2 (f_X8_save σ x0 1) fun r_14 σ_15 =>
  bnd2 (f_X8_move n σ_15 x0 x2 x6) fun r_17 σ_18 =>
  f_L_delayed_L137 n w σ_18 x0 x2 x3 x4 x5 x6 r_14 r_17 0 0))
def f_L_delayed_L101 (n : Nat) (w : Nat) (σ : Mem) (x0 : Nat) (x2 : Int32) (x3 : Int32) (x4 : Int32) (x5 : Int32) (x6 : Int32) : Option (Int32 × Mem) :=
  iter (fun (s : Mem × Int32) => f_L_delayed_B101 n w s.1 x0 x2 x3 x4 x5 s.2) w (σ, x6)
def f_L_delayed_L98 (n : Nat) (w : Nat) (σ : Mem) (x0 : Nat) (x2 : Int32) (x3 : Int32) (x4 : Int32) (x5 : Int32) : Option (Int32 × Mem) :=
  f_L_delayed_L101 n w σ x0 x2 x3 x4 x5 0
def f_L_delayed_L68 (n : Nat) (w : Nat) (σ : Mem) (x0 : Nat) (x2 : Int32) (x3 : Int32) (x4 : Int32) (y0 : Int32) : Option (Int32 × Mem) :=
  (if x4 < (-6) then some (0, σ)
  else (if 12 < x4 then some (0, σ)
  else (if 0 ≤ x4 then f_L_delayed_L98 n w σ x0 x2 x3 x4 y0
  else (if x4 = (-6) then f_L_delayed_L98 n w σ x0 x2 x3 x4 y0
  else some (0, σ)))))
def f_L_delayed (n : Nat) (w : Nat) (σ : Mem) (x0 : Nat) (x1 : Int32) : Option (Int32 × Mem) :=
  bnd (f_X8_state n σ x0 2) fun r_2 =>
  (if r_2 = 0 then bnd2 (f_X8_delay n σ x0 0 1 1) fun r_29 σ_30 =>
  (if r_29 = (-1) then some (1, σ_30)
  else some (0, σ_30))
  else bnd (f_X8_state n σ x0 2) fun r_4 =>
  bnd (f_L_up x1 r_4) fun r_6 =>
  bnd (f_L_up (x1 >>> (5 &&& 31)) 30) fun r_8 =>
  nm ((1 + r_8)) fun x3_9 =>
  bnd2 (f_X8_delay n σ x0 r_6 12 x3_9) fun r_11 σ_12 =>
  (if 0 ≤ r_11 then f_L_delayed_L68 n w σ_12 x0 r_6 x3_9 r_11 r_11
  else f_L_delayed_L68 n w σ_12 x0 r_6 x3_9 r_11 13))
def f_L_kept_B159 (n : Nat) (w : Nat) (σ : Mem) (x0 : Nat) (x1 : Int32) (x2 : Int32) (x3 : Int32) (x4 : Int32) (x5 : Int32) (x6 : Int32) (x7 : Int32) (x8 : Int32) : Option (((Int32 × Mem) ⊕ (Int32)) ⊕ (Int32)) :=
  (if 5 ≤ x8 then nm (x7 + 1) fun x7_66 =>
  some (.inl (.inr x7_66))
  else bnd (f_X8_pressure σ x0 x7 x8) fun r_68 =>
  (if r_68 = 0 then nm (x8 + 1) fun x8_69 =>
  some (.inr x8_69)
  else some (.inl (.inl (0, σ)))))
def f_L_kept_L159 (n : Nat) (w : Nat) (σ : Mem) (x0 : Nat) (x1 : Int32) (x2 : Int32) (x3 : Int32) (x4 : Int32) (x5 : Int32) (x6 : Int32) (x7 : Int32) (x8 : Int32) : Option ((Int32 × Mem) ⊕ (Int32)) :=
  iter (fun (s : Int32) => f_L_kept_B159 n w σ x0 x1 x2 x3 x4 x5 x6 x7 s) w x8
def f_L_kept_B150 (n : Nat) (w : Nat) (σ : Mem) (x0 : Nat) (x1 : Int32) (x2 : Int32) (x3 : Int32) (x4 : Int32) (x5 : Int32) (x6 : Int32) (x7 : Int32) : Option ((Int32 × Mem) ⊕ (Int32)) :=
  (if 3 ≤ x7 then bnd (f_L_up x1 60) fun r_30 =>
  nm ((1 + r_30)) fun x7_31 =>
  bnd2 (f_X8_ahead n σ x0 x7_31 1 0) fun r_33 σ_34 =>
  bnd2 (f_X8_tick n σ_34 x0 x7_31) fun r_36 σ_37 =>
  (if r_36 = x7_31 then bnd2 (f_X8_rewind n σ_37 x0) fun r_39 σ_40 =>
  (if r_39 = x7_31 then bnd2 (f_X8_ahead n σ_40 x0 x7_31 1 0) fun r_42 σ_43 =>
  (if r_42 = r_33 then bnd (f_L_up (x1 >>> (6 &&& 31)) 12) fun r_45 =>
  bnd2 (f_X8_setUp n σ_43 x0 (1 + r_45)) fun r_47 σ_48 =>
  bnd (f_X8_state n σ_48 x0 2) fun r_50 =>
  (if r_50 = 0 then bnd (f_X8_state n σ_48 x0 3) fun r_52 =>
  (if r_52 = 0 then bnd (f_X8_pressure σ_48 x0 0 0) fun r_54 =>
  (if r_54 = 100 then bnd2 (f_X8_restore σ_48 x0 0) fun r_56 σ_57 =>
  (if r_56 = x2 then bnd (f_X8_state n σ_57 x0 2) fun r_59 =>
  (if r_59 = x3 then bnd (f_X8_pressure σ_57 x0 1 2) fun r_61 =>
  (if r_61 = x5 then bnd (f_X8_spray σ_57 x0 0 7) fun r_63 =>
  (if r_63 = x6 then bnd (f_X8_state n σ_57 x0 3) fun r_65 =>
  (if r_65 = x4 then some (.inl (1, σ_57))
  else some (.inl (0, σ_57)))
  else some (.inl (0, σ_57)))
  else some (.inl (0, σ_57)))
  else some (.inl (0, σ_57)))
  else some (.inl (0, σ_57)))
  else some (.inl (0, σ_48)))
  else some (.inl (0, σ_48)))
  else some (.inl (0, σ_48)))
  else some (.inl (0, σ_43)))
  else some (.inl (0, σ_40)))
  else some (.inl (0, σ_37)))
  else f_L_kept_L159 n w σ x0 x1 x2 x3 x4 x5 x6 x7 2)
def f_L_kept_L150 (n : Nat) (w : Nat) (σ : Mem) (x0 : Nat) (x1 : Int32) (x2 : Int32) (x3 : Int32) (x4 : Int32) (x5 : Int32) (x6 : Int32) (x7 : Int32) : Option (Int32 × Mem) :=
  iter (fun (s : Int32) => f_L_kept_B150 n w σ x0 x1 x2 x3 x4 x5 x6 s) w x7
def f_L_kept_B115 (n : Nat) (w : Nat) (σ : Mem) (x0 : Nat) (x1 : Int32) (x2 : Int32) (x3 : Int32) (x4 : Int32) (x5 : Int32) (x6 : Int32) (x7 : Int32) (x8 : Int32) : Option (((Int32 × Mem) ⊕ (Int32)) ⊕ (Int32)) :=
  (if 12 ≤ x8 then nm (x7 + 1) fun x7_70 =>
  some (.inl (.inr x7_70))
  else bnd (f_X8_spray σ x0 x7 x8) fun r_72 =>
  (if r_72 = 0 then nm (x8 + 1) fun x8_73 =>
  some (.inr x8_73)
  else some (.inl (.inl (0, σ)))))
def f_L_kept_L115 (n : Nat) (w : Nat) (σ : Mem) (x0 : Nat) (x1 : Int32) (x2 : Int32) (x3 : Int32) (x4 : Int32) (x5 : Int32) (x6 : Int32) (x7 : Int32) (x8 : Int32) : Option ((Int32 × Mem) ⊕ (Int32)) :=
  iter (fun (s : Int32) => f_L_kept_B115 n w σ x0 x1 x2 x3 x4 x5 x6 x7 s) w x8
def f_L_kept_B101 (n : Nat) (w : Nat) (σ : Mem) (x0 : Nat) (x1 : Int32) (x2 : Int32) (x3 : Int32) (x4 : Int32) (x5 : Int32) (x6 : Int32) (x7 : Int32) : Option ((Int32 × Mem) ⊕ (Int32)) :=
  bnd (f_X8_state n σ x0 1) fun r_28 =>
  (if r_28 ≤ x7 then exi (f_L_kept_L150 n w σ x0 x1 x2 x3 x4 x5 x6 0)
  else f_L_kept_L115 n w σ x0 x1 x2 x3 x4 x5 x6 x7 6)
def f_L_kept_L101 (n : Nat) (w : Nat) (σ : Mem) (x0 : Nat) (x1 : Int32) (x2 : Int32) (x3 : Int32) (x4 : Int32) (x5 : Int32) (x6 : Int32) (x7 : Int32) : Option (Int32 × Mem) :=
  iter (fun (s : Int32) => f_L_kept_B101 n w σ x0 x1 x2 x3 x4 x5 x6 s) w x7
def f_L_kept (n : Nat) (w : Nat) (σ : Mem) (x0 : Nat) (x1 : Int32) : Option (Int32 × Mem) :=
  bnd2 (f_X8_save σ x0 0) fun r_2 σ_3 =>
  bnd (f_X8_state n σ_3 x0 2) fun r_5 =>
  bnd (f_X8_state n σ_3 x0 3) fun r_7 =>
  bnd (f_X8_pressure σ_3 x0 1 2) fun r_9 =>
  bnd (f_X8_spray σ_3 x0 0 7) fun r_11 =>
  bnd2 (f_X8_rewind n σ_3 x0) fun r_13 σ_14 =>
  (if r_13 = r_2 then bnd (f_X8_state n σ_14 x0 0) fun r_16 =>
  (if r_16 = 0 then bnd (f_X8_state n σ_14 x0 2) fun r_18 =>
  (if r_18 = r_5 then bnd (f_X8_state n σ_14 x0 3) fun r_20 =>
  (if r_20 = r_7 then bnd (f_X8_state n σ_14 x0 4) fun r_22 =>
  (if r_22 = 0 then bnd (f_X8_state n σ_14 x0 5) fun r_24 =>
  (if r_24 = 0 then bnd (f_X8_state n σ_14 x0 7) fun r_26 =>
  (if r_26 = 0 then f_L_kept_L101 n w σ_14 x0 x1 r_2 r_5 r_7 r_9 r_11 0
  else some (0, σ_14))
  else some (0, σ_14))
  else some (0, σ_14))
  else some (0, σ_14))
  else some (0, σ_14))
  else some (0, σ_14))
  else some (0, σ_14))
def f_L_ordered_L44 (n : Nat) (w : Nat) (σ : Mem) (x0 : Nat) (x1 : Int32) (x2 : Int32) (x3 : Int32) : Option (Int32 ⊕ (Int32 × Int32)) :=
  bnd (f_X8_part σ x0 x3 0) fun r_9 =>
  (if r_9 < x1 then nm (x3 + (-1)) fun x3_10 =>
  some (.inr (x2, x3_10))
  else nm (x3 + (-1)) fun x3_11 =>
  some (.inr (x3, x3_11)))
def f_L_ordered_B17 (n : Nat) (w : Nat) (σ : Mem) (x0 : Nat) (x1 : Int32) (x2 : Int32) (x3 : Int32) : Option (Int32 ⊕ (Int32 × Int32)) :=
  (if x3 < 0 then bnd (f_X8_state n σ x0 8) fun r_7 =>
  (if r_7 = x2 then some (.inl 1)
  else some (.inl 0))
  else (if x3 ≤ 0 then f_L_ordered_L44 n w σ x0 x1 x2 x3
  else bnd (f_X8_part σ x0 x3 0) fun r_13 =>
  bnd (f_X8_part σ x0 (x3 - 1) 0) fun r_15 =>
  (if r_15 ≤ r_13 then f_L_ordered_L44 n w σ x0 x1 x2 x3
  else some (.inl 0))))
def f_L_ordered_L17 (n : Nat) (w : Nat) (σ : Mem) (x0 : Nat) (x1 : Int32) (x2 : Int32) (x3 : Int32) : Option Int32 :=
  iter (fun (s : Int32 × Int32) => f_L_ordered_B17 n w σ x0 x1 s.1 s.2) w (x2, x3)
def f_L_ordered (n : Nat) (w : Nat) (σ : Mem) (x0 : Nat) : Option Int32 :=
  bnd (f_X8_state n σ x0 0) fun r_2 =>
  bnd (f_X8_state n σ x0 2) fun r_4 =>
  nm ((r_4 - 1)) fun x3_5 =>
  f_L_ordered_L17 n w σ x0 r_2 (-6) x3_5
def f_L_refused_L23 (n : Nat) (w : Nat) (σ : Mem) (x0 : Nat) (y0 : Int32) : Option (Int32 × Mem) :=
  bnd2 (f_X8_setUp n σ x0 y0) fun r_2 σ_3 =>
  (if r_2 = (-2) then bnd2 (f_X8_nozzle σ_3 x0 y0 0 1) fun r_5 σ_6 =>
  (if r_5 = (-1) then bnd2 (f_X8_nozzle σ_6 x0 0 y0 1) fun r_8 σ_9 =>
  (if r_8 = (-2) then bnd2 (f_X8_nozzle σ_9 x0 0 0 y0) fun r_11 σ_12 =>
  (if r_11 = (-2) then bnd2 (f_X8_pump σ_12 x0 y0 0 1) fun r_14 σ_15 =>
  (if r_14 = (-1) then bnd2 (f_X8_pump σ_15 x0 0 y0 1) fun r_17 σ_18 =>
  (if r_17 = (-2) then bnd2 (f_X8_pump σ_18 x0 0 0 y0) fun r_20 σ_21 =>
  (if r_20 = (-2) then bnd2 (f_X8_set σ_21 x0 y0 1) fun r_23 σ_24 =>
  (if r_23 = (-2) then bnd2 (f_X8_set σ_24 x0 0 y0) fun r_26 σ_27 =>
  (if r_26 = (-2) then bnd2 (f_X8_wind σ_27 x0 y0) fun r_29 σ_30 =>
  (if r_29 = (-2) then bnd2 (f_X8_cue n σ_30 x0 y0 1 1) fun r_32 σ_33 =>
  (if r_32 = (-2) then bnd2 (f_X8_cue n σ_33 x0 0 y0 1) fun r_35 σ_36 =>
  (if r_35 = (-2) then bnd2 (f_X8_cue n σ_36 x0 0 1 y0) fun r_38 σ_39 =>
  (if r_38 = (-2) then bnd2 (f_X8_remove σ_39 x0 y0) fun r_41 σ_42 =>
  (if r_41 = (-1) then bnd2 (f_X8_move n σ_42 x0 y0 0) fun r_44 σ_45 =>
  (if r_44 = (-1) then bnd (f_X8_part σ_45 x0 y0 0) fun r_47 =>
  (if r_47 = (-1) then bnd2 (f_X8_command n σ_45 x0 y0 0) fun r_49 σ_50 =>
  (if r_49 = (-2) then bnd2 (f_X8_tick n σ_50 x0 y0) fun r_52 σ_53 =>
  (if r_52 = (-2) then bnd (f_X8_spray σ_53 x0 y0 0) fun r_55 =>
  (if r_55 = (-1) then bnd (f_X8_spray σ_53 x0 0 y0) fun r_57 =>
  (if r_57 = (-2) then bnd (f_X8_pressure σ_53 x0 y0 0) fun r_59 =>
  (if r_59 = (-1) then bnd (f_X8_pressure σ_53 x0 0 y0) fun r_61 =>
  (if r_61 = (-2) then chk (isFar y0) ((if (0 : Int32) = 0 then bnd (f_X8_state n σ_53 x0 y0) fun r_63 =>
  (if r_63 = (-2) then bnd2 (f_X8_ahead n σ_53 x0 y0 0 0) fun r_65 σ_66 =>
  (if r_65 = (-2) then bnd2 (f_X8_ahead n σ_66 x0 1 y0 0) fun r_68 σ_69 =>
  (if r_68 = (-1) then bnd2 (f_X8_ahead n σ_69 x0 1 y0 3) fun r_71 σ_72 =>
  (if r_71 = 0 then bnd2 (f_X8_delay n σ_72 x0 y0 0 1) fun r_74 σ_75 =>
  (if r_74 = (-1) then bnd2 (f_X8_safeCut n σ_75 x0 y0) fun r_77 σ_78 =>
  (if r_77 = (-2) then bnd2 (f_X8_say σ_78 x0 y0) fun r_80 σ_81 =>
  (if r_80 = (-2) then bnd2 (f_X8_read n σ_81 x0 y0) fun r_83 σ_84 =>
  (if r_83 = (-3) then bnd2 (f_X8_save σ_84 x0 y0) fun r_86 σ_87 =>
  (if r_86 = (-2) then bnd2 (f_X8_restore σ_87 x0 y0) fun r_89 σ_90 =>
  (if r_89 = (-2) then bnd (f_X8_state n σ_90 x0 0) fun r_92 =>
  (if r_92 = 0 then some (1, σ_90)
  else some (0, σ_90))
  else some (0, σ_90))
  else some (0, σ_87))
  else some (0, σ_84))
  else some (0, σ_81))
  else some (0, σ_78))
  else some (0, σ_75))
  else some (0, σ_72))
  else some (0, σ_69))
  else some (0, σ_66))
  else some (0, σ_53))
  else some (0, σ_53)))
  else some (0, σ_53))
  else some (0, σ_53))
  else some (0, σ_53))
  else some (0, σ_53))
  else some (0, σ_53))
  else some (0, σ_50))
  else some (0, σ_45))
  else some (0, σ_45))
  else some (0, σ_42))
  else some (0, σ_39))
  else some (0, σ_36))
  else some (0, σ_33))
  else some (0, σ_30))
  else some (0, σ_27))
  else some (0, σ_24))
  else some (0, σ_21))
  else some (0, σ_18))
  else some (0, σ_15))
  else some (0, σ_12))
  else some (0, σ_9))
  else some (0, σ_6))
  else some (0, σ_3))
def f_L_refused (n : Nat) (w : Nat) (σ : Mem) (x0 : Nat) (x1 : Int32) : Option (Int32 × Mem) :=
  (if 0 ≤ x1 then f_L_refused_L23 n w σ x0 ((irm x1 1000000) + 100001)
  else bnd (f_L_up x1 1000000) fun r_94 =>
  f_L_refused_L23 n w σ x0 ((-11) - r_94))
def f_L_law_B265 (n : Nat) (w : Nat) (cv : Int32 → Int32) (σ : Mem) (x0 : Nat) (x2 : Int32) (x5 : Int32) : Option ((Int32 × Mem) ⊕ (Mem × Int32 × Int32)) :=
  (if 18 ≤ x5 then nm (x2 + 1) fun x2_18 =>
  chk (decide (0 ≤ x2)) (nm ((cv x2)) fun x3_19 =>
  bnd2 (f_L_comesTrue n w σ x0 x3_19) fun r_21 σ_22 =>
  (if r_21 = 0 then some (.inl (0, σ_22))
  else nm (x2_18 + 1) fun x2_23 =>
  chk (decide (0 ≤ x2_18)) (bnd2 (f_L_delayed n w σ_22 x0 (cv x2_18)) fun r_25 σ_26 =>
  (if r_25 = 0 then some (.inl (0, σ_26))
  else nm (x2_23 + 1) fun x2_27 =>
  chk (decide (0 ≤ x2_23)) (bnd2 (f_L_cutBack n w σ_26 x0 (cv x2_23)) fun r_29 σ_30 =>
  (if r_29 = 0 then some (.inl (0, σ_30))
  else nm (x2_27 + 1) fun x2_31 =>
  chk (decide (0 ≤ x2_27)) (bnd2 (f_L_kept n w σ_30 x0 (cv x2_27)) fun r_33 σ_34 =>
  (if r_33 = 0 then some (.inl (0, σ_34))
  else some (.inl (1, σ_34))))))))))
  else nm (x2 + 1) fun x2_35 =>
  chk (decide (0 ≤ x2)) (nm (x2_35 + 1) fun x2_36 =>
  chk (decide (0 ≤ x2_35)) (nm (x2_36 + 1) fun x2_37 =>
  chk (decide (0 ≤ x2_36)) (bnd2 (f_L_act n w σ x0 (cv x2) (cv x2_35) (cv x2_36)) fun r_39 σ_40 =>
  (if r_39 = 0 then some (.inl (0, σ_40))
  else bnd (f_L_ordered n w σ_40 x0) fun r_42 =>
  (if r_42 = 0 then some (.inl (0, σ_40))
  else nm (x5 + 1) fun x5_43 =>
  some (.inr (σ_40, x2_37, x5_43))))))))
def f_L_law_L265 (n : Nat) (w : Nat) (cv : Int32 → Int32) (σ : Mem) (x0 : Nat) (x2 : Int32) (x5 : Int32) : Option (Int32 × Mem) :=
  iter (fun (s : Mem × Int32 × Int32) => f_L_law_B265 n w cv s.1 x0 s.2.1 s.2.2) w (σ, x2, x5)
def f_L_law_B191 (n : Nat) (w : Nat) (cv : Int32 → Int32) (σ : Mem) (x0 : Nat) (x2 : Int32) (x3 : Int32) (x5 : Int32) : Option ((Int32 × Mem) ⊕ (Mem × Int32 × Int32 × Int32)) :=
  (if 3 ≤ x5 then bnd (f_L_up (x3 >>> (16 &&& 31)) 500) fun r_14 =>
  bnd2 (f_X8_set σ x0 5 r_14) fun r_16 σ_17 =>
  exi (f_L_law_L265 n w cv σ_17 x0 x2 0)
  else nm (x2 + 1) fun x2_44 =>
  chk (decide (0 ≤ x2)) (nm ((cv x2)) fun x3_45 =>
  bnd (f_L_up x3_45 600) fun r_47 =>
  bnd2 (f_X8_pump σ x0 x5 0 r_47) fun r_49 σ_50 =>
  bnd (f_L_up (x3_45 >>> (9 &&& 31)) 100) fun r_52 =>
  bnd2 (f_X8_pump σ_50 x0 x5 1 (1 + r_52)) fun r_54 σ_55 =>
  nm (x5 + 1) fun x5_56 =>
  some (.inr (σ_55, x2_44, x3_45, x5_56))))
def f_L_law_L191 (n : Nat) (w : Nat) (cv : Int32 → Int32) (σ : Mem) (x0 : Nat) (x2 : Int32) (x3 : Int32) (x5 : Int32) : Option (Int32 × Mem) :=
  iter (fun (s : Mem × Int32 × Int32 × Int32) => f_L_law_B191 n w cv s.1 x0 s.2.1 s.2.2.1 s.2.2.2) w (σ, x2, x3, x5)
def f_L_law_B61 (n : Nat) (w : Nat) (cv : Int32 → Int32) (σ : Mem) (x0 : Nat) (x2 : Int32) (x3 : Int32) (x4 : Int32) (x5 : Int32) : Option ((Int32 × Mem) ⊕ (Mem × Int32 × Int32 × Int32)) :=
  (if x4 ≤ x5 then exi (f_L_law_L191 n w cv σ x0 x2 x3 0)
  else nm (x2 + 1) fun x2_57 =>
  chk (decide (0 ≤ x2)) (nm ((cv x2)) fun x3_58 =>
  bnd (f_L_up x3_58 100) fun r_60 =>
  bnd2 (f_X8_nozzle σ x0 x5 0 (1 + r_60)) fun r_62 σ_63 =>
  bnd (f_L_up (x3_58 >>> (7 &&& 31)) 5000) fun r_65 =>
  bnd2 (f_X8_nozzle σ_63 x0 x5 1 (1 + r_65)) fun r_67 σ_68 =>
  bnd (f_L_up (x3_58 >>> (11 &&& 31)) 20) fun r_70 =>
  bnd2 (f_X8_nozzle σ_68 x0 x5 2 r_70) fun r_72 σ_73 =>
  bnd (f_L_up (x3_58 >>> (3 &&& 31)) 1000) fun r_75 =>
  bnd2 (f_X8_nozzle σ_73 x0 x5 3 (1 + r_75)) fun r_77 σ_78 =>
  bnd (f_L_up (x3_58 >>> (17 &&& 31)) 3) fun r_80 =>
  bnd2 (f_X8_nozzle σ_78 x0 x5 4 r_80) fun r_82 σ_83 =>
  bnd (f_L_up (x3_58 >>> (19 &&& 31)) 101) fun r_85 =>
  bnd2 (f_X8_nozzle σ_83 x0 x5 5 r_85) fun r_87 σ_88 =>
  nm (x5 + 1) fun x5_89 =>
  some (.inr (σ_88, x2_57, x3_58, x5_89))))
def f_L_law_L61 (n : Nat) (w : Nat) (cv : Int32 → Int32) (σ : Mem) (x0 : Nat) (x2 : Int32) (x3 : Int32) (x4 : Int32) (x5 : Int32) : Option (Int32 × Mem) :=
  iter (fun (s : Mem × Int32 × Int32 × Int32) => f_L_law_B61 n w cv s.1 x0 s.2.1 s.2.2.1 x4 s.2.2.2) w (σ, x2, x3, x5)
def f_L_law (n : Nat) (w : Nat) (cv : Int32 → Int32) (σ : Mem) (x0 : Nat) : Option (Int32 × Mem) :=
  nm (0 + 1) fun x2_1 =>
  chk (decide (0 ≤ 0)) (bnd2 (f_L_refused n w σ x0 (cv (0 : Int32))) fun r_3 σ_4 =>
  (if r_3 = 0 then some (0, σ_4)
  else nm (x2_1 + 1) fun x2_5 =>
  chk (decide (0 ≤ x2_1)) (nm ((cv x2_1)) fun x3_6 =>
  bnd (f_L_up x3_6 12) fun r_8 =>
  nm ((1 + r_8)) fun x4_9 =>
  bnd2 (f_X8_setUp n σ_4 x0 x4_9) fun r_11 σ_12 =>
  (if r_11 = 4 then f_L_law_L61 n w cv σ_12 x0 x2_5 x3_6 x4_9 0
  else some (0, σ_12)))))
