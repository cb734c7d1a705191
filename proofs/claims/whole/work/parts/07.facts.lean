/-! WHAT THE TABLES SAY, by place; the classes; the pointers -/
theorem inGX0 : ∀ w ∈ u_ws RX0 TX0 4, w ∈ lw_g := fun w hw => List.mem_filter.mpr (by
  have h := List.all_eq_true.mp (show (u_ws RX0 TX0 4).all (fun w => decide (w ∈ lw_tbl) && goodWord w) = true by decide +kernel) w hw
  simpa using h)
theorem kcX0 : Kc 0 RX0 TX0 4 tyX0 := ⟨rfl, by decide, inGX0, tyX0_ok, nmX0, rfl⟩
theorem inGX1 : ∀ w ∈ u_ws RX1 TX1 10, w ∈ lw_g := fun w hw => List.mem_filter.mpr (by
  have h := List.all_eq_true.mp (show (u_ws RX1 TX1 10).all (fun w => decide (w ∈ lw_tbl) && goodWord w) = true by decide +kernel) w hw
  simpa using h)
theorem kcX1 : Kc 1 RX1 TX1 10 tyX1 := ⟨rfl, by decide, inGX1, tyX1_ok, nmX1, rfl⟩
theorem inGX2 : ∀ w ∈ u_ws RX2 TX2 7, w ∈ lw_g := fun w hw => List.mem_filter.mpr (by
  have h := List.all_eq_true.mp (show (u_ws RX2 TX2 7).all (fun w => decide (w ∈ lw_tbl) && goodWord w) = true by decide +kernel) w hw
  simpa using h)
theorem kcX2 : Kc 2 RX2 TX2 7 tyX2 := ⟨rfl, by decide, inGX2, tyX2_ok, nmX2, rfl⟩
theorem inGX3 : ∀ w ∈ u_ws RX3 TX3 4, w ∈ lw_g := fun w hw => List.mem_filter.mpr (by
  have h := List.all_eq_true.mp (show (u_ws RX3 TX3 4).all (fun w => decide (w ∈ lw_tbl) && goodWord w) = true by decide +kernel) w hw
  simpa using h)
theorem kcX3 : Kc 3 RX3 TX3 4 tyX3 := ⟨rfl, by decide, inGX3, tyX3_ok, nmX3, rfl⟩
theorem inGX4 : ∀ w ∈ u_ws RX4 TX4 5, w ∈ lw_g := fun w hw => List.mem_filter.mpr (by
  have h := List.all_eq_true.mp (show (u_ws RX4 TX4 5).all (fun w => decide (w ∈ lw_tbl) && goodWord w) = true by decide +kernel) w hw
  simpa using h)
theorem kcX4 : Kc 4 RX4 TX4 5 tyX4 := ⟨rfl, by decide, inGX4, tyX4_ok, nmX4, rfl⟩
theorem inGX5 : ∀ w ∈ u_ws RX5 TX5 7, w ∈ lw_g := fun w hw => List.mem_filter.mpr (by
  have h := List.all_eq_true.mp (show (u_ws RX5 TX5 7).all (fun w => decide (w ∈ lw_tbl) && goodWord w) = true by decide +kernel) w hw
  simpa using h)
theorem kcX5 : Kc 5 RX5 TX5 7 tyX5 := ⟨rfl, by decide, inGX5, tyX5_ok, nmX5, rfl⟩
theorem inGX6 : ∀ w ∈ u_ws RX6 TX6 2, w ∈ lw_g := fun w hw => List.mem_filter.mpr (by
  have h := List.all_eq_true.mp (show (u_ws RX6 TX6 2).all (fun w => decide (w ∈ lw_tbl) && goodWord w) = true by decide +kernel) w hw
  simpa using h)
theorem kcX6 : Kc 6 RX6 TX6 2 tyX6 := ⟨rfl, by decide, inGX6, tyX6_ok, nmX6, rfl⟩
theorem inGX7 : ∀ w ∈ u_ws RX7 TX7 4, w ∈ lw_g := fun w hw => List.mem_filter.mpr (by
  have h := List.all_eq_true.mp (show (u_ws RX7 TX7 4).all (fun w => decide (w ∈ lw_tbl) && goodWord w) = true by decide +kernel) w hw
  simpa using h)
theorem kcX7 : Kc 7 RX7 TX7 4 tyX7 := ⟨rfl, by decide, inGX7, tyX7_ok, nmX7, rfl⟩
theorem inGX8 : ∀ w ∈ u_ws RX8 TX8 5, w ∈ lw_g := fun w hw => List.mem_filter.mpr (by
  have h := List.all_eq_true.mp (show (u_ws RX8 TX8 5).all (fun w => decide (w ∈ lw_tbl) && goodWord w) = true by decide +kernel) w hw
  simpa using h)
theorem kcX8 : Kc 8 RX8 TX8 5 tyX8 := ⟨rfl, by decide, inGX8, tyX8_ok, nmX8, rfl⟩
theorem inGX9 : ∀ w ∈ u_ws RX9 TX9 10, w ∈ lw_g := fun w hw => List.mem_filter.mpr (by
  have h := List.all_eq_true.mp (show (u_ws RX9 TX9 10).all (fun w => decide (w ∈ lw_tbl) && goodWord w) = true by decide +kernel) w hw
  simpa using h)
theorem kcX9 : Kc 9 RX9 TX9 10 tyX9 := ⟨rfl, by decide, inGX9, tyX9_ok, nmX9, rfl⟩
theorem tw_92 : Cond.methodLink RX4 37 arraycopyName ∈ lw_g := in_g 92 (by decide +kernel) (by decide +kernel)
theorem tw_95 : Cond.fieldLink RX4 21 RX4 (TX4 0).2.1 (TX4 0).2.2.1 ∈ lw_g := in_g 95 (by decide +kernel) (by decide +kernel)
theorem tw_96 : Cond.fieldLink RX4 25 RX4 (TX4 1).2.1 (TX4 1).2.2.1 ∈ lw_g := in_g 96 (by decide +kernel) (by decide +kernel)
theorem tw_97 : Cond.fieldLink RX4 28 RX4 (TX4 2).2.1 (TX4 2).2.2.1 ∈ lw_g := in_g 97 (by decide +kernel) (by decide +kernel)
theorem tw_98 : Cond.fieldLink RX4 15 RX4 (TX4 3).2.1 (TX4 3).2.2.1 ∈ lw_g := in_g 98 (by decide +kernel) (by decide +kernel)
theorem tw_99 : Cond.fieldLink RX4 31 RX4 (TX4 4).2.1 (TX4 4).2.2.1 ∈ lw_g := in_g 99 (by decide +kernel) (by decide +kernel)
theorem tw_126 : Cond.fieldLink RX1 24 RX1 (TX1 0).2.1 (TX1 0).2.2.1 ∈ lw_g := in_g 126 (by decide +kernel) (by decide +kernel)
theorem tw_127 : Cond.fieldLink RX8 58 RX1 (TX1 0).2.1 (TX1 0).2.2.1 ∈ lw_g := in_g 127 (by decide +kernel) (by decide +kernel)
theorem tw_128 : Cond.fieldLink RX1 30 RX1 (TX1 1).2.1 (TX1 1).2.2.1 ∈ lw_g := in_g 128 (by decide +kernel) (by decide +kernel)
theorem tw_129 : Cond.fieldLink RX8 129 RX1 (TX1 1).2.1 (TX1 1).2.2.1 ∈ lw_g := in_g 129 (by decide +kernel) (by decide +kernel)
theorem tw_130 : Cond.fieldLink RX1 33 RX1 (TX1 2).2.1 (TX1 2).2.2.1 ∈ lw_g := in_g 130 (by decide +kernel) (by decide +kernel)
theorem tw_131 : Cond.fieldLink RX8 132 RX1 (TX1 2).2.1 (TX1 2).2.2.1 ∈ lw_g := in_g 131 (by decide +kernel) (by decide +kernel)
theorem tw_132 : Cond.fieldLink RX1 36 RX1 (TX1 3).2.1 (TX1 3).2.2.1 ∈ lw_g := in_g 132 (by decide +kernel) (by decide +kernel)
theorem tw_133 : Cond.fieldLink RX8 135 RX1 (TX1 3).2.1 (TX1 3).2.2.1 ∈ lw_g := in_g 133 (by decide +kernel) (by decide +kernel)
theorem tw_134 : Cond.fieldLink RX1 39 RX1 (TX1 4).2.1 (TX1 4).2.2.1 ∈ lw_g := in_g 134 (by decide +kernel) (by decide +kernel)
theorem tw_135 : Cond.fieldLink RX8 138 RX1 (TX1 4).2.1 (TX1 4).2.2.1 ∈ lw_g := in_g 135 (by decide +kernel) (by decide +kernel)
theorem tw_136 : Cond.fieldLink RX1 42 RX1 (TX1 5).2.1 (TX1 5).2.2.1 ∈ lw_g := in_g 136 (by decide +kernel) (by decide +kernel)
theorem tw_137 : Cond.fieldLink RX8 141 RX1 (TX1 5).2.1 (TX1 5).2.2.1 ∈ lw_g := in_g 137 (by decide +kernel) (by decide +kernel)
theorem tw_138 : Cond.fieldLink RX1 45 RX1 (TX1 6).2.1 (TX1 6).2.2.1 ∈ lw_g := in_g 138 (by decide +kernel) (by decide +kernel)
theorem tw_139 : Cond.fieldLink RX8 144 RX1 (TX1 6).2.1 (TX1 6).2.2.1 ∈ lw_g := in_g 139 (by decide +kernel) (by decide +kernel)
theorem tw_140 : Cond.fieldLink RX1 48 RX1 (TX1 7).2.1 (TX1 7).2.2.1 ∈ lw_g := in_g 140 (by decide +kernel) (by decide +kernel)
theorem tw_141 : Cond.fieldLink RX1 51 RX1 (TX1 8).2.1 (TX1 8).2.2.1 ∈ lw_g := in_g 141 (by decide +kernel) (by decide +kernel)
theorem tw_142 : Cond.fieldLink RX8 44 RX1 (TX1 8).2.1 (TX1 8).2.2.1 ∈ lw_g := in_g 142 (by decide +kernel) (by decide +kernel)
theorem tw_143 : Cond.fieldLink RX1 55 RX1 (TX1 9).2.1 (TX1 9).2.2.1 ∈ lw_g := in_g 143 (by decide +kernel) (by decide +kernel)
theorem tw_144 : Cond.fieldLink RX8 209 RX1 (TX1 9).2.1 (TX1 9).2.2.1 ∈ lw_g := in_g 144 (by decide +kernel) (by decide +kernel)
theorem tw_180 : Cond.fieldLink RX3 24 RX3 (TX3 0).2.1 (TX3 0).2.2.1 ∈ lw_g := in_g 180 (by decide +kernel) (by decide +kernel)
theorem tw_181 : Cond.fieldLink RX5 72 RX3 (TX3 0).2.1 (TX3 0).2.2.1 ∈ lw_g := in_g 181 (by decide +kernel) (by decide +kernel)
theorem tw_182 : Cond.fieldLink RX8 72 RX3 (TX3 0).2.1 (TX3 0).2.2.1 ∈ lw_g := in_g 182 (by decide +kernel) (by decide +kernel)
theorem tw_183 : Cond.fieldLink RX3 30 RX3 (TX3 1).2.1 (TX3 1).2.2.1 ∈ lw_g := in_g 183 (by decide +kernel) (by decide +kernel)
theorem tw_184 : Cond.fieldLink RX8 150 RX3 (TX3 1).2.1 (TX3 1).2.2.1 ∈ lw_g := in_g 184 (by decide +kernel) (by decide +kernel)
theorem tw_185 : Cond.fieldLink RX3 33 RX3 (TX3 2).2.1 (TX3 2).2.2.1 ∈ lw_g := in_g 185 (by decide +kernel) (by decide +kernel)
theorem tw_186 : Cond.fieldLink RX8 151 RX3 (TX3 2).2.1 (TX3 2).2.2.1 ∈ lw_g := in_g 186 (by decide +kernel) (by decide +kernel)
theorem tw_187 : Cond.fieldLink RX3 36 RX3 (TX3 3).2.1 (TX3 3).2.2.1 ∈ lw_g := in_g 187 (by decide +kernel) (by decide +kernel)
theorem tw_188 : Cond.fieldLink RX8 154 RX3 (TX3 3).2.1 (TX3 3).2.2.1 ∈ lw_g := in_g 188 (by decide +kernel) (by decide +kernel)
theorem tw_204 : Cond.fieldLink RX7 9 RX7 (TX7 0).2.1 (TX7 0).2.2.1 ∈ lw_g := in_g 204 (by decide +kernel) (by decide +kernel)
theorem tw_205 : Cond.fieldLink RX5 73 RX7 (TX7 0).2.1 (TX7 0).2.2.1 ∈ lw_g := in_g 205 (by decide +kernel) (by decide +kernel)
theorem tw_206 : Cond.fieldLink RX8 80 RX7 (TX7 0).2.1 (TX7 0).2.2.1 ∈ lw_g := in_g 206 (by decide +kernel) (by decide +kernel)
theorem tw_207 : Cond.fieldLink RX7 15 RX7 (TX7 1).2.1 (TX7 1).2.2.1 ∈ lw_g := in_g 207 (by decide +kernel) (by decide +kernel)
theorem tw_208 : Cond.fieldLink RX7 18 RX7 (TX7 2).2.1 (TX7 2).2.2.1 ∈ lw_g := in_g 208 (by decide +kernel) (by decide +kernel)
theorem tw_209 : Cond.fieldLink RX5 111 RX7 (TX7 2).2.1 (TX7 2).2.2.1 ∈ lw_g := in_g 209 (by decide +kernel) (by decide +kernel)
theorem tw_210 : Cond.fieldLink RX8 165 RX7 (TX7 2).2.1 (TX7 2).2.2.1 ∈ lw_g := in_g 210 (by decide +kernel) (by decide +kernel)
theorem tw_211 : Cond.fieldLink RX7 21 RX7 (TX7 3).2.1 (TX7 3).2.2.1 ∈ lw_g := in_g 211 (by decide +kernel) (by decide +kernel)
theorem tw_212 : Cond.fieldLink RX8 168 RX7 (TX7 3).2.1 (TX7 3).2.2.1 ∈ lw_g := in_g 212 (by decide +kernel) (by decide +kernel)
theorem tw_228 : Cond.fieldLink RX0 9 RX0 (TX0 0).2.1 (TX0 0).2.2.1 ∈ lw_g := in_g 228 (by decide +kernel) (by decide +kernel)
theorem tw_229 : Cond.fieldLink RX8 101 RX0 (TX0 0).2.1 (TX0 0).2.2.1 ∈ lw_g := in_g 229 (by decide +kernel) (by decide +kernel)
theorem tw_230 : Cond.fieldLink RX0 15 RX0 (TX0 1).2.1 (TX0 1).2.2.1 ∈ lw_g := in_g 230 (by decide +kernel) (by decide +kernel)
theorem tw_231 : Cond.fieldLink RX8 109 RX0 (TX0 1).2.1 (TX0 1).2.2.1 ∈ lw_g := in_g 231 (by decide +kernel) (by decide +kernel)
theorem tw_232 : Cond.fieldLink RX0 18 RX0 (TX0 2).2.1 (TX0 2).2.2.1 ∈ lw_g := in_g 232 (by decide +kernel) (by decide +kernel)
theorem tw_233 : Cond.fieldLink RX8 112 RX0 (TX0 2).2.1 (TX0 2).2.2.1 ∈ lw_g := in_g 233 (by decide +kernel) (by decide +kernel)
theorem tw_234 : Cond.fieldLink RX0 21 RX0 (TX0 3).2.1 (TX0 3).2.2.1 ∈ lw_g := in_g 234 (by decide +kernel) (by decide +kernel)
theorem tw_235 : Cond.fieldLink RX5 76 RX0 (TX0 3).2.1 (TX0 3).2.2.1 ∈ lw_g := in_g 235 (by decide +kernel) (by decide +kernel)
theorem tw_236 : Cond.fieldLink RX2 38 RX0 (TX0 3).2.1 (TX0 3).2.2.1 ∈ lw_g := in_g 236 (by decide +kernel) (by decide +kernel)
theorem tw_237 : Cond.fieldLink RX8 99 RX0 (TX0 3).2.1 (TX0 3).2.2.1 ∈ lw_g := in_g 237 (by decide +kernel) (by decide +kernel)
theorem tw_247 : Cond.fieldLink RX5 24 RX5 (TX5 0).2.1 (TX5 0).2.2.1 ∈ lw_g := in_g 247 (by decide +kernel) (by decide +kernel)
theorem tw_248 : Cond.fieldLink RX8 75 RX5 (TX5 0).2.1 (TX5 0).2.2.1 ∈ lw_g := in_g 248 (by decide +kernel) (by decide +kernel)
theorem tw_249 : Cond.fieldLink RX5 33 RX5 (TX5 1).2.1 (TX5 1).2.2.1 ∈ lw_g := in_g 249 (by decide +kernel) (by decide +kernel)
theorem tw_250 : Cond.fieldLink RX8 40 RX5 (TX5 1).2.1 (TX5 1).2.2.1 ∈ lw_g := in_g 250 (by decide +kernel) (by decide +kernel)
theorem tw_251 : Cond.fieldLink RX5 40 RX5 (TX5 2).2.1 (TX5 2).2.2.1 ∈ lw_g := in_g 251 (by decide +kernel) (by decide +kernel)
theorem tw_252 : Cond.fieldLink RX8 68 RX5 (TX5 2).2.1 (TX5 2).2.2.1 ∈ lw_g := in_g 252 (by decide +kernel) (by decide +kernel)
theorem tw_253 : Cond.fieldLink RX5 47 RX5 (TX5 3).2.1 (TX5 3).2.2.1 ∈ lw_g := in_g 253 (by decide +kernel) (by decide +kernel)
theorem tw_254 : Cond.fieldLink RX8 76 RX5 (TX5 3).2.1 (TX5 3).2.2.1 ∈ lw_g := in_g 254 (by decide +kernel) (by decide +kernel)
theorem tw_255 : Cond.fieldLink RX5 54 RX5 (TX5 4).2.1 (TX5 4).2.2.1 ∈ lw_g := in_g 255 (by decide +kernel) (by decide +kernel)
theorem tw_256 : Cond.fieldLink RX8 86 RX5 (TX5 4).2.1 (TX5 4).2.2.1 ∈ lw_g := in_g 256 (by decide +kernel) (by decide +kernel)
theorem tw_257 : Cond.fieldLink RX5 58 RX5 (TX5 5).2.1 (TX5 5).2.2.1 ∈ lw_g := in_g 257 (by decide +kernel) (by decide +kernel)
theorem tw_258 : Cond.fieldLink RX8 119 RX5 (TX5 5).2.1 (TX5 5).2.2.1 ∈ lw_g := in_g 258 (by decide +kernel) (by decide +kernel)
theorem tw_259 : Cond.fieldLink RX5 62 RX5 (TX5 6).2.1 (TX5 6).2.2.1 ∈ lw_g := in_g 259 (by decide +kernel) (by decide +kernel)
theorem tw_260 : Cond.fieldLink RX8 171 RX5 (TX5 6).2.1 (TX5 6).2.2.1 ∈ lw_g := in_g 260 (by decide +kernel) (by decide +kernel)
theorem tw_285 : Cond.fieldLink RX8 227 RX6 (TX6 0).2.1 (TX6 0).2.2.1 ∈ lw_g := in_g 285 (by decide +kernel) (by decide +kernel)
theorem tw_287 : Cond.fieldLink RX8 230 RX6 (TX6 1).2.1 (TX6 1).2.2.1 ∈ lw_g := in_g 287 (by decide +kernel) (by decide +kernel)
theorem tw_301 : Cond.fieldLink RX2 12 RX2 (TX2 0).2.1 (TX2 0).2.2.1 ∈ lw_g := in_g 301 (by decide +kernel) (by decide +kernel)
theorem tw_302 : Cond.fieldLink RX8 220 RX2 (TX2 0).2.1 (TX2 0).2.2.1 ∈ lw_g := in_g 302 (by decide +kernel) (by decide +kernel)
theorem tw_303 : Cond.fieldLink RX2 18 RX2 (TX2 1).2.1 (TX2 1).2.2.1 ∈ lw_g := in_g 303 (by decide +kernel) (by decide +kernel)
theorem tw_304 : Cond.fieldLink RX2 22 RX2 (TX2 2).2.1 (TX2 2).2.2.1 ∈ lw_g := in_g 304 (by decide +kernel) (by decide +kernel)
theorem tw_305 : Cond.fieldLink RX8 178 RX2 (TX2 2).2.1 (TX2 2).2.2.1 ∈ lw_g := in_g 305 (by decide +kernel) (by decide +kernel)
theorem tw_306 : Cond.fieldLink RX2 26 RX2 (TX2 3).2.1 (TX2 3).2.2.1 ∈ lw_g := in_g 306 (by decide +kernel) (by decide +kernel)
theorem tw_307 : Cond.fieldLink RX2 29 RX2 (TX2 4).2.1 (TX2 4).2.2.1 ∈ lw_g := in_g 307 (by decide +kernel) (by decide +kernel)
theorem tw_308 : Cond.fieldLink RX2 32 RX2 (TX2 5).2.1 (TX2 5).2.2.1 ∈ lw_g := in_g 308 (by decide +kernel) (by decide +kernel)
theorem tw_309 : Cond.fieldLink RX2 35 RX2 (TX2 6).2.1 (TX2 6).2.2.1 ∈ lw_g := in_g 309 (by decide +kernel) (by decide +kernel)
theorem tw_326 : Cond.fieldLink RX8 10 RX8 (TX8 0).2.1 (TX8 0).2.2.1 ∈ lw_g := in_g 326 (by decide +kernel) (by decide +kernel)
theorem tw_327 : Cond.fieldLink RX8 16 RX8 (TX8 1).2.1 (TX8 1).2.2.1 ∈ lw_g := in_g 327 (by decide +kernel) (by decide +kernel)
theorem tw_328 : Cond.fieldLink RX8 22 RX8 (TX8 2).2.1 (TX8 2).2.2.1 ∈ lw_g := in_g 328 (by decide +kernel) (by decide +kernel)
theorem tw_329 : Cond.fieldLink RX8 26 RX8 (TX8 3).2.1 (TX8 3).2.2.1 ∈ lw_g := in_g 329 (by decide +kernel) (by decide +kernel)
theorem tw_330 : Cond.fieldLink RX8 32 RX8 (TX8 4).2.1 (TX8 4).2.2.1 ∈ lw_g := in_g 330 (by decide +kernel) (by decide +kernel)
theorem tw_346 : Cond.methodLink RX8 36 yX8_within ∈ lw_g := in_g 346 (by decide +kernel) (by decide +kernel)
theorem tw_349 : Cond.methodLink RX8 50 yX5_begin ∈ lw_g := in_g 349 (by decide +kernel) (by decide +kernel)
theorem tw_353 : Cond.methodLink RX5 65 yX4_reset ∈ lw_g := in_g 353 (by decide +kernel) (by decide +kernel)
theorem tw_354 : Cond.methodLink RX5 68 yX1_begin ∈ lw_g := in_g 354 (by decide +kernel) (by decide +kernel)
theorem tw_358 : Cond.methodLink RX1 62 yX4_reset ∈ lw_g := in_g 358 (by decide +kernel) (by decide +kernel)
theorem tw_359 : Cond.methodLink RX5 79 yX5_goBack ∈ lw_g := in_g 359 (by decide +kernel) (by decide +kernel)
theorem tw_363 : Cond.methodLink RX5 82 yX1_goBack ∈ lw_g := in_g 363 (by decide +kernel) (by decide +kernel)
theorem tw_370 : Cond.methodLink RX5 83 yX3_goBack ∈ lw_g := in_g 370 (by decide +kernel) (by decide +kernel)
theorem tw_375 : Cond.methodLink RX5 84 yX7_goBack ∈ lw_g := in_g 375 (by decide +kernel) (by decide +kernel)
theorem tw_383 : Cond.methodLink RX8 54 yX1_has ∈ lw_g := in_g 383 (by decide +kernel) (by decide +kernel)
theorem tw_388 : Cond.methodLink RX8 62 yX4_change ∈ lw_g := in_g 388 (by decide +kernel) (by decide +kernel)
theorem tw_409 : Cond.constant RX8 85 100000 ∈ lw_g := in_g 409 (by decide +kernel) (by decide +kernel)
theorem tw_410 : Cond.methodLink RX8 90 yX0_insert ∈ lw_g := in_g 410 (by decide +kernel) (by decide +kernel)
theorem tw_414 : Cond.methodLink RX0 33 yX0_next ∈ lw_g := in_g 414 (by decide +kernel) (by decide +kernel)
theorem tw_418 : Cond.methodLink RX0 37 yX0_shift ∈ lw_g := in_g 418 (by decide +kernel) (by decide +kernel)
theorem tw_422 : Cond.methodLink RX0 55 arraycopyName ∈ lw_g := in_g 422 (by decide +kernel) (by decide +kernel)
theorem tw_427 : Cond.methodLink RX8 95 yX0_has ∈ lw_g := in_g 427 (by decide +kernel) (by decide +kernel)
theorem tw_432 : Cond.methodLink RX8 96 yX0_takeOut ∈ lw_g := in_g 432 (by decide +kernel) (by decide +kernel)
theorem tw_440 : Cond.constant RX8 100 (-100000) ∈ lw_g := in_g 440 (by decide +kernel) (by decide +kernel)
theorem tw_441 : Cond.methodLink RX8 105 yX0_postpone ∈ lw_g := in_g 441 (by decide +kernel) (by decide +kernel)
theorem tw_445 : Cond.methodLink RX0 41 yX0_takeOut ∈ lw_g := in_g 445 (by decide +kernel) (by decide +kernel)
theorem tw_446 : Cond.methodLink RX0 45 yX0_insert ∈ lw_g := in_g 446 (by decide +kernel) (by decide +kernel)
theorem tw_455 : Cond.methodLink RX8 115 yX1_obey ∈ lw_g := in_g 455 (by decide +kernel) (by decide +kernel)
theorem tw_463 : Cond.constant RX8 122 200000 ∈ lw_g := in_g 463 (by decide +kernel) (by decide +kernel)
theorem tw_464 : Cond.methodLink RX8 123 yX5_makeTick ∈ lw_g := in_g 464 (by decide +kernel) (by decide +kernel)
theorem tw_468 : Cond.methodLink RX5 101 yX0_carryOut ∈ lw_g := in_g 468 (by decide +kernel) (by decide +kernel)
theorem tw_472 : Cond.methodLink RX0 49 yX1_obey ∈ lw_g := in_g 472 (by decide +kernel) (by decide +kernel)
theorem tw_473 : Cond.methodLink RX5 105 yX1_keepCommands ∈ lw_g := in_g 473 (by decide +kernel) (by decide +kernel)
theorem tw_477 : Cond.methodLink RX1 77 yX1_rowOf ∈ lw_g := in_g 477 (by decide +kernel) (by decide +kernel)
theorem tw_480 : Cond.methodLink RX1 117 yJ9_floorMod_7cf53 ∈ lw_g := in_g 480 (by decide +kernel) (by decide +kernel)
theorem tw_483 : Cond.methodLink RX1 81 arraycopyName ∈ lw_g := in_g 483 (by decide +kernel) (by decide +kernel)
theorem tw_484 : Cond.methodLink RX5 108 yX7_blow ∈ lw_g := in_g 484 (by decide +kernel) (by decide +kernel)
theorem tw_488 : Cond.methodLink RX7 24 yX4_value ∈ lw_g := in_g 488 (by decide +kernel) (by decide +kernel)
theorem tw_495 : Cond.methodLink RX8 247 yJ9_floorDiv_f86c9 ∈ lw_g := in_g 495 (by decide +kernel) (by decide +kernel)
theorem tw_498 : Cond.methodLink RX7 34 yX7_measured ∈ lw_g := in_g 498 (by decide +kernel) (by decide +kernel)
theorem tw_502 : Cond.methodLink RX7 38 yX7_enter ∈ lw_g := in_g 502 (by decide +kernel) (by decide +kernel)
theorem tw_506 : Cond.methodLink RX7 42 yX7_calmDown ∈ lw_g := in_g 506 (by decide +kernel) (by decide +kernel)
theorem tw_510 : Cond.methodLink RX5 114 yX4_value ∈ lw_g := in_g 510 (by decide +kernel) (by decide +kernel)
theorem tw_511 : Cond.methodLink RX5 118 yX1_open ∈ lw_g := in_g 511 (by decide +kernel) (by decide +kernel)
theorem tw_515 : Cond.methodLink RX1 87 yX4_value ∈ lw_g := in_g 515 (by decide +kernel) (by decide +kernel)
theorem tw_516 : Cond.methodLink RX1 91 yX1_commandAt ∈ lw_g := in_g 516 (by decide +kernel) (by decide +kernel)
theorem tw_520 : Cond.methodLink RX1 94 Lib.Math.max.name ∈ lw_g := in_g 520 (by decide +kernel) (by decide +kernel)
theorem tw_521 : Cond.methodLink RX1 99 Lib.Math.min.name ∈ lw_g := in_g 521 (by decide +kernel) (by decide +kernel)
theorem tw_527 : Cond.methodLink RX8 198 Lib.Math.min.name ∈ lw_g := in_g 527 (by decide +kernel) (by decide +kernel)
theorem tw_528 : Cond.methodLink RX8 234 Lib.Math.max.name ∈ lw_g := in_g 528 (by decide +kernel) (by decide +kernel)
theorem tw_529 : Cond.methodLink RX5 122 yX3_supply ∈ lw_g := in_g 529 (by decide +kernel) (by decide +kernel)
theorem tw_533 : Cond.methodLink RX3 51 yX1_demandOf ∈ lw_g := in_g 533 (by decide +kernel) (by decide +kernel)
theorem tw_537 : Cond.methodLink RX1 106 yX1_demandAt ∈ lw_g := in_g 537 (by decide +kernel) (by decide +kernel)
theorem tw_541 : Cond.methodLink RX3 57 yX4_value ∈ lw_g := in_g 541 (by decide +kernel) (by decide +kernel)
theorem tw_542 : Cond.methodLink RX3 61 Lib.Math.min.name ∈ lw_g := in_g 542 (by decide +kernel) (by decide +kernel)
theorem tw_544 : Cond.methodLink RX3 70 yX1_flow ∈ lw_g := in_g 544 (by decide +kernel) (by decide +kernel)
theorem tw_549 : Cond.methodLink RX5 125 yX7_measured ∈ lw_g := in_g 549 (by decide +kernel) (by decide +kernel)
theorem tw_550 : Cond.methodLink RX5 129 yX1_rise ∈ lw_g := in_g 550 (by decide +kernel) (by decide +kernel)
theorem tw_554 : Cond.constantLong RX1 113 1000000 ∈ lw_g := in_g 554 (by decide +kernel) (by decide +kernel)
theorem tw_555 : Cond.constantLong RX1 115 100000 ∈ lw_g := in_g 555 (by decide +kernel) (by decide +kernel)
theorem tw_556 : Cond.methodLink RX5 132 yX3_countShort ∈ lw_g := in_g 556 (by decide +kernel) (by decide +kernel)
theorem tw_560 : Cond.methodLink RX3 74 yX3_isShort ∈ lw_g := in_g 560 (by decide +kernel) (by decide +kernel)
theorem tw_564 : Cond.methodLink RX5 135 yX1_driftsBeyond ∈ lw_g := in_g 564 (by decide +kernel) (by decide +kernel)
theorem tw_572 : Cond.methodLink RX8 126 yX5_goBack ∈ lw_g := in_g 572 (by decide +kernel) (by decide +kernel)
theorem tw_577 : Cond.methodLink RX8 147 yX4_value ∈ lw_g := in_g 577 (by decide +kernel) (by decide +kernel)
theorem tw_599 : Cond.methodLink RX8 162 yX7_measured ∈ lw_g := in_g 599 (by decide +kernel) (by decide +kernel)
theorem tw_600 : Cond.methodLink RX8 174 yX0_next ∈ lw_g := in_g 600 (by decide +kernel) (by decide +kernel)
theorem tw_605 : Cond.methodLink RX8 181 yX5_copy ∈ lw_g := in_g 605 (by decide +kernel) (by decide +kernel)
theorem tw_609 : Cond.methodLink RX5 85 yX4_copy ∈ lw_g := in_g 609 (by decide +kernel) (by decide +kernel)
theorem tw_616 : Cond.methodLink RX8 251 arraycopyName ∈ lw_g := in_g 616 (by decide +kernel) (by decide +kernel)
theorem tw_617 : Cond.methodLink RX5 89 yX1_copy ∈ lw_g := in_g 617 (by decide +kernel) (by decide +kernel)
theorem tw_621 : Cond.methodLink RX1 69 yX4_copy ∈ lw_g := in_g 621 (by decide +kernel) (by decide +kernel)
theorem tw_623 : Cond.methodLink RX5 92 yX3_copy ∈ lw_g := in_g 623 (by decide +kernel) (by decide +kernel)
theorem tw_627 : Cond.methodLink RX3 43 yX4_copy ∈ lw_g := in_g 627 (by decide +kernel) (by decide +kernel)
theorem tw_629 : Cond.methodLink RX5 95 yX7_copy ∈ lw_g := in_g 629 (by decide +kernel) (by decide +kernel)
theorem tw_633 : Cond.methodLink RX5 98 yX0_copy ∈ lw_g := in_g 633 (by decide +kernel) (by decide +kernel)
theorem tw_638 : Cond.methodLink RX8 185 yX8_greatestDemand ∈ lw_g := in_g 638 (by decide +kernel) (by decide +kernel)
theorem tw_642 : Cond.methodLink RX8 188 yX8_shortTicks ∈ lw_g := in_g 642 (by decide +kernel) (by decide +kernel)
theorem tw_646 : Cond.methodLink RX8 190 yX8_firstShort ∈ lw_g := in_g 646 (by decide +kernel) (by decide +kernel)
theorem tw_650 : Cond.methodLink RX8 237 yX3_isShort ∈ lw_g := in_g 650 (by decide +kernel) (by decide +kernel)
theorem tw_651 : Cond.methodLink RX8 193 yX8_wetTicks ∈ lw_g := in_g 651 (by decide +kernel) (by decide +kernel)
theorem tw_655 : Cond.methodLink RX8 195 yX8_greatestHeight ∈ lw_g := in_g 655 (by decide +kernel) (by decide +kernel)
theorem tw_659 : Cond.methodLink RX8 240 yX1_greatestHeightNow ∈ lw_g := in_g 659 (by decide +kernel) (by decide +kernel)
theorem tw_667 : Cond.methodLink RX8 203 yX8_staysSupplied ∈ lw_g := in_g 667 (by decide +kernel) (by decide +kernel)
theorem tw_671 : Cond.methodLink RX8 243 yX3_someShort ∈ lw_g := in_g 671 (by decide +kernel) (by decide +kernel)
theorem tw_679 : Cond.methodLink RX8 206 yX8_staysDry ∈ lw_g := in_g 679 (by decide +kernel) (by decide +kernel)
theorem tw_687 : Cond.methodLink RX8 212 yX2_append ∈ lw_g := in_g 687 (by decide +kernel) (by decide +kernel)
theorem tw_699 : Cond.methodLink RX8 216 yX2_findFault ∈ lw_g := in_g 699 (by decide +kernel) (by decide +kernel)
theorem tw_703 : Cond.methodLink RX2 41 yX2_accepts ∈ lw_g := in_g 703 (by decide +kernel) (by decide +kernel)
theorem tw_707 : Cond.methodLink RX2 49 yX2_endsTime ∈ lw_g := in_g 707 (by decide +kernel) (by decide +kernel)
theorem tw_711 : Cond.methodLink RX2 52 yX2_isDigitUpTo ∈ lw_g := in_g 711 (by decide +kernel) (by decide +kernel)
theorem tw_715 : Cond.methodLink RX2 56 yX2_endsSet ∈ lw_g := in_g 715 (by decide +kernel) (by decide +kernel)
theorem tw_719 : Cond.methodLink RX2 59 yX2_isLetter ∈ lw_g := in_g 719 (by decide +kernel) (by decide +kernel)
theorem tw_723 : Cond.methodLink RX2 45 yX2_endsCue ∈ lw_g := in_g 723 (by decide +kernel) (by decide +kernel)
theorem tw_727 : Cond.methodLink RX2 62 yX0_insert ∈ lw_g := in_g 727 (by decide +kernel) (by decide +kernel)
theorem tw_732 : Cond.constant RX8 219 90000 ∈ lw_g := in_g 732 (by decide +kernel) (by decide +kernel)
theorem tw_737 : Cond.methodLink RX8 223 yX8_slotAt ∈ lw_g := in_g 737 (by decide +kernel) (by decide +kernel)
theorem tw_751 : Cond.methodLink RX9 29 yX9_begin ∈ lw_g := in_g 751 (by decide +kernel) (by decide +kernel)
theorem tw_755 : Cond.fieldLink RX9 7 RX9 (TX9 0).2.1 (TX9 0).2.2.1 ∈ lw_g := in_g 755 (by decide +kernel) (by decide +kernel)
theorem tw_756 : Cond.fieldLink RX9 13 RX9 (TX9 1).2.1 (TX9 1).2.2.1 ∈ lw_g := in_g 756 (by decide +kernel) (by decide +kernel)
theorem tw_757 : Cond.fieldLink RX9 16 RX9 (TX9 2).2.1 (TX9 2).2.2.1 ∈ lw_g := in_g 757 (by decide +kernel) (by decide +kernel)
theorem tw_758 : Cond.fieldLink RX9 19 RX9 (TX9 3).2.1 (TX9 3).2.2.1 ∈ lw_g := in_g 758 (by decide +kernel) (by decide +kernel)
theorem tw_759 : Cond.fieldLink RX9 23 RX9 (TX9 4).2.1 (TX9 4).2.2.1 ∈ lw_g := in_g 759 (by decide +kernel) (by decide +kernel)
theorem tw_760 : Cond.fieldLink RX9 111 RX9 (TX9 5).2.1 (TX9 5).2.2.1 ∈ lw_g := in_g 760 (by decide +kernel) (by decide +kernel)
theorem tw_761 : Cond.fieldLink RX9 133 RX9 (TX9 6).2.1 (TX9 6).2.2.1 ∈ lw_g := in_g 761 (by decide +kernel) (by decide +kernel)
theorem tw_762 : Cond.fieldLink RX9 136 RX9 (TX9 7).2.1 (TX9 7).2.2.1 ∈ lw_g := in_g 762 (by decide +kernel) (by decide +kernel)
theorem tw_763 : Cond.fieldLink RX9 26 RX9 (TX9 8).2.1 (TX9 8).2.2.1 ∈ lw_g := in_g 763 (by decide +kernel) (by decide +kernel)
theorem tw_764 : Cond.fieldLink RX9 143 RX9 (TX9 9).2.1 (TX9 9).2.2.1 ∈ lw_g := in_g 764 (by decide +kernel) (by decide +kernel)
theorem tw_791 : Cond.methodLink RX9 33 yX9_in ∈ lw_g := in_g 791 (by decide +kernel) (by decide +kernel)
theorem tw_798 : Cond.methodLink RX9 37 yX9_isNozzle ∈ lw_g := in_g 798 (by decide +kernel) (by decide +kernel)
theorem tw_802 : Cond.methodLink RX9 41 yX9_isOfNozzle ∈ lw_g := in_g 802 (by decide +kernel) (by decide +kernel)
theorem tw_805 : Cond.methodLink RX9 45 yX9_change ∈ lw_g := in_g 805 (by decide +kernel) (by decide +kernel)
theorem tw_813 : Cond.methodLink RX9 49 yX9_isPump ∈ lw_g := in_g 813 (by decide +kernel) (by decide +kernel)
theorem tw_820 : Cond.methodLink RX9 52 yX9_isOfShow ∈ lw_g := in_g 820 (by decide +kernel) (by decide +kernel)
theorem tw_831 : Cond.constant RX9 62 100000 ∈ lw_g := in_g 831 (by decide +kernel) (by decide +kernel)
theorem tw_832 : Cond.methodLink RX9 63 yX9_isCommand ∈ lw_g := in_g 832 (by decide +kernel) (by decide +kernel)
theorem tw_835 : Cond.methodLink RX9 66 yX9_insert ∈ lw_g := in_g 835 (by decide +kernel) (by decide +kernel)
theorem tw_839 : Cond.methodLink RX9 55 yX9_ofCue ∈ lw_g := in_g 839 (by decide +kernel) (by decide +kernel)
theorem tw_843 : Cond.methodLink RX9 58 yX9_layCue ∈ lw_g := in_g 843 (by decide +kernel) (by decide +kernel)
theorem tw_851 : Cond.methodLink RX9 70 yX9_isCue ∈ lw_g := in_g 851 (by decide +kernel) (by decide +kernel)
theorem tw_855 : Cond.methodLink RX9 73 yX9_takeOut ∈ lw_g := in_g 855 (by decide +kernel) (by decide +kernel)
theorem tw_863 : Cond.constant RX9 76 (-100000) ∈ lw_g := in_g 863 (by decide +kernel) (by decide +kernel)
theorem tw_864 : Cond.methodLink RX9 77 yX9_shift ∈ lw_g := in_g 864 (by decide +kernel) (by decide +kernel)
theorem tw_876 : Cond.methodLink RX9 85 yX9_carryOut ∈ lw_g := in_g 876 (by decide +kernel) (by decide +kernel)
theorem tw_884 : Cond.constant RX9 102 200000 ∈ lw_g := in_g 884 (by decide +kernel) (by decide +kernel)
theorem tw_885 : Cond.methodLink RX9 103 yX9_makeTick ∈ lw_g := in_g 885 (by decide +kernel) (by decide +kernel)
theorem tw_889 : Cond.methodLink RX9 89 yX9_stepWind ∈ lw_g := in_g 889 (by decide +kernel) (by decide +kernel)
theorem tw_893 : Cond.methodLink RX9 92 yX9_goal ∈ lw_g := in_g 893 (by decide +kernel) (by decide +kernel)
theorem tw_897 : Cond.methodLink RX9 80 yX9_toward ∈ lw_g := in_g 897 (by decide +kernel) (by decide +kernel)
theorem tw_900 : Cond.methodLink RX9 96 yX9_stepPump ∈ lw_g := in_g 900 (by decide +kernel) (by decide +kernel)
theorem tw_904 : Cond.methodLink RX9 99 yX9_stepNozzle ∈ lw_g := in_g 904 (by decide +kernel) (by decide +kernel)
theorem tw_908 : Cond.constantLong RX9 83 1000000 ∈ lw_g := in_g 908 (by decide +kernel) (by decide +kernel)
theorem tw_934 : Cond.methodLink RX9 107 yX9_nextCue ∈ lw_g := in_g 934 (by decide +kernel) (by decide +kernel)
theorem tw_942 : Cond.methodLink RX9 115 yX9_putAside ∈ lw_g := in_g 942 (by decide +kernel) (by decide +kernel)
theorem tw_946 : Cond.methodLink RX9 118 yX9_greatestNow ∈ lw_g := in_g 946 (by decide +kernel) (by decide +kernel)
theorem tw_950 : Cond.methodLink RX9 121 yX9_putBack ∈ lw_g := in_g 950 (by decide +kernel) (by decide +kernel)
theorem tw_958 : Cond.methodLink RX9 127 yX9_isEnough ∈ lw_g := in_g 958 (by decide +kernel) (by decide +kernel)
theorem tw_962 : Cond.methodLink RX9 124 yX9_shorts ∈ lw_g := in_g 962 (by decide +kernel) (by decide +kernel)
theorem tw_970 : Cond.methodLink RX9 130 yX9_staysDry ∈ lw_g := in_g 970 (by decide +kernel) (by decide +kernel)
theorem tw_986 : Cond.methodLink RX9 155 yX9_takeCue ∈ lw_g := in_g 986 (by decide +kernel) (by decide +kernel)
theorem tw_990 : Cond.methodLink RX9 146 yX9_takeNumber ∈ lw_g := in_g 990 (by decide +kernel) (by decide +kernel)
theorem tw_994 : Cond.methodLink RX9 140 yX9_next ∈ lw_g := in_g 994 (by decide +kernel) (by decide +kernel)
theorem tw_998 : Cond.methodLink RX9 149 yX9_need ∈ lw_g := in_g 998 (by decide +kernel) (by decide +kernel)
theorem tw_1002 : Cond.methodLink RX9 152 yX9_takeSet ∈ lw_g := in_g 1002 (by decide +kernel) (by decide +kernel)
theorem tw_1010 : Cond.methodLink RX9 158 yX9_fault ∈ lw_g := in_g 1010 (by decide +kernel) (by decide +kernel)
theorem tw_1011 : Cond.constant RX9 161 90000 ∈ lw_g := in_g 1011 (by decide +kernel) (by decide +kernel)
theorem tn_367 : Cond.methodLinkNest RX1 65 yX8_clear RX8 ∈ lw_n := in_n 367 (by decide +kernel) (by decide +kernel)
theorem tn_374 : Cond.methodLinkNest RX3 39 yX8_clear RX8 ∈ lw_n := in_n 374 (by decide +kernel) (by decide +kernel)
theorem tn_387 : Cond.methodLinkNest RX1 58 yX8_within RX8 ∈ lw_n := in_n 387 (by decide +kernel) (by decide +kernel)
theorem tn_392 : Cond.methodLinkNest RX4 43 yX8_within RX8 ∈ lw_n := in_n 392 (by decide +kernel) (by decide +kernel)
theorem tn_431 : Cond.methodLinkNest RX0 25 yX8_within RX8 ∈ lw_n := in_n 431 (by decide +kernel) (by decide +kernel)
theorem tn_492 : Cond.methodLinkNest RX7 30 yX8_quotient RX8 ∈ lw_n := in_n 492 (by decide +kernel) (by decide +kernel)
theorem tn_524 : Cond.methodLinkNest RX1 102 yX8_toward RX8 ∈ lw_n := in_n 524 (by decide +kernel) (by decide +kernel)
theorem tn_543 : Cond.methodLinkNest RX3 66 yX8_toward RX8 ∈ lw_n := in_n 543 (by decide +kernel) (by decide +kernel)
theorem tn_548 : Cond.methodLinkNest RX1 109 yX8_quotient RX8 ∈ lw_n := in_n 548 (by decide +kernel) (by decide +kernel)
theorem tn_613 : Cond.methodLinkNest RX4 47 yX8_copyRow RX8 ∈ lw_n := in_n 613 (by decide +kernel) (by decide +kernel)
theorem tn_622 : Cond.methodLinkNest RX1 73 yX8_copyRow RX8 ∈ lw_n := in_n 622 (by decide +kernel) (by decide +kernel)
theorem tn_628 : Cond.methodLinkNest RX3 47 yX8_copyRow RX8 ∈ lw_n := in_n 628 (by decide +kernel) (by decide +kernel)
theorem tn_637 : Cond.methodLinkNest RX0 29 yX8_copyRow RX8 ∈ lw_n := in_n 637 (by decide +kernel) (by decide +kernel)
theorem twac_n : Cond.native arraycopyName ∈ lw_g := in_g 94 (by decide +kernel) (by decide +kernel)
theorem twac_s : Cond.static arraycopyName ∈ lw_g := in_g 93 (by decide +kernel) (by decide +kernel)
theorem twac_i : Cond.initialized "java/lang/System" ∈ lw_g := in_g 51 (by decide +kernel) (by decide +kernel)
theorem twm_i : Cond.initialized "java/lang/Math" ∈ lw_g := in_g 50 (by decide +kernel) (by decide +kernel)
theorem twm_max_s : Cond.static Lib.Math.max.name ∈ lw_g := in_g 86 (by decide +kernel) (by decide +kernel)
theorem twm_max_c : Cond.code Lib.Math.max.name Lib.Math.max.code 2 (some .int) ∈ lw_g := in_g 87 (by decide +kernel) (by decide +kernel)
theorem twm_min_s : Cond.static Lib.Math.min.name ∈ lw_g := in_g 522 (by decide +kernel) (by decide +kernel)
theorem twm_min_c : Cond.code Lib.Math.min.name Lib.Math.min.code 2 (some .int) ∈ lw_g := in_g 523 (by decide +kernel) (by decide +kernel)
theorem wyX8_within : Wy yX8_within cX8_within 3 ((some FieldType.boolean)) 3 := ⟨in_g 348 (by decide +kernel) (by decide +kernel), in_g 47 (by decide +kernel) (by decide +kernel), by decide +kernel, by decide +kernel, by decide +kernel⟩
theorem tsX8_within : Cond.static yX8_within ∈ lw_g := in_g 347 (by decide +kernel) (by decide +kernel)
theorem wyX0_has : Wy yX0_has cX0_has 2 ((some FieldType.boolean)) 1 := ⟨in_g 430 (by decide +kernel) (by decide +kernel), in_g 55 (by decide +kernel) (by decide +kernel), by decide +kernel, by decide +kernel, by decide +kernel⟩
theorem tvX0_has_i : Cond.instanceMethod yX0_has ∈ lw_g := in_g 428 (by decide +kernel) (by decide +kernel)
theorem tvX0_has_s : Cond.selects yX0_has.cls yX0_has yX0_has ∈ lw_g := in_g 429 (by decide +kernel) (by decide +kernel)
theorem wyX8_copyRow : Wy yX8_copyRow cX8_copyRow 2 none 2 := ⟨in_g 615 (by decide +kernel) (by decide +kernel), in_g 47 (by decide +kernel) (by decide +kernel), by decide +kernel, by decide +kernel, by decide +kernel⟩
theorem tsX8_copyRow : Cond.static yX8_copyRow ∈ lw_g := in_g 614 (by decide +kernel) (by decide +kernel)
theorem wyX0_copy : Wy yX0_copy cX0_copy 2 none 1 := ⟨in_g 636 (by decide +kernel) (by decide +kernel), in_g 55 (by decide +kernel) (by decide +kernel), by decide +kernel, by decide +kernel, by decide +kernel⟩
theorem tvX0_copy_i : Cond.instanceMethod yX0_copy ∈ lw_g := in_g 634 (by decide +kernel) (by decide +kernel)
theorem tvX0_copy_s : Cond.selects yX0_copy.cls yX0_copy yX0_copy ∈ lw_g := in_g 635 (by decide +kernel) (by decide +kernel)
theorem wyX0_next : Wy yX0_next cX0_next 3 ((some FieldType.int)) 1 := ⟨in_g 417 (by decide +kernel) (by decide +kernel), in_g 55 (by decide +kernel) (by decide +kernel), by decide +kernel, by decide +kernel, by decide +kernel⟩
theorem tvX0_next_i : Cond.instanceMethod yX0_next ∈ lw_g := in_g 415 (by decide +kernel) (by decide +kernel)
theorem tvX0_next_s : Cond.selects yX0_next.cls yX0_next yX0_next ∈ lw_g := in_g 416 (by decide +kernel) (by decide +kernel)
theorem wyX0_shift : Wy yX0_shift cX0_shift 4 none 3 := ⟨in_g 421 (by decide +kernel) (by decide +kernel), in_g 55 (by decide +kernel) (by decide +kernel), by decide +kernel, by decide +kernel, by decide +kernel⟩
theorem tvX0_shift_i : Cond.instanceMethod yX0_shift ∈ lw_g := in_g 420 (by decide +kernel) (by decide +kernel)
theorem tvX0_shift_s : Cond.selects yX0_shift.cls yX0_shift yX0_shift ∈ lw_g := in_g 0 (by decide +kernel) (by decide +kernel)
theorem wyX0_insert : Wy yX0_insert cX0_insert 5 ((some FieldType.int)) 3 := ⟨in_g 413 (by decide +kernel) (by decide +kernel), in_g 55 (by decide +kernel) (by decide +kernel), by decide +kernel, by decide +kernel, by decide +kernel⟩
theorem tvX0_insert_i : Cond.instanceMethod yX0_insert ∈ lw_g := in_g 411 (by decide +kernel) (by decide +kernel)
theorem tvX0_insert_s : Cond.selects yX0_insert.cls yX0_insert yX0_insert ∈ lw_g := in_g 412 (by decide +kernel) (by decide +kernel)
theorem wyX0_takeOut : Wy yX0_takeOut cX0_takeOut 2 none 1 := ⟨in_g 435 (by decide +kernel) (by decide +kernel), in_g 55 (by decide +kernel) (by decide +kernel), by decide +kernel, by decide +kernel, by decide +kernel⟩
theorem tvX0_takeOut_i : Cond.instanceMethod yX0_takeOut ∈ lw_g := in_g 433 (by decide +kernel) (by decide +kernel)
theorem tvX0_takeOut_s : Cond.selects yX0_takeOut.cls yX0_takeOut yX0_takeOut ∈ lw_g := in_g 434 (by decide +kernel) (by decide +kernel)
theorem wyX0_postpone : Wy yX0_postpone cX0_postpone 6 ((some FieldType.int)) 2 := ⟨in_g 444 (by decide +kernel) (by decide +kernel), in_g 55 (by decide +kernel) (by decide +kernel), by decide +kernel, by decide +kernel, by decide +kernel⟩
theorem tvX0_postpone_i : Cond.instanceMethod yX0_postpone ∈ lw_g := in_g 442 (by decide +kernel) (by decide +kernel)
theorem tvX0_postpone_s : Cond.selects yX0_postpone.cls yX0_postpone yX0_postpone ∈ lw_g := in_g 443 (by decide +kernel) (by decide +kernel)
theorem wyX1_obey : Wy yX1_obey cX1_obey 4 none 2 := ⟨in_g 458 (by decide +kernel) (by decide +kernel), in_g 52 (by decide +kernel) (by decide +kernel), by decide +kernel, by decide +kernel, by decide +kernel⟩
theorem tvX1_obey_i : Cond.instanceMethod yX1_obey ∈ lw_g := in_g 456 (by decide +kernel) (by decide +kernel)
theorem tvX1_obey_s : Cond.selects yX1_obey.cls yX1_obey yX1_obey ∈ lw_g := in_g 457 (by decide +kernel) (by decide +kernel)
theorem wyX0_carryOut : Wy yX0_carryOut cX0_carryOut 4 none 2 := ⟨in_g 471 (by decide +kernel) (by decide +kernel), in_g 55 (by decide +kernel) (by decide +kernel), by decide +kernel, by decide +kernel, by decide +kernel⟩
theorem tvX0_carryOut_i : Cond.instanceMethod yX0_carryOut ∈ lw_g := in_g 469 (by decide +kernel) (by decide +kernel)
theorem tvX0_carryOut_s : Cond.selects yX0_carryOut.cls yX0_carryOut yX0_carryOut ∈ lw_g := in_g 470 (by decide +kernel) (by decide +kernel)
theorem wyX1_has : Wy yX1_has cX1_has 2 ((some FieldType.boolean)) 1 := ⟨in_g 386 (by decide +kernel) (by decide +kernel), in_g 52 (by decide +kernel) (by decide +kernel), by decide +kernel, by decide +kernel, by decide +kernel⟩
theorem tvX1_has_i : Cond.instanceMethod yX1_has ∈ lw_g := in_g 384 (by decide +kernel) (by decide +kernel)
theorem tvX1_has_s : Cond.selects yX1_has.cls yX1_has yX1_has ∈ lw_g := in_g 385 (by decide +kernel) (by decide +kernel)
theorem wyX4_reset : Wy yX4_reset cX4_reset 2 none 0 := ⟨in_g 91 (by decide +kernel) (by decide +kernel), in_g 49 (by decide +kernel) (by decide +kernel), by decide +kernel, by decide +kernel, by decide +kernel⟩
theorem tvX4_reset_i : Cond.instanceMethod yX4_reset ∈ lw_g := in_g 89 (by decide +kernel) (by decide +kernel)
theorem tvX4_reset_s : Cond.selects yX4_reset.cls yX4_reset yX4_reset ∈ lw_g := in_g 90 (by decide +kernel) (by decide +kernel)
theorem wyX1_begin : Wy yX1_begin cX1_begin 2 none 1 := ⟨in_g 357 (by decide +kernel) (by decide +kernel), in_g 52 (by decide +kernel) (by decide +kernel), by decide +kernel, by decide +kernel, by decide +kernel⟩
theorem tvX1_begin_i : Cond.instanceMethod yX1_begin ∈ lw_g := in_g 355 (by decide +kernel) (by decide +kernel)
theorem tvX1_begin_s : Cond.selects yX1_begin.cls yX1_begin yX1_begin ∈ lw_g := in_g 356 (by decide +kernel) (by decide +kernel)
theorem wyX8_clear : Wy yX8_clear cX8_clear 2 none 1 := ⟨in_g 369 (by decide +kernel) (by decide +kernel), in_g 47 (by decide +kernel) (by decide +kernel), by decide +kernel, by decide +kernel, by decide +kernel⟩
theorem tsX8_clear : Cond.static yX8_clear ∈ lw_g := in_g 368 (by decide +kernel) (by decide +kernel)
theorem wyX1_goBack : Wy yX1_goBack cX1_goBack 1 none 0 := ⟨in_g 366 (by decide +kernel) (by decide +kernel), in_g 52 (by decide +kernel) (by decide +kernel), by decide +kernel, by decide +kernel, by decide +kernel⟩
theorem tvX1_goBack_i : Cond.instanceMethod yX1_goBack ∈ lw_g := in_g 364 (by decide +kernel) (by decide +kernel)
theorem tvX1_goBack_s : Cond.selects yX1_goBack.cls yX1_goBack yX1_goBack ∈ lw_g := in_g 365 (by decide +kernel) (by decide +kernel)
theorem wyX4_copy : Wy yX4_copy cX4_copy 2 none 1 := ⟨in_g 612 (by decide +kernel) (by decide +kernel), in_g 49 (by decide +kernel) (by decide +kernel), by decide +kernel, by decide +kernel, by decide +kernel⟩
theorem tvX4_copy_i : Cond.instanceMethod yX4_copy ∈ lw_g := in_g 610 (by decide +kernel) (by decide +kernel)
theorem tvX4_copy_s : Cond.selects yX4_copy.cls yX4_copy yX4_copy ∈ lw_g := in_g 611 (by decide +kernel) (by decide +kernel)
theorem wyX1_copy : Wy yX1_copy cX1_copy 2 none 1 := ⟨in_g 620 (by decide +kernel) (by decide +kernel), in_g 52 (by decide +kernel) (by decide +kernel), by decide +kernel, by decide +kernel, by decide +kernel⟩
theorem tvX1_copy_i : Cond.instanceMethod yX1_copy ∈ lw_g := in_g 618 (by decide +kernel) (by decide +kernel)
theorem tvX1_copy_s : Cond.selects yX1_copy.cls yX1_copy yX1_copy ∈ lw_g := in_g 619 (by decide +kernel) (by decide +kernel)
theorem wyJ9_floorMod_7cf53 : Wy yJ9_floorMod_7cf53 cJ9_floorMod_7cf53 3 ((some FieldType.int)) 2 := ⟨in_g 482 (by decide +kernel) (by decide +kernel), in_g 50 (by decide +kernel) (by decide +kernel), by decide +kernel, by decide +kernel, by decide +kernel⟩
theorem tsJ9_floorMod_7cf53 : Cond.static yJ9_floorMod_7cf53 ∈ lw_g := in_g 481 (by decide +kernel) (by decide +kernel)
theorem wyX1_rowOf : Wy yX1_rowOf cX1_rowOf 1 ((some FieldType.int)) 1 := ⟨in_g 479 (by decide +kernel) (by decide +kernel), in_g 52 (by decide +kernel) (by decide +kernel), by decide +kernel, by decide +kernel, by decide +kernel⟩
theorem tsX1_rowOf : Cond.static yX1_rowOf ∈ lw_g := in_g 478 (by decide +kernel) (by decide +kernel)
theorem wyX1_keepCommands : Wy yX1_keepCommands cX1_keepCommands 2 none 1 := ⟨in_g 476 (by decide +kernel) (by decide +kernel), in_g 52 (by decide +kernel) (by decide +kernel), by decide +kernel, by decide +kernel, by decide +kernel⟩
theorem tvX1_keepCommands_i : Cond.instanceMethod yX1_keepCommands ∈ lw_g := in_g 474 (by decide +kernel) (by decide +kernel)
theorem tvX1_keepCommands_s : Cond.selects yX1_keepCommands.cls yX1_keepCommands yX1_keepCommands ∈ lw_g := in_g 475 (by decide +kernel) (by decide +kernel)
theorem wyX1_commandAt : Wy yX1_commandAt cX1_commandAt 3 ((some FieldType.int)) 2 := ⟨in_g 519 (by decide +kernel) (by decide +kernel), in_g 52 (by decide +kernel) (by decide +kernel), by decide +kernel, by decide +kernel, by decide +kernel⟩
theorem tvX1_commandAt_i : Cond.instanceMethod yX1_commandAt ∈ lw_g := in_g 518 (by decide +kernel) (by decide +kernel)
theorem tvX1_commandAt_s : Cond.selects yX1_commandAt.cls yX1_commandAt yX1_commandAt ∈ lw_g := in_g 3 (by decide +kernel) (by decide +kernel)
theorem wyX4_value : Wy yX4_value cX4_value 4 ((some FieldType.int)) 2 := ⟨in_g 491 (by decide +kernel) (by decide +kernel), in_g 49 (by decide +kernel) (by decide +kernel), by decide +kernel, by decide +kernel, by decide +kernel⟩
theorem tvX4_value_i : Cond.instanceMethod yX4_value ∈ lw_g := in_g 489 (by decide +kernel) (by decide +kernel)
theorem tvX4_value_s : Cond.selects yX4_value.cls yX4_value yX4_value ∈ lw_g := in_g 490 (by decide +kernel) (by decide +kernel)
theorem wyX8_toward : Wy yX8_toward cX8_toward 3 ((some FieldType.int)) 3 := ⟨in_g 526 (by decide +kernel) (by decide +kernel), in_g 47 (by decide +kernel) (by decide +kernel), by decide +kernel, by decide +kernel, by decide +kernel⟩
theorem tsX8_toward : Cond.static yX8_toward ∈ lw_g := in_g 525 (by decide +kernel) (by decide +kernel)
theorem wyX1_open : Wy yX1_open cX1_open 6 none 3 := ⟨in_g 514 (by decide +kernel) (by decide +kernel), in_g 52 (by decide +kernel) (by decide +kernel), by decide +kernel, by decide +kernel, by decide +kernel⟩
theorem tvX1_open_i : Cond.instanceMethod yX1_open ∈ lw_g := in_g 512 (by decide +kernel) (by decide +kernel)
theorem tvX1_open_s : Cond.selects yX1_open.cls yX1_open yX1_open ∈ lw_g := in_g 513 (by decide +kernel) (by decide +kernel)
theorem wyX1_demandAt : Wy yX1_demandAt cX1_demandAt 2 ((some FieldType.int)) 1 := ⟨in_g 540 (by decide +kernel) (by decide +kernel), in_g 52 (by decide +kernel) (by decide +kernel), by decide +kernel, by decide +kernel, by decide +kernel⟩
theorem tvX1_demandAt_i : Cond.instanceMethod yX1_demandAt ∈ lw_g := in_g 539 (by decide +kernel) (by decide +kernel)
theorem tvX1_demandAt_s : Cond.selects yX1_demandAt.cls yX1_demandAt yX1_demandAt ∈ lw_g := in_g 4 (by decide +kernel) (by decide +kernel)
theorem wyX1_demandOf : Wy yX1_demandOf cX1_demandOf 4 ((some FieldType.int)) 1 := ⟨in_g 536 (by decide +kernel) (by decide +kernel), in_g 52 (by decide +kernel) (by decide +kernel), by decide +kernel, by decide +kernel, by decide +kernel⟩
theorem tvX1_demandOf_i : Cond.instanceMethod yX1_demandOf ∈ lw_g := in_g 534 (by decide +kernel) (by decide +kernel)
theorem tvX1_demandOf_s : Cond.selects yX1_demandOf.cls yX1_demandOf yX1_demandOf ∈ lw_g := in_g 535 (by decide +kernel) (by decide +kernel)
theorem wyJ9_floorDiv_f86c9 : Wy yJ9_floorDiv_f86c9 cJ9_floorDiv_f86c9 6 ((some FieldType.long)) 2 := ⟨in_g 497 (by decide +kernel) (by decide +kernel), in_g 50 (by decide +kernel) (by decide +kernel), by decide +kernel, by decide +kernel, by decide +kernel⟩
theorem tsJ9_floorDiv_f86c9 : Cond.static yJ9_floorDiv_f86c9 ∈ lw_g := in_g 496 (by decide +kernel) (by decide +kernel)
theorem wyX8_quotient : Wy yX8_quotient cX8_quotient 4 ((some FieldType.long)) 2 := ⟨in_g 494 (by decide +kernel) (by decide +kernel), in_g 47 (by decide +kernel) (by decide +kernel), by decide +kernel, by decide +kernel, by decide +kernel⟩
theorem tsX8_quotient : Cond.static yX8_quotient ∈ lw_g := in_g 493 (by decide +kernel) (by decide +kernel)
theorem wyX1_flow : Wy yX1_flow cX1_flow 6 none 3 := ⟨in_g 547 (by decide +kernel) (by decide +kernel), in_g 52 (by decide +kernel) (by decide +kernel), by decide +kernel, by decide +kernel, by decide +kernel⟩
theorem tvX1_flow_i : Cond.instanceMethod yX1_flow ∈ lw_g := in_g 545 (by decide +kernel) (by decide +kernel)
theorem tvX1_flow_s : Cond.selects yX1_flow.cls yX1_flow yX1_flow ∈ lw_g := in_g 546 (by decide +kernel) (by decide +kernel)
theorem wyX1_rise : Wy yX1_rise cX1_rise 5 none 1 := ⟨in_g 553 (by decide +kernel) (by decide +kernel), in_g 52 (by decide +kernel) (by decide +kernel), by decide +kernel, by decide +kernel, by decide +kernel⟩
theorem tvX1_rise_i : Cond.instanceMethod yX1_rise ∈ lw_g := in_g 551 (by decide +kernel) (by decide +kernel)
theorem tvX1_rise_s : Cond.selects yX1_rise.cls yX1_rise yX1_rise ∈ lw_g := in_g 552 (by decide +kernel) (by decide +kernel)
theorem wyX1_driftsBeyond : Wy yX1_driftsBeyond cX1_driftsBeyond 3 ((some FieldType.boolean)) 1 := ⟨in_g 567 (by decide +kernel) (by decide +kernel), in_g 52 (by decide +kernel) (by decide +kernel), by decide +kernel, by decide +kernel, by decide +kernel⟩
theorem tvX1_driftsBeyond_i : Cond.instanceMethod yX1_driftsBeyond ∈ lw_g := in_g 565 (by decide +kernel) (by decide +kernel)
theorem tvX1_driftsBeyond_s : Cond.selects yX1_driftsBeyond.cls yX1_driftsBeyond yX1_driftsBeyond ∈ lw_g := in_g 566 (by decide +kernel) (by decide +kernel)
theorem wyX1_sumOfHeights : Wy yX1_sumOfHeights cX1_sumOfHeights 3 ((some FieldType.int)) 0 := ⟨in_g 594 (by decide +kernel) (by decide +kernel), in_g 52 (by decide +kernel) (by decide +kernel), by decide +kernel, by decide +kernel, by decide +kernel⟩
theorem tvX1_sumOfHeights_i : Cond.instanceMethod yX1_sumOfHeights ∈ lw_g := in_g 592 (by decide +kernel) (by decide +kernel)
theorem tvX1_sumOfHeights_s : Cond.selects yX1_sumOfHeights.cls yX1_sumOfHeights yX1_sumOfHeights ∈ lw_g := in_g 593 (by decide +kernel) (by decide +kernel)
theorem wyX1_greatestHeightNow : Wy yX1_greatestHeightNow cX1_greatestHeightNow 3 ((some FieldType.int)) 0 := ⟨in_g 662 (by decide +kernel) (by decide +kernel), in_g 52 (by decide +kernel) (by decide +kernel), by decide +kernel, by decide +kernel, by decide +kernel⟩
theorem tvX1_greatestHeightNow_i : Cond.instanceMethod yX1_greatestHeightNow ∈ lw_g := in_g 660 (by decide +kernel) (by decide +kernel)
theorem tvX1_greatestHeightNow_s : Cond.selects yX1_greatestHeightNow.cls yX1_greatestHeightNow yX1_greatestHeightNow ∈ lw_g := in_g 661 (by decide +kernel) (by decide +kernel)
theorem wyX2_append : Wy yX2_append cX2_append 2 ((some FieldType.int)) 1 := ⟨in_g 690 (by decide +kernel) (by decide +kernel), in_g 57 (by decide +kernel) (by decide +kernel), by decide +kernel, by decide +kernel, by decide +kernel⟩
theorem tvX2_append_i : Cond.instanceMethod yX2_append ∈ lw_g := in_g 688 (by decide +kernel) (by decide +kernel)
theorem tvX2_append_s : Cond.selects yX2_append.cls yX2_append yX2_append ∈ lw_g := in_g 689 (by decide +kernel) (by decide +kernel)
theorem wyX2_endsCue : Wy yX2_endsCue cX2_endsCue 1 ((some FieldType.boolean)) 0 := ⟨in_g 726 (by decide +kernel) (by decide +kernel), in_g 57 (by decide +kernel) (by decide +kernel), by decide +kernel, by decide +kernel, by decide +kernel⟩
theorem tvX2_endsCue_i : Cond.instanceMethod yX2_endsCue ∈ lw_g := in_g 725 (by decide +kernel) (by decide +kernel)
theorem tvX2_endsCue_s : Cond.selects yX2_endsCue.cls yX2_endsCue yX2_endsCue ∈ lw_g := in_g 17 (by decide +kernel) (by decide +kernel)
theorem wyX2_endsSet : Wy yX2_endsSet cX2_endsSet 1 ((some FieldType.boolean)) 0 := ⟨in_g 718 (by decide +kernel) (by decide +kernel), in_g 57 (by decide +kernel) (by decide +kernel), by decide +kernel, by decide +kernel, by decide +kernel⟩
theorem tvX2_endsSet_i : Cond.instanceMethod yX2_endsSet ∈ lw_g := in_g 717 (by decide +kernel) (by decide +kernel)
theorem tvX2_endsSet_s : Cond.selects yX2_endsSet.cls yX2_endsSet yX2_endsSet ∈ lw_g := in_g 15 (by decide +kernel) (by decide +kernel)
theorem wyX2_endsTime : Wy yX2_endsTime cX2_endsTime 1 ((some FieldType.boolean)) 0 := ⟨in_g 710 (by decide +kernel) (by decide +kernel), in_g 57 (by decide +kernel) (by decide +kernel), by decide +kernel, by decide +kernel, by decide +kernel⟩
theorem tvX2_endsTime_i : Cond.instanceMethod yX2_endsTime ∈ lw_g := in_g 709 (by decide +kernel) (by decide +kernel)
theorem tvX2_endsTime_s : Cond.selects yX2_endsTime.cls yX2_endsTime yX2_endsTime ∈ lw_g := in_g 13 (by decide +kernel) (by decide +kernel)
theorem wyX2_isDigitUpTo : Wy yX2_isDigitUpTo cX2_isDigitUpTo 4 ((some FieldType.boolean)) 2 := ⟨in_g 714 (by decide +kernel) (by decide +kernel), in_g 57 (by decide +kernel) (by decide +kernel), by decide +kernel, by decide +kernel, by decide +kernel⟩
theorem tvX2_isDigitUpTo_i : Cond.instanceMethod yX2_isDigitUpTo ∈ lw_g := in_g 713 (by decide +kernel) (by decide +kernel)
theorem tvX2_isDigitUpTo_s : Cond.selects yX2_isDigitUpTo.cls yX2_isDigitUpTo yX2_isDigitUpTo ∈ lw_g := in_g 14 (by decide +kernel) (by decide +kernel)
theorem wyX2_isLetter : Wy yX2_isLetter cX2_isLetter 4 ((some FieldType.boolean)) 1 := ⟨in_g 722 (by decide +kernel) (by decide +kernel), in_g 57 (by decide +kernel) (by decide +kernel), by decide +kernel, by decide +kernel, by decide +kernel⟩
theorem tvX2_isLetter_i : Cond.instanceMethod yX2_isLetter ∈ lw_g := in_g 721 (by decide +kernel) (by decide +kernel)
theorem tvX2_isLetter_s : Cond.selects yX2_isLetter.cls yX2_isLetter yX2_isLetter ∈ lw_g := in_g 16 (by decide +kernel) (by decide +kernel)
theorem wyX2_accepts : Wy yX2_accepts cX2_accepts 2 ((some FieldType.boolean)) 1 := ⟨in_g 706 (by decide +kernel) (by decide +kernel), in_g 57 (by decide +kernel) (by decide +kernel), by decide +kernel, by decide +kernel, by decide +kernel⟩
theorem tvX2_accepts_i : Cond.instanceMethod yX2_accepts ∈ lw_g := in_g 705 (by decide +kernel) (by decide +kernel)
theorem tvX2_accepts_s : Cond.selects yX2_accepts.cls yX2_accepts yX2_accepts ∈ lw_g := in_g 12 (by decide +kernel) (by decide +kernel)
theorem wyX2_findFault : Wy yX2_findFault cX2_findFault 2 ((some FieldType.int)) 0 := ⟨in_g 702 (by decide +kernel) (by decide +kernel), in_g 57 (by decide +kernel) (by decide +kernel), by decide +kernel, by decide +kernel, by decide +kernel⟩
theorem tvX2_findFault_i : Cond.instanceMethod yX2_findFault ∈ lw_g := in_g 700 (by decide +kernel) (by decide +kernel)
theorem tvX2_findFault_s : Cond.selects yX2_findFault.cls yX2_findFault yX2_findFault ∈ lw_g := in_g 701 (by decide +kernel) (by decide +kernel)
theorem wyX3_goBack : Wy yX3_goBack cX3_goBack 1 none 0 := ⟨in_g 373 (by decide +kernel) (by decide +kernel), in_g 53 (by decide +kernel) (by decide +kernel), by decide +kernel, by decide +kernel, by decide +kernel⟩
theorem tvX3_goBack_i : Cond.instanceMethod yX3_goBack ∈ lw_g := in_g 371 (by decide +kernel) (by decide +kernel)
theorem tvX3_goBack_s : Cond.selects yX3_goBack.cls yX3_goBack yX3_goBack ∈ lw_g := in_g 372 (by decide +kernel) (by decide +kernel)
theorem wyX3_copy : Wy yX3_copy cX3_copy 2 none 1 := ⟨in_g 626 (by decide +kernel) (by decide +kernel), in_g 53 (by decide +kernel) (by decide +kernel), by decide +kernel, by decide +kernel, by decide +kernel⟩
theorem tvX3_copy_i : Cond.instanceMethod yX3_copy ∈ lw_g := in_g 624 (by decide +kernel) (by decide +kernel)
theorem tvX3_copy_s : Cond.selects yX3_copy.cls yX3_copy yX3_copy ∈ lw_g := in_g 625 (by decide +kernel) (by decide +kernel)
theorem wyX3_supply : Wy yX3_supply cX3_supply 4 none 1 := ⟨in_g 532 (by decide +kernel) (by decide +kernel), in_g 53 (by decide +kernel) (by decide +kernel), by decide +kernel, by decide +kernel, by decide +kernel⟩
theorem tvX3_supply_i : Cond.instanceMethod yX3_supply ∈ lw_g := in_g 530 (by decide +kernel) (by decide +kernel)
theorem tvX3_supply_s : Cond.selects yX3_supply.cls yX3_supply yX3_supply ∈ lw_g := in_g 531 (by decide +kernel) (by decide +kernel)
theorem wyX3_isShort : Wy yX3_isShort cX3_isShort 2 ((some FieldType.boolean)) 1 := ⟨in_g 563 (by decide +kernel) (by decide +kernel), in_g 53 (by decide +kernel) (by decide +kernel), by decide +kernel, by decide +kernel, by decide +kernel⟩
theorem tvX3_isShort_i : Cond.instanceMethod yX3_isShort ∈ lw_g := in_g 561 (by decide +kernel) (by decide +kernel)
theorem tvX3_isShort_s : Cond.selects yX3_isShort.cls yX3_isShort yX3_isShort ∈ lw_g := in_g 562 (by decide +kernel) (by decide +kernel)
theorem wyX3_countShort : Wy yX3_countShort cX3_countShort 2 none 0 := ⟨in_g 559 (by decide +kernel) (by decide +kernel), in_g 53 (by decide +kernel) (by decide +kernel), by decide +kernel, by decide +kernel, by decide +kernel⟩
theorem tvX3_countShort_i : Cond.instanceMethod yX3_countShort ∈ lw_g := in_g 557 (by decide +kernel) (by decide +kernel)
theorem tvX3_countShort_s : Cond.selects yX3_countShort.cls yX3_countShort yX3_countShort ∈ lw_g := in_g 558 (by decide +kernel) (by decide +kernel)
theorem wyX3_someShort : Wy yX3_someShort cX3_someShort 2 ((some FieldType.boolean)) 0 := ⟨in_g 674 (by decide +kernel) (by decide +kernel), in_g 53 (by decide +kernel) (by decide +kernel), by decide +kernel, by decide +kernel, by decide +kernel⟩
theorem tvX3_someShort_i : Cond.instanceMethod yX3_someShort ∈ lw_g := in_g 672 (by decide +kernel) (by decide +kernel)
theorem tvX3_someShort_s : Cond.selects yX3_someShort.cls yX3_someShort yX3_someShort ∈ lw_g := in_g 673 (by decide +kernel) (by decide +kernel)
theorem wyX4_change : Wy yX4_change cX4_change 6 ((some FieldType.int)) 3 := ⟨in_g 391 (by decide +kernel) (by decide +kernel), in_g 49 (by decide +kernel) (by decide +kernel), by decide +kernel, by decide +kernel, by decide +kernel⟩
theorem tvX4_change_i : Cond.instanceMethod yX4_change ∈ lw_g := in_g 389 (by decide +kernel) (by decide +kernel)
theorem tvX4_change_s : Cond.selects yX4_change.cls yX4_change yX4_change ∈ lw_g := in_g 390 (by decide +kernel) (by decide +kernel)
theorem wyX7_goBack : Wy yX7_goBack cX7_goBack 1 none 0 := ⟨in_g 378 (by decide +kernel) (by decide +kernel), in_g 54 (by decide +kernel) (by decide +kernel), by decide +kernel, by decide +kernel, by decide +kernel⟩
theorem tvX7_goBack_i : Cond.instanceMethod yX7_goBack ∈ lw_g := in_g 376 (by decide +kernel) (by decide +kernel)
theorem tvX7_goBack_s : Cond.selects yX7_goBack.cls yX7_goBack yX7_goBack ∈ lw_g := in_g 377 (by decide +kernel) (by decide +kernel)
theorem wyX5_goBack : Wy yX5_goBack cX5_goBack 1 none 0 := ⟨in_g 362 (by decide +kernel) (by decide +kernel), in_g 48 (by decide +kernel) (by decide +kernel), by decide +kernel, by decide +kernel, by decide +kernel⟩
theorem tvX5_goBack_i : Cond.instanceMethod yX5_goBack ∈ lw_g := in_g 360 (by decide +kernel) (by decide +kernel)
theorem tvX5_goBack_s : Cond.selects yX5_goBack.cls yX5_goBack yX5_goBack ∈ lw_g := in_g 361 (by decide +kernel) (by decide +kernel)
theorem wyX5_begin : Wy yX5_begin cX5_begin 2 none 1 := ⟨in_g 352 (by decide +kernel) (by decide +kernel), in_g 48 (by decide +kernel) (by decide +kernel), by decide +kernel, by decide +kernel, by decide +kernel⟩
theorem tvX5_begin_i : Cond.instanceMethod yX5_begin ∈ lw_g := in_g 350 (by decide +kernel) (by decide +kernel)
theorem tvX5_begin_s : Cond.selects yX5_begin.cls yX5_begin yX5_begin ∈ lw_g := in_g 351 (by decide +kernel) (by decide +kernel)
theorem wyX7_copy : Wy yX7_copy cX7_copy 2 none 1 := ⟨in_g 632 (by decide +kernel) (by decide +kernel), in_g 54 (by decide +kernel) (by decide +kernel), by decide +kernel, by decide +kernel, by decide +kernel⟩
theorem tvX7_copy_i : Cond.instanceMethod yX7_copy ∈ lw_g := in_g 630 (by decide +kernel) (by decide +kernel)
theorem tvX7_copy_s : Cond.selects yX7_copy.cls yX7_copy yX7_copy ∈ lw_g := in_g 631 (by decide +kernel) (by decide +kernel)
theorem wyX5_copy : Wy yX5_copy cX5_copy 2 none 1 := ⟨in_g 608 (by decide +kernel) (by decide +kernel), in_g 48 (by decide +kernel) (by decide +kernel), by decide +kernel, by decide +kernel, by decide +kernel⟩
theorem tvX5_copy_i : Cond.instanceMethod yX5_copy ∈ lw_g := in_g 606 (by decide +kernel) (by decide +kernel)
theorem tvX5_copy_s : Cond.selects yX5_copy.cls yX5_copy yX5_copy ∈ lw_g := in_g 607 (by decide +kernel) (by decide +kernel)
theorem wyX7_enter : Wy yX7_enter cX7_enter 2 none 1 := ⟨in_g 505 (by decide +kernel) (by decide +kernel), in_g 54 (by decide +kernel) (by decide +kernel), by decide +kernel, by decide +kernel, by decide +kernel⟩
theorem tvX7_enter_i : Cond.instanceMethod yX7_enter ∈ lw_g := in_g 504 (by decide +kernel) (by decide +kernel)
theorem tvX7_enter_s : Cond.selects yX7_enter.cls yX7_enter yX7_enter ∈ lw_g := in_g 1 (by decide +kernel) (by decide +kernel)
theorem wyX7_calmDown : Wy yX7_calmDown cX7_calmDown 2 none 1 := ⟨in_g 509 (by decide +kernel) (by decide +kernel), in_g 54 (by decide +kernel) (by decide +kernel), by decide +kernel, by decide +kernel, by decide +kernel⟩
theorem tvX7_calmDown_i : Cond.instanceMethod yX7_calmDown ∈ lw_g := in_g 508 (by decide +kernel) (by decide +kernel)
theorem tvX7_calmDown_s : Cond.selects yX7_calmDown.cls yX7_calmDown yX7_calmDown ∈ lw_g := in_g 2 (by decide +kernel) (by decide +kernel)
theorem wyX7_measured : Wy yX7_measured cX7_measured 1 ((some FieldType.int)) 0 := ⟨in_g 501 (by decide +kernel) (by decide +kernel), in_g 54 (by decide +kernel) (by decide +kernel), by decide +kernel, by decide +kernel, by decide +kernel⟩
theorem tvX7_measured_i : Cond.instanceMethod yX7_measured ∈ lw_g := in_g 499 (by decide +kernel) (by decide +kernel)
theorem tvX7_measured_s : Cond.selects yX7_measured.cls yX7_measured yX7_measured ∈ lw_g := in_g 500 (by decide +kernel) (by decide +kernel)
theorem wyX7_blow : Wy yX7_blow cX7_blow 4 none 1 := ⟨in_g 487 (by decide +kernel) (by decide +kernel), in_g 54 (by decide +kernel) (by decide +kernel), by decide +kernel, by decide +kernel, by decide +kernel⟩
theorem tvX7_blow_i : Cond.instanceMethod yX7_blow ∈ lw_g := in_g 485 (by decide +kernel) (by decide +kernel)
theorem tvX7_blow_s : Cond.selects yX7_blow.cls yX7_blow yX7_blow ∈ lw_g := in_g 486 (by decide +kernel) (by decide +kernel)
theorem wyX5_makeTick : Wy yX5_makeTick cX5_makeTick 1 none 0 := ⟨in_g 467 (by decide +kernel) (by decide +kernel), in_g 48 (by decide +kernel) (by decide +kernel), by decide +kernel, by decide +kernel, by decide +kernel⟩
theorem tvX5_makeTick_i : Cond.instanceMethod yX5_makeTick ∈ lw_g := in_g 465 (by decide +kernel) (by decide +kernel)
theorem tvX5_makeTick_s : Cond.selects yX5_makeTick.cls yX5_makeTick yX5_makeTick ∈ lw_g := in_g 466 (by decide +kernel) (by decide +kernel)
theorem wyX8_setUp : Wy yX8_setUp cX8_setUp 3 ((some FieldType.int)) 1 := ⟨in_g 345 (by decide +kernel) (by decide +kernel), in_g 47 (by decide +kernel) (by decide +kernel), by decide +kernel, by decide +kernel, by decide +kernel⟩
theorem tvX8_setUp_i : Cond.instanceMethod yX8_setUp ∈ lw_g := in_g 343 (by decide +kernel) (by decide +kernel)
theorem tvX8_setUp_s : Cond.selects yX8_setUp.cls yX8_setUp yX8_setUp ∈ lw_g := in_g 344 (by decide +kernel) (by decide +kernel)
theorem wyX8_nozzle : Wy yX8_nozzle cX8_nozzle 4 ((some FieldType.int)) 3 := ⟨in_g 382 (by decide +kernel) (by decide +kernel), in_g 47 (by decide +kernel) (by decide +kernel), by decide +kernel, by decide +kernel, by decide +kernel⟩
theorem tvX8_nozzle_i : Cond.instanceMethod yX8_nozzle ∈ lw_g := in_g 380 (by decide +kernel) (by decide +kernel)
theorem tvX8_nozzle_s : Cond.selects yX8_nozzle.cls yX8_nozzle yX8_nozzle ∈ lw_g := in_g 381 (by decide +kernel) (by decide +kernel)
theorem wyX8_pump : Wy yX8_pump cX8_pump 4 ((some FieldType.int)) 3 := ⟨in_g 396 (by decide +kernel) (by decide +kernel), in_g 47 (by decide +kernel) (by decide +kernel), by decide +kernel, by decide +kernel, by decide +kernel⟩
theorem tvX8_pump_i : Cond.instanceMethod yX8_pump ∈ lw_g := in_g 394 (by decide +kernel) (by decide +kernel)
theorem tvX8_pump_s : Cond.selects yX8_pump.cls yX8_pump yX8_pump ∈ lw_g := in_g 395 (by decide +kernel) (by decide +kernel)
theorem wyX8_set : Wy yX8_set cX8_set 3 ((some FieldType.int)) 2 := ⟨in_g 400 (by decide +kernel) (by decide +kernel), in_g 47 (by decide +kernel) (by decide +kernel), by decide +kernel, by decide +kernel, by decide +kernel⟩
theorem tvX8_set_i : Cond.instanceMethod yX8_set ∈ lw_g := in_g 398 (by decide +kernel) (by decide +kernel)
theorem tvX8_set_s : Cond.selects yX8_set.cls yX8_set yX8_set ∈ lw_g := in_g 399 (by decide +kernel) (by decide +kernel)
theorem wyX8_wind : Wy yX8_wind cX8_wind 3 ((some FieldType.int)) 1 := ⟨in_g 404 (by decide +kernel) (by decide +kernel), in_g 47 (by decide +kernel) (by decide +kernel), by decide +kernel, by decide +kernel, by decide +kernel⟩
theorem tvX8_wind_i : Cond.instanceMethod yX8_wind ∈ lw_g := in_g 402 (by decide +kernel) (by decide +kernel)
theorem tvX8_wind_s : Cond.selects yX8_wind.cls yX8_wind yX8_wind ∈ lw_g := in_g 403 (by decide +kernel) (by decide +kernel)
theorem wyX8_cue : Wy yX8_cue cX8_cue 4 ((some FieldType.int)) 3 := ⟨in_g 408 (by decide +kernel) (by decide +kernel), in_g 47 (by decide +kernel) (by decide +kernel), by decide +kernel, by decide +kernel, by decide +kernel⟩
theorem tvX8_cue_i : Cond.instanceMethod yX8_cue ∈ lw_g := in_g 406 (by decide +kernel) (by decide +kernel)
theorem tvX8_cue_s : Cond.selects yX8_cue.cls yX8_cue yX8_cue ∈ lw_g := in_g 407 (by decide +kernel) (by decide +kernel)
theorem wyX8_remove : Wy yX8_remove cX8_remove 2 ((some FieldType.int)) 1 := ⟨in_g 426 (by decide +kernel) (by decide +kernel), in_g 47 (by decide +kernel) (by decide +kernel), by decide +kernel, by decide +kernel, by decide +kernel⟩
theorem tvX8_remove_i : Cond.instanceMethod yX8_remove ∈ lw_g := in_g 424 (by decide +kernel) (by decide +kernel)
theorem tvX8_remove_s : Cond.selects yX8_remove.cls yX8_remove yX8_remove ∈ lw_g := in_g 425 (by decide +kernel) (by decide +kernel)
theorem wyX8_move : Wy yX8_move cX8_move 3 ((some FieldType.int)) 2 := ⟨in_g 439 (by decide +kernel) (by decide +kernel), in_g 47 (by decide +kernel) (by decide +kernel), by decide +kernel, by decide +kernel, by decide +kernel⟩
theorem tvX8_move_i : Cond.instanceMethod yX8_move ∈ lw_g := in_g 437 (by decide +kernel) (by decide +kernel)
theorem tvX8_move_s : Cond.selects yX8_move.cls yX8_move yX8_move ∈ lw_g := in_g 438 (by decide +kernel) (by decide +kernel)
theorem wyX8_part : Wy yX8_part cX8_part 3 ((some FieldType.int)) 2 := ⟨in_g 450 (by decide +kernel) (by decide +kernel), in_g 47 (by decide +kernel) (by decide +kernel), by decide +kernel, by decide +kernel, by decide +kernel⟩
theorem tvX8_part_i : Cond.instanceMethod yX8_part ∈ lw_g := in_g 448 (by decide +kernel) (by decide +kernel)
theorem tvX8_part_s : Cond.selects yX8_part.cls yX8_part yX8_part ∈ lw_g := in_g 449 (by decide +kernel) (by decide +kernel)
theorem wyX8_command : Wy yX8_command cX8_command 3 ((some FieldType.int)) 2 := ⟨in_g 454 (by decide +kernel) (by decide +kernel), in_g 47 (by decide +kernel) (by decide +kernel), by decide +kernel, by decide +kernel, by decide +kernel⟩
theorem tvX8_command_i : Cond.instanceMethod yX8_command ∈ lw_g := in_g 452 (by decide +kernel) (by decide +kernel)
theorem tvX8_command_s : Cond.selects yX8_command.cls yX8_command yX8_command ∈ lw_g := in_g 453 (by decide +kernel) (by decide +kernel)
theorem wyX8_tick : Wy yX8_tick cX8_tick 3 ((some FieldType.int)) 1 := ⟨in_g 462 (by decide +kernel) (by decide +kernel), in_g 47 (by decide +kernel) (by decide +kernel), by decide +kernel, by decide +kernel, by decide +kernel⟩
theorem tvX8_tick_i : Cond.instanceMethod yX8_tick ∈ lw_g := in_g 460 (by decide +kernel) (by decide +kernel)
theorem tvX8_tick_s : Cond.selects yX8_tick.cls yX8_tick yX8_tick ∈ lw_g := in_g 461 (by decide +kernel) (by decide +kernel)
theorem wyX8_rewind : Wy yX8_rewind cX8_rewind 2 ((some FieldType.int)) 0 := ⟨in_g 571 (by decide +kernel) (by decide +kernel), in_g 47 (by decide +kernel) (by decide +kernel), by decide +kernel, by decide +kernel, by decide +kernel⟩
theorem tvX8_rewind_i : Cond.instanceMethod yX8_rewind ∈ lw_g := in_g 569 (by decide +kernel) (by decide +kernel)
theorem tvX8_rewind_s : Cond.selects yX8_rewind.cls yX8_rewind yX8_rewind ∈ lw_g := in_g 570 (by decide +kernel) (by decide +kernel)
theorem wyX8_spray : Wy yX8_spray cX8_spray 3 ((some FieldType.int)) 2 := ⟨in_g 576 (by decide +kernel) (by decide +kernel), in_g 47 (by decide +kernel) (by decide +kernel), by decide +kernel, by decide +kernel, by decide +kernel⟩
theorem tvX8_spray_i : Cond.instanceMethod yX8_spray ∈ lw_g := in_g 574 (by decide +kernel) (by decide +kernel)
theorem tvX8_spray_s : Cond.selects yX8_spray.cls yX8_spray yX8_spray ∈ lw_g := in_g 575 (by decide +kernel) (by decide +kernel)
theorem wyX8_pressure : Wy yX8_pressure cX8_pressure 3 ((some FieldType.int)) 2 := ⟨in_g 581 (by decide +kernel) (by decide +kernel), in_g 47 (by decide +kernel) (by decide +kernel), by decide +kernel, by decide +kernel, by decide +kernel⟩
theorem tvX8_pressure_i : Cond.instanceMethod yX8_pressure ∈ lw_g := in_g 579 (by decide +kernel) (by decide +kernel)
theorem tvX8_pressure_s : Cond.selects yX8_pressure.cls yX8_pressure yX8_pressure ∈ lw_g := in_g 580 (by decide +kernel) (by decide +kernel)
theorem wyX8_state : Wy yX8_state cX8_state 2 ((some FieldType.int)) 1 := ⟨in_g 598 (by decide +kernel) (by decide +kernel), in_g 47 (by decide +kernel) (by decide +kernel), by decide +kernel, by decide +kernel, by decide +kernel⟩
theorem tvX8_state_i : Cond.instanceMethod yX8_state ∈ lw_g := in_g 596 (by decide +kernel) (by decide +kernel)
theorem tvX8_state_s : Cond.selects yX8_state.cls yX8_state yX8_state ∈ lw_g := in_g 597 (by decide +kernel) (by decide +kernel)
theorem wyX8_firstShort : Wy yX8_firstShort cX8_firstShort 4 ((some FieldType.int)) 2 := ⟨in_g 649 (by decide +kernel) (by decide +kernel), in_g 47 (by decide +kernel) (by decide +kernel), by decide +kernel, by decide +kernel, by decide +kernel⟩
theorem tvX8_firstShort_i : Cond.instanceMethod yX8_firstShort ∈ lw_g := in_g 648 (by decide +kernel) (by decide +kernel)
theorem tvX8_firstShort_s : Cond.selects yX8_firstShort.cls yX8_firstShort yX8_firstShort ∈ lw_g := in_g 7 (by decide +kernel) (by decide +kernel)
theorem wyX8_greatestDemand : Wy yX8_greatestDemand cX8_greatestDemand 5 ((some FieldType.int)) 2 := ⟨in_g 641 (by decide +kernel) (by decide +kernel), in_g 47 (by decide +kernel) (by decide +kernel), by decide +kernel, by decide +kernel, by decide +kernel⟩
theorem tvX8_greatestDemand_i : Cond.instanceMethod yX8_greatestDemand ∈ lw_g := in_g 640 (by decide +kernel) (by decide +kernel)
theorem tvX8_greatestDemand_s : Cond.selects yX8_greatestDemand.cls yX8_greatestDemand yX8_greatestDemand ∈ lw_g := in_g 5 (by decide +kernel) (by decide +kernel)
theorem wyX8_greatestHeight : Wy yX8_greatestHeight cX8_greatestHeight 4 ((some FieldType.int)) 1 := ⟨in_g 658 (by decide +kernel) (by decide +kernel), in_g 47 (by decide +kernel) (by decide +kernel), by decide +kernel, by decide +kernel, by decide +kernel⟩
theorem tvX8_greatestHeight_i : Cond.instanceMethod yX8_greatestHeight ∈ lw_g := in_g 657 (by decide +kernel) (by decide +kernel)
theorem tvX8_greatestHeight_s : Cond.selects yX8_greatestHeight.cls yX8_greatestHeight yX8_greatestHeight ∈ lw_g := in_g 9 (by decide +kernel) (by decide +kernel)
theorem wyX8_shortTicks : Wy yX8_shortTicks cX8_shortTicks 5 ((some FieldType.int)) 2 := ⟨in_g 645 (by decide +kernel) (by decide +kernel), in_g 47 (by decide +kernel) (by decide +kernel), by decide +kernel, by decide +kernel, by decide +kernel⟩
theorem tvX8_shortTicks_i : Cond.instanceMethod yX8_shortTicks ∈ lw_g := in_g 644 (by decide +kernel) (by decide +kernel)
theorem tvX8_shortTicks_s : Cond.selects yX8_shortTicks.cls yX8_shortTicks yX8_shortTicks ∈ lw_g := in_g 6 (by decide +kernel) (by decide +kernel)
theorem wyX8_wetTicks : Wy yX8_wetTicks cX8_wetTicks 4 ((some FieldType.int)) 1 := ⟨in_g 654 (by decide +kernel) (by decide +kernel), in_g 47 (by decide +kernel) (by decide +kernel), by decide +kernel, by decide +kernel, by decide +kernel⟩
theorem tvX8_wetTicks_i : Cond.instanceMethod yX8_wetTicks ∈ lw_g := in_g 653 (by decide +kernel) (by decide +kernel)
theorem tvX8_wetTicks_s : Cond.selects yX8_wetTicks.cls yX8_wetTicks yX8_wetTicks ∈ lw_g := in_g 8 (by decide +kernel) (by decide +kernel)
theorem wyX8_ahead : Wy yX8_ahead cX8_ahead 4 ((some FieldType.int)) 3 := ⟨in_g 604 (by decide +kernel) (by decide +kernel), in_g 47 (by decide +kernel) (by decide +kernel), by decide +kernel, by decide +kernel, by decide +kernel⟩
theorem tvX8_ahead_i : Cond.instanceMethod yX8_ahead ∈ lw_g := in_g 602 (by decide +kernel) (by decide +kernel)
theorem tvX8_ahead_s : Cond.selects yX8_ahead.cls yX8_ahead yX8_ahead ∈ lw_g := in_g 603 (by decide +kernel) (by decide +kernel)
theorem wyX8_staysSupplied : Wy yX8_staysSupplied cX8_staysSupplied 3 ((some FieldType.boolean)) 1 := ⟨in_g 670 (by decide +kernel) (by decide +kernel), in_g 47 (by decide +kernel) (by decide +kernel), by decide +kernel, by decide +kernel, by decide +kernel⟩
theorem tvX8_staysSupplied_i : Cond.instanceMethod yX8_staysSupplied ∈ lw_g := in_g 669 (by decide +kernel) (by decide +kernel)
theorem tvX8_staysSupplied_s : Cond.selects yX8_staysSupplied.cls yX8_staysSupplied yX8_staysSupplied ∈ lw_g := in_g 10 (by decide +kernel) (by decide +kernel)
theorem wyX8_delay : Wy yX8_delay cX8_delay 6 ((some FieldType.int)) 3 := ⟨in_g 666 (by decide +kernel) (by decide +kernel), in_g 47 (by decide +kernel) (by decide +kernel), by decide +kernel, by decide +kernel, by decide +kernel⟩
theorem tvX8_delay_i : Cond.instanceMethod yX8_delay ∈ lw_g := in_g 664 (by decide +kernel) (by decide +kernel)
theorem tvX8_delay_s : Cond.selects yX8_delay.cls yX8_delay yX8_delay ∈ lw_g := in_g 665 (by decide +kernel) (by decide +kernel)
theorem wyX8_staysDry : Wy yX8_staysDry cX8_staysDry 4 ((some FieldType.boolean)) 1 := ⟨in_g 682 (by decide +kernel) (by decide +kernel), in_g 47 (by decide +kernel) (by decide +kernel), by decide +kernel, by decide +kernel, by decide +kernel⟩
theorem tvX8_staysDry_i : Cond.instanceMethod yX8_staysDry ∈ lw_g := in_g 681 (by decide +kernel) (by decide +kernel)
theorem tvX8_staysDry_s : Cond.selects yX8_staysDry.cls yX8_staysDry yX8_staysDry ∈ lw_g := in_g 11 (by decide +kernel) (by decide +kernel)
theorem wyX8_safeCut : Wy yX8_safeCut cX8_safeCut 3 ((some FieldType.int)) 1 := ⟨in_g 678 (by decide +kernel) (by decide +kernel), in_g 47 (by decide +kernel) (by decide +kernel), by decide +kernel, by decide +kernel, by decide +kernel⟩
theorem tvX8_safeCut_i : Cond.instanceMethod yX8_safeCut ∈ lw_g := in_g 676 (by decide +kernel) (by decide +kernel)
theorem tvX8_safeCut_s : Cond.selects yX8_safeCut.cls yX8_safeCut yX8_safeCut ∈ lw_g := in_g 677 (by decide +kernel) (by decide +kernel)
theorem wyX8_say : Wy yX8_say cX8_say 2 ((some FieldType.int)) 1 := ⟨in_g 686 (by decide +kernel) (by decide +kernel), in_g 47 (by decide +kernel) (by decide +kernel), by decide +kernel, by decide +kernel, by decide +kernel⟩
theorem tvX8_say_i : Cond.instanceMethod yX8_say ∈ lw_g := in_g 684 (by decide +kernel) (by decide +kernel)
theorem tvX8_say_s : Cond.selects yX8_say.cls yX8_say yX8_say ∈ lw_g := in_g 685 (by decide +kernel) (by decide +kernel)
theorem wyX8_wipe : Wy yX8_wipe cX8_wipe 2 ((some FieldType.int)) 0 := ⟨in_g 694 (by decide +kernel) (by decide +kernel), in_g 47 (by decide +kernel) (by decide +kernel), by decide +kernel, by decide +kernel, by decide +kernel⟩
theorem tvX8_wipe_i : Cond.instanceMethod yX8_wipe ∈ lw_g := in_g 692 (by decide +kernel) (by decide +kernel)
theorem tvX8_wipe_s : Cond.selects yX8_wipe.cls yX8_wipe yX8_wipe ∈ lw_g := in_g 693 (by decide +kernel) (by decide +kernel)
theorem wyX8_fault : Wy yX8_fault cX8_fault 1 ((some FieldType.int)) 0 := ⟨in_g 698 (by decide +kernel) (by decide +kernel), in_g 47 (by decide +kernel) (by decide +kernel), by decide +kernel, by decide +kernel, by decide +kernel⟩
theorem tvX8_fault_i : Cond.instanceMethod yX8_fault ∈ lw_g := in_g 696 (by decide +kernel) (by decide +kernel)
theorem tvX8_fault_s : Cond.selects yX8_fault.cls yX8_fault yX8_fault ∈ lw_g := in_g 697 (by decide +kernel) (by decide +kernel)
theorem wyX8_read : Wy yX8_read cX8_read 4 ((some FieldType.int)) 1 := ⟨in_g 731 (by decide +kernel) (by decide +kernel), in_g 47 (by decide +kernel) (by decide +kernel), by decide +kernel, by decide +kernel, by decide +kernel⟩
theorem tvX8_read_i : Cond.instanceMethod yX8_read ∈ lw_g := in_g 729 (by decide +kernel) (by decide +kernel)
theorem tvX8_read_s : Cond.selects yX8_read.cls yX8_read yX8_read ∈ lw_g := in_g 730 (by decide +kernel) (by decide +kernel)
theorem wyX8_slotAt : Wy yX8_slotAt cX8_slotAt 2 ((some (FieldType.object "FountainShow$Slot"))) 1 := ⟨in_g 740 (by decide +kernel) (by decide +kernel), in_g 47 (by decide +kernel) (by decide +kernel), by decide +kernel, by decide +kernel, by decide +kernel⟩
theorem tvX8_slotAt_i : Cond.instanceMethod yX8_slotAt ∈ lw_g := in_g 739 (by decide +kernel) (by decide +kernel)
theorem tvX8_slotAt_s : Cond.selects yX8_slotAt.cls yX8_slotAt yX8_slotAt ∈ lw_g := in_g 18 (by decide +kernel) (by decide +kernel)
theorem wyX8_save : Wy yX8_save cX8_save 3 ((some FieldType.int)) 1 := ⟨in_g 736 (by decide +kernel) (by decide +kernel), in_g 47 (by decide +kernel) (by decide +kernel), by decide +kernel, by decide +kernel, by decide +kernel⟩
theorem tvX8_save_i : Cond.instanceMethod yX8_save ∈ lw_g := in_g 734 (by decide +kernel) (by decide +kernel)
theorem tvX8_save_s : Cond.selects yX8_save.cls yX8_save yX8_save ∈ lw_g := in_g 735 (by decide +kernel) (by decide +kernel)
theorem wyX8_restore : Wy yX8_restore cX8_restore 3 ((some FieldType.int)) 1 := ⟨in_g 744 (by decide +kernel) (by decide +kernel), in_g 47 (by decide +kernel) (by decide +kernel), by decide +kernel, by decide +kernel, by decide +kernel⟩
theorem tvX8_restore_i : Cond.instanceMethod yX8_restore ∈ lw_g := in_g 742 (by decide +kernel) (by decide +kernel)
theorem tvX8_restore_s : Cond.selects yX8_restore.cls yX8_restore yX8_restore ∈ lw_g := in_g 743 (by decide +kernel) (by decide +kernel)
theorem wyX9_in : Wy yX9_in cX9_in 3 ((some FieldType.boolean)) 3 := ⟨in_g 793 (by decide +kernel) (by decide +kernel), in_g 58 (by decide +kernel) (by decide +kernel), by decide +kernel, by decide +kernel, by decide +kernel⟩
theorem tsX9_in : Cond.static yX9_in ∈ lw_g := in_g 792 (by decide +kernel) (by decide +kernel)
theorem wyX9_begin : Wy yX9_begin cX9_begin 3 none 1 := ⟨in_g 754 (by decide +kernel) (by decide +kernel), in_g 58 (by decide +kernel) (by decide +kernel), by decide +kernel, by decide +kernel, by decide +kernel⟩
theorem tvX9_begin_i : Cond.instanceMethod yX9_begin ∈ lw_g := in_g 753 (by decide +kernel) (by decide +kernel)
theorem tvX9_begin_s : Cond.selects yX9_begin.cls yX9_begin yX9_begin ∈ lw_g := in_g 19 (by decide +kernel) (by decide +kernel)
theorem wyX9_putAside : Wy yX9_putAside cX9_putAside 2 none 0 := ⟨in_g 945 (by decide +kernel) (by decide +kernel), in_g 58 (by decide +kernel) (by decide +kernel), by decide +kernel, by decide +kernel, by decide +kernel⟩
theorem tvX9_putAside_i : Cond.instanceMethod yX9_putAside ∈ lw_g := in_g 944 (by decide +kernel) (by decide +kernel)
theorem tvX9_putAside_s : Cond.selects yX9_putAside.cls yX9_putAside yX9_putAside ∈ lw_g := in_g 35 (by decide +kernel) (by decide +kernel)
theorem wyX9_putBack : Wy yX9_putBack cX9_putBack 2 none 0 := ⟨in_g 953 (by decide +kernel) (by decide +kernel), in_g 58 (by decide +kernel) (by decide +kernel), by decide +kernel, by decide +kernel, by decide +kernel⟩
theorem tvX9_putBack_i : Cond.instanceMethod yX9_putBack ∈ lw_g := in_g 952 (by decide +kernel) (by decide +kernel)
theorem tvX9_putBack_s : Cond.selects yX9_putBack.cls yX9_putBack yX9_putBack ∈ lw_g := in_g 37 (by decide +kernel) (by decide +kernel)
theorem wyX9_isNozzle : Wy yX9_isNozzle cX9_isNozzle 2 ((some FieldType.boolean)) 1 := ⟨in_g 801 (by decide +kernel) (by decide +kernel), in_g 58 (by decide +kernel) (by decide +kernel), by decide +kernel, by decide +kernel, by decide +kernel⟩
theorem tvX9_isNozzle_i : Cond.instanceMethod yX9_isNozzle ∈ lw_g := in_g 800 (by decide +kernel) (by decide +kernel)
theorem tvX9_isNozzle_s : Cond.selects yX9_isNozzle.cls yX9_isNozzle yX9_isNozzle ∈ lw_g := in_g 20 (by decide +kernel) (by decide +kernel)
theorem wyX9_isPump : Wy yX9_isPump cX9_isPump 1 ((some FieldType.boolean)) 1 := ⟨in_g 815 (by decide +kernel) (by decide +kernel), in_g 58 (by decide +kernel) (by decide +kernel), by decide +kernel, by decide +kernel, by decide +kernel⟩
theorem tsX9_isPump : Cond.static yX9_isPump ∈ lw_g := in_g 814 (by decide +kernel) (by decide +kernel)
theorem wyX9_setUp : Wy yX9_setUp cX9_setUp 3 ((some FieldType.int)) 1 := ⟨in_g 790 (by decide +kernel) (by decide +kernel), in_g 58 (by decide +kernel) (by decide +kernel), by decide +kernel, by decide +kernel, by decide +kernel⟩
theorem tvX9_setUp_i : Cond.instanceMethod yX9_setUp ∈ lw_g := in_g 788 (by decide +kernel) (by decide +kernel)
theorem tvX9_setUp_s : Cond.selects yX9_setUp.cls yX9_setUp yX9_setUp ∈ lw_g := in_g 789 (by decide +kernel) (by decide +kernel)
theorem wyX9_change : Wy yX9_change cX9_change 4 ((some FieldType.int)) 2 := ⟨in_g 808 (by decide +kernel) (by decide +kernel), in_g 58 (by decide +kernel) (by decide +kernel), by decide +kernel, by decide +kernel, by decide +kernel⟩
theorem tvX9_change_i : Cond.instanceMethod yX9_change ∈ lw_g := in_g 807 (by decide +kernel) (by decide +kernel)
theorem tvX9_change_s : Cond.selects yX9_change.cls yX9_change yX9_change ∈ lw_g := in_g 21 (by decide +kernel) (by decide +kernel)
theorem wyX9_isOfNozzle : Wy yX9_isOfNozzle cX9_isOfNozzle 2 ((some FieldType.boolean)) 2 := ⟨in_g 804 (by decide +kernel) (by decide +kernel), in_g 58 (by decide +kernel) (by decide +kernel), by decide +kernel, by decide +kernel, by decide +kernel⟩
theorem tsX9_isOfNozzle : Cond.static yX9_isOfNozzle ∈ lw_g := in_g 803 (by decide +kernel) (by decide +kernel)
theorem wyX9_nozzle : Wy yX9_nozzle cX9_nozzle 4 ((some FieldType.int)) 3 := ⟨in_g 797 (by decide +kernel) (by decide +kernel), in_g 58 (by decide +kernel) (by decide +kernel), by decide +kernel, by decide +kernel, by decide +kernel⟩
theorem tvX9_nozzle_i : Cond.instanceMethod yX9_nozzle ∈ lw_g := in_g 795 (by decide +kernel) (by decide +kernel)
theorem tvX9_nozzle_s : Cond.selects yX9_nozzle.cls yX9_nozzle yX9_nozzle ∈ lw_g := in_g 796 (by decide +kernel) (by decide +kernel)
theorem wyX9_pump : Wy yX9_pump cX9_pump 5 ((some FieldType.int)) 3 := ⟨in_g 812 (by decide +kernel) (by decide +kernel), in_g 58 (by decide +kernel) (by decide +kernel), by decide +kernel, by decide +kernel, by decide +kernel⟩
theorem tvX9_pump_i : Cond.instanceMethod yX9_pump ∈ lw_g := in_g 810 (by decide +kernel) (by decide +kernel)
theorem tvX9_pump_s : Cond.selects yX9_pump.cls yX9_pump yX9_pump ∈ lw_g := in_g 811 (by decide +kernel) (by decide +kernel)
theorem wyX9_isOfShow : Wy yX9_isOfShow cX9_isOfShow 2 ((some FieldType.boolean)) 2 := ⟨in_g 822 (by decide +kernel) (by decide +kernel), in_g 58 (by decide +kernel) (by decide +kernel), by decide +kernel, by decide +kernel, by decide +kernel⟩
theorem tsX9_isOfShow : Cond.static yX9_isOfShow ∈ lw_g := in_g 821 (by decide +kernel) (by decide +kernel)
theorem wyX9_set : Wy yX9_set cX9_set 3 ((some FieldType.int)) 2 := ⟨in_g 819 (by decide +kernel) (by decide +kernel), in_g 58 (by decide +kernel) (by decide +kernel), by decide +kernel, by decide +kernel, by decide +kernel⟩
theorem tvX9_set_i : Cond.instanceMethod yX9_set ∈ lw_g := in_g 817 (by decide +kernel) (by decide +kernel)
theorem tvX9_set_s : Cond.selects yX9_set.cls yX9_set yX9_set ∈ lw_g := in_g 818 (by decide +kernel) (by decide +kernel)
theorem wyX9_wind : Wy yX9_wind cX9_wind 2 ((some FieldType.int)) 1 := ⟨in_g 826 (by decide +kernel) (by decide +kernel), in_g 58 (by decide +kernel) (by decide +kernel), by decide +kernel, by decide +kernel, by decide +kernel⟩
theorem tvX9_wind_i : Cond.instanceMethod yX9_wind ∈ lw_g := in_g 824 (by decide +kernel) (by decide +kernel)
theorem tvX9_wind_s : Cond.selects yX9_wind.cls yX9_wind yX9_wind ∈ lw_g := in_g 825 (by decide +kernel) (by decide +kernel)
theorem wyX9_ofCue : Wy yX9_ofCue cX9_ofCue 3 ((some FieldType.int)) 2 := ⟨in_g 842 (by decide +kernel) (by decide +kernel), in_g 58 (by decide +kernel) (by decide +kernel), by decide +kernel, by decide +kernel, by decide +kernel⟩
theorem tvX9_ofCue_i : Cond.instanceMethod yX9_ofCue ∈ lw_g := in_g 841 (by decide +kernel) (by decide +kernel)
theorem tvX9_ofCue_s : Cond.selects yX9_ofCue.cls yX9_ofCue yX9_ofCue ∈ lw_g := in_g 23 (by decide +kernel) (by decide +kernel)
theorem wyX9_layCue : Wy yX9_layCue cX9_layCue 5 none 4 := ⟨in_g 846 (by decide +kernel) (by decide +kernel), in_g 58 (by decide +kernel) (by decide +kernel), by decide +kernel, by decide +kernel, by decide +kernel⟩
theorem tvX9_layCue_i : Cond.instanceMethod yX9_layCue ∈ lw_g := in_g 845 (by decide +kernel) (by decide +kernel)
theorem tvX9_layCue_s : Cond.selects yX9_layCue.cls yX9_layCue yX9_layCue ∈ lw_g := in_g 24 (by decide +kernel) (by decide +kernel)
theorem wyX9_insert : Wy yX9_insert cX9_insert 5 ((some FieldType.int)) 3 := ⟨in_g 838 (by decide +kernel) (by decide +kernel), in_g 58 (by decide +kernel) (by decide +kernel), by decide +kernel, by decide +kernel, by decide +kernel⟩
theorem tvX9_insert_i : Cond.instanceMethod yX9_insert ∈ lw_g := in_g 837 (by decide +kernel) (by decide +kernel)
theorem tvX9_insert_s : Cond.selects yX9_insert.cls yX9_insert yX9_insert ∈ lw_g := in_g 22 (by decide +kernel) (by decide +kernel)
theorem wyX9_takeOut : Wy yX9_takeOut cX9_takeOut 3 none 1 := ⟨in_g 858 (by decide +kernel) (by decide +kernel), in_g 58 (by decide +kernel) (by decide +kernel), by decide +kernel, by decide +kernel, by decide +kernel⟩
theorem tvX9_takeOut_i : Cond.instanceMethod yX9_takeOut ∈ lw_g := in_g 857 (by decide +kernel) (by decide +kernel)
theorem tvX9_takeOut_s : Cond.selects yX9_takeOut.cls yX9_takeOut yX9_takeOut ∈ lw_g := in_g 26 (by decide +kernel) (by decide +kernel)
theorem wyX9_isCommand : Wy yX9_isCommand cX9_isCommand 2 ((some FieldType.boolean)) 2 := ⟨in_g 834 (by decide +kernel) (by decide +kernel), in_g 58 (by decide +kernel) (by decide +kernel), by decide +kernel, by decide +kernel, by decide +kernel⟩
theorem tsX9_isCommand : Cond.static yX9_isCommand ∈ lw_g := in_g 833 (by decide +kernel) (by decide +kernel)
theorem wyX9_cue : Wy yX9_cue cX9_cue 4 ((some FieldType.int)) 3 := ⟨in_g 830 (by decide +kernel) (by decide +kernel), in_g 58 (by decide +kernel) (by decide +kernel), by decide +kernel, by decide +kernel, by decide +kernel⟩
theorem tvX9_cue_i : Cond.instanceMethod yX9_cue ∈ lw_g := in_g 828 (by decide +kernel) (by decide +kernel)
theorem tvX9_cue_s : Cond.selects yX9_cue.cls yX9_cue yX9_cue ∈ lw_g := in_g 829 (by decide +kernel) (by decide +kernel)
theorem wyX9_isCue : Wy yX9_isCue cX9_isCue 2 ((some FieldType.boolean)) 1 := ⟨in_g 854 (by decide +kernel) (by decide +kernel), in_g 58 (by decide +kernel) (by decide +kernel), by decide +kernel, by decide +kernel, by decide +kernel⟩
theorem tvX9_isCue_i : Cond.instanceMethod yX9_isCue ∈ lw_g := in_g 853 (by decide +kernel) (by decide +kernel)
theorem tvX9_isCue_s : Cond.selects yX9_isCue.cls yX9_isCue yX9_isCue ∈ lw_g := in_g 25 (by decide +kernel) (by decide +kernel)
theorem wyX9_remove : Wy yX9_remove cX9_remove 2 ((some FieldType.int)) 1 := ⟨in_g 850 (by decide +kernel) (by decide +kernel), in_g 58 (by decide +kernel) (by decide +kernel), by decide +kernel, by decide +kernel, by decide +kernel⟩
theorem tvX9_remove_i : Cond.instanceMethod yX9_remove ∈ lw_g := in_g 848 (by decide +kernel) (by decide +kernel)
theorem tvX9_remove_s : Cond.selects yX9_remove.cls yX9_remove yX9_remove ∈ lw_g := in_g 849 (by decide +kernel) (by decide +kernel)
theorem wyX9_shift : Wy yX9_shift cX9_shift 6 ((some FieldType.int)) 2 := ⟨in_g 867 (by decide +kernel) (by decide +kernel), in_g 58 (by decide +kernel) (by decide +kernel), by decide +kernel, by decide +kernel, by decide +kernel⟩
theorem tvX9_shift_i : Cond.instanceMethod yX9_shift ∈ lw_g := in_g 866 (by decide +kernel) (by decide +kernel)
theorem tvX9_shift_s : Cond.selects yX9_shift.cls yX9_shift yX9_shift ∈ lw_g := in_g 27 (by decide +kernel) (by decide +kernel)
theorem wyX9_move : Wy yX9_move cX9_move 3 ((some FieldType.int)) 2 := ⟨in_g 862 (by decide +kernel) (by decide +kernel), in_g 58 (by decide +kernel) (by decide +kernel), by decide +kernel, by decide +kernel, by decide +kernel⟩
theorem tvX9_move_i : Cond.instanceMethod yX9_move ∈ lw_g := in_g 860 (by decide +kernel) (by decide +kernel)
theorem tvX9_move_s : Cond.selects yX9_move.cls yX9_move yX9_move ∈ lw_g := in_g 861 (by decide +kernel) (by decide +kernel)
theorem wyX9_part : Wy yX9_part cX9_part 3 ((some FieldType.int)) 2 := ⟨in_g 871 (by decide +kernel) (by decide +kernel), in_g 58 (by decide +kernel) (by decide +kernel), by decide +kernel, by decide +kernel, by decide +kernel⟩
theorem tvX9_part_i : Cond.instanceMethod yX9_part ∈ lw_g := in_g 869 (by decide +kernel) (by decide +kernel)
theorem tvX9_part_s : Cond.selects yX9_part.cls yX9_part yX9_part ∈ lw_g := in_g 870 (by decide +kernel) (by decide +kernel)
theorem wyX9_carryOut : Wy yX9_carryOut cX9_carryOut 4 none 2 := ⟨in_g 879 (by decide +kernel) (by decide +kernel), in_g 58 (by decide +kernel) (by decide +kernel), by decide +kernel, by decide +kernel, by decide +kernel⟩
theorem tvX9_carryOut_i : Cond.instanceMethod yX9_carryOut ∈ lw_g := in_g 878 (by decide +kernel) (by decide +kernel)
theorem tvX9_carryOut_s : Cond.selects yX9_carryOut.cls yX9_carryOut yX9_carryOut ∈ lw_g := in_g 28 (by decide +kernel) (by decide +kernel)
theorem wyX9_toward : Wy yX9_toward cX9_toward 3 ((some FieldType.int)) 3 := ⟨in_g 899 (by decide +kernel) (by decide +kernel), in_g 58 (by decide +kernel) (by decide +kernel), by decide +kernel, by decide +kernel, by decide +kernel⟩
theorem tsX9_toward : Cond.static yX9_toward ∈ lw_g := in_g 898 (by decide +kernel) (by decide +kernel)
theorem wyX9_stepWind : Wy yX9_stepWind cX9_stepWind 5 none 0 := ⟨in_g 892 (by decide +kernel) (by decide +kernel), in_g 58 (by decide +kernel) (by decide +kernel), by decide +kernel, by decide +kernel, by decide +kernel⟩
theorem tvX9_stepWind_i : Cond.instanceMethod yX9_stepWind ∈ lw_g := in_g 891 (by decide +kernel) (by decide +kernel)
theorem tvX9_stepWind_s : Cond.selects yX9_stepWind.cls yX9_stepWind yX9_stepWind ∈ lw_g := in_g 30 (by decide +kernel) (by decide +kernel)
theorem wyX9_goal : Wy yX9_goal cX9_goal 4 ((some FieldType.int)) 1 := ⟨in_g 896 (by decide +kernel) (by decide +kernel), in_g 58 (by decide +kernel) (by decide +kernel), by decide +kernel, by decide +kernel, by decide +kernel⟩
theorem tvX9_goal_i : Cond.instanceMethod yX9_goal ∈ lw_g := in_g 895 (by decide +kernel) (by decide +kernel)
theorem tvX9_goal_s : Cond.selects yX9_goal.cls yX9_goal yX9_goal ∈ lw_g := in_g 31 (by decide +kernel) (by decide +kernel)
theorem wyX9_stepPump : Wy yX9_stepPump cX9_stepPump 5 none 1 := ⟨in_g 903 (by decide +kernel) (by decide +kernel), in_g 58 (by decide +kernel) (by decide +kernel), by decide +kernel, by decide +kernel, by decide +kernel⟩
theorem tvX9_stepPump_i : Cond.instanceMethod yX9_stepPump ∈ lw_g := in_g 902 (by decide +kernel) (by decide +kernel)
theorem tvX9_stepPump_s : Cond.selects yX9_stepPump.cls yX9_stepPump yX9_stepPump ∈ lw_g := in_g 32 (by decide +kernel) (by decide +kernel)
theorem wyX9_stepNozzle : Wy yX9_stepNozzle cX9_stepNozzle 9 ((some FieldType.boolean)) 1 := ⟨in_g 907 (by decide +kernel) (by decide +kernel), in_g 58 (by decide +kernel) (by decide +kernel), by decide +kernel, by decide +kernel, by decide +kernel⟩
theorem tvX9_stepNozzle_i : Cond.instanceMethod yX9_stepNozzle ∈ lw_g := in_g 906 (by decide +kernel) (by decide +kernel)
theorem tvX9_stepNozzle_s : Cond.selects yX9_stepNozzle.cls yX9_stepNozzle yX9_stepNozzle ∈ lw_g := in_g 33 (by decide +kernel) (by decide +kernel)
theorem wyX9_makeTick : Wy yX9_makeTick cX9_makeTick 3 none 0 := ⟨in_g 888 (by decide +kernel) (by decide +kernel), in_g 58 (by decide +kernel) (by decide +kernel), by decide +kernel, by decide +kernel, by decide +kernel⟩
theorem tvX9_makeTick_i : Cond.instanceMethod yX9_makeTick ∈ lw_g := in_g 887 (by decide +kernel) (by decide +kernel)
theorem tvX9_makeTick_s : Cond.selects yX9_makeTick.cls yX9_makeTick yX9_makeTick ∈ lw_g := in_g 29 (by decide +kernel) (by decide +kernel)
theorem wyX9_command : Wy yX9_command cX9_command 3 ((some FieldType.int)) 2 := ⟨in_g 875 (by decide +kernel) (by decide +kernel), in_g 58 (by decide +kernel) (by decide +kernel), by decide +kernel, by decide +kernel, by decide +kernel⟩
theorem tvX9_command_i : Cond.instanceMethod yX9_command ∈ lw_g := in_g 873 (by decide +kernel) (by decide +kernel)
theorem tvX9_command_s : Cond.selects yX9_command.cls yX9_command yX9_command ∈ lw_g := in_g 874 (by decide +kernel) (by decide +kernel)
theorem wyX9_tick : Wy yX9_tick cX9_tick 3 ((some FieldType.int)) 1 := ⟨in_g 883 (by decide +kernel) (by decide +kernel), in_g 58 (by decide +kernel) (by decide +kernel), by decide +kernel, by decide +kernel, by decide +kernel⟩
theorem tvX9_tick_i : Cond.instanceMethod yX9_tick ∈ lw_g := in_g 881 (by decide +kernel) (by decide +kernel)
theorem tvX9_tick_s : Cond.selects yX9_tick.cls yX9_tick yX9_tick ∈ lw_g := in_g 882 (by decide +kernel) (by decide +kernel)
theorem wyX9_rewind : Wy yX9_rewind cX9_rewind 4 ((some FieldType.int)) 0 := ⟨in_g 912 (by decide +kernel) (by decide +kernel), in_g 58 (by decide +kernel) (by decide +kernel), by decide +kernel, by decide +kernel, by decide +kernel⟩
theorem tvX9_rewind_i : Cond.instanceMethod yX9_rewind ∈ lw_g := in_g 910 (by decide +kernel) (by decide +kernel)
theorem tvX9_rewind_s : Cond.selects yX9_rewind.cls yX9_rewind yX9_rewind ∈ lw_g := in_g 911 (by decide +kernel) (by decide +kernel)
theorem wyX9_spray : Wy yX9_spray cX9_spray 3 ((some FieldType.int)) 2 := ⟨in_g 916 (by decide +kernel) (by decide +kernel), in_g 58 (by decide +kernel) (by decide +kernel), by decide +kernel, by decide +kernel, by decide +kernel⟩
theorem tvX9_spray_i : Cond.instanceMethod yX9_spray ∈ lw_g := in_g 914 (by decide +kernel) (by decide +kernel)
theorem tvX9_spray_s : Cond.selects yX9_spray.cls yX9_spray yX9_spray ∈ lw_g := in_g 915 (by decide +kernel) (by decide +kernel)
theorem wyX9_pressure : Wy yX9_pressure cX9_pressure 3 ((some FieldType.int)) 2 := ⟨in_g 920 (by decide +kernel) (by decide +kernel), in_g 58 (by decide +kernel) (by decide +kernel), by decide +kernel, by decide +kernel, by decide +kernel⟩
theorem tvX9_pressure_i : Cond.instanceMethod yX9_pressure ∈ lw_g := in_g 918 (by decide +kernel) (by decide +kernel)
theorem tvX9_pressure_s : Cond.selects yX9_pressure.cls yX9_pressure yX9_pressure ∈ lw_g := in_g 919 (by decide +kernel) (by decide +kernel)
theorem wyX9_nextCue : Wy yX9_nextCue cX9_nextCue 2 ((some FieldType.int)) 0 := ⟨in_g 937 (by decide +kernel) (by decide +kernel), in_g 58 (by decide +kernel) (by decide +kernel), by decide +kernel, by decide +kernel, by decide +kernel⟩
theorem tvX9_nextCue_i : Cond.instanceMethod yX9_nextCue ∈ lw_g := in_g 936 (by decide +kernel) (by decide +kernel)
theorem tvX9_nextCue_s : Cond.selects yX9_nextCue.cls yX9_nextCue yX9_nextCue ∈ lw_g := in_g 34 (by decide +kernel) (by decide +kernel)
theorem wyX9_state : Wy yX9_state cX9_state 2 ((some FieldType.int)) 1 := ⟨in_g 933 (by decide +kernel) (by decide +kernel), in_g 58 (by decide +kernel) (by decide +kernel), by decide +kernel, by decide +kernel, by decide +kernel⟩
theorem tvX9_state_i : Cond.instanceMethod yX9_state ∈ lw_g := in_g 931 (by decide +kernel) (by decide +kernel)
theorem tvX9_state_s : Cond.selects yX9_state.cls yX9_state yX9_state ∈ lw_g := in_g 932 (by decide +kernel) (by decide +kernel)
theorem wyX9_greatestNow : Wy yX9_greatestNow cX9_greatestNow 3 ((some FieldType.int)) 0 := ⟨in_g 949 (by decide +kernel) (by decide +kernel), in_g 58 (by decide +kernel) (by decide +kernel), by decide +kernel, by decide +kernel, by decide +kernel⟩
theorem tvX9_greatestNow_i : Cond.instanceMethod yX9_greatestNow ∈ lw_g := in_g 948 (by decide +kernel) (by decide +kernel)
theorem tvX9_greatestNow_s : Cond.selects yX9_greatestNow.cls yX9_greatestNow yX9_greatestNow ∈ lw_g := in_g 36 (by decide +kernel) (by decide +kernel)
theorem wyX9_ahead : Wy yX9_ahead cX9_ahead 12 ((some FieldType.int)) 3 := ⟨in_g 941 (by decide +kernel) (by decide +kernel), in_g 58 (by decide +kernel) (by decide +kernel), by decide +kernel, by decide +kernel, by decide +kernel⟩
theorem tvX9_ahead_i : Cond.instanceMethod yX9_ahead ∈ lw_g := in_g 939 (by decide +kernel) (by decide +kernel)
theorem tvX9_ahead_s : Cond.selects yX9_ahead.cls yX9_ahead yX9_ahead ∈ lw_g := in_g 940 (by decide +kernel) (by decide +kernel)
theorem wyX9_shorts : Wy yX9_shorts cX9_shorts 3 ((some FieldType.int)) 0 := ⟨in_g 965 (by decide +kernel) (by decide +kernel), in_g 58 (by decide +kernel) (by decide +kernel), by decide +kernel, by decide +kernel, by decide +kernel⟩
theorem tvX9_shorts_i : Cond.instanceMethod yX9_shorts ∈ lw_g := in_g 964 (by decide +kernel) (by decide +kernel)
theorem tvX9_shorts_s : Cond.selects yX9_shorts.cls yX9_shorts yX9_shorts ∈ lw_g := in_g 39 (by decide +kernel) (by decide +kernel)
theorem wyX9_isEnough : Wy yX9_isEnough cX9_isEnough 4 ((some FieldType.boolean)) 1 := ⟨in_g 961 (by decide +kernel) (by decide +kernel), in_g 58 (by decide +kernel) (by decide +kernel), by decide +kernel, by decide +kernel, by decide +kernel⟩
theorem tvX9_isEnough_i : Cond.instanceMethod yX9_isEnough ∈ lw_g := in_g 960 (by decide +kernel) (by decide +kernel)
theorem tvX9_isEnough_s : Cond.selects yX9_isEnough.cls yX9_isEnough yX9_isEnough ∈ lw_g := in_g 38 (by decide +kernel) (by decide +kernel)
theorem wyX9_delay : Wy yX9_delay cX9_delay 7 ((some FieldType.int)) 3 := ⟨in_g 957 (by decide +kernel) (by decide +kernel), in_g 58 (by decide +kernel) (by decide +kernel), by decide +kernel, by decide +kernel, by decide +kernel⟩
theorem tvX9_delay_i : Cond.instanceMethod yX9_delay ∈ lw_g := in_g 955 (by decide +kernel) (by decide +kernel)
theorem tvX9_delay_s : Cond.selects yX9_delay.cls yX9_delay yX9_delay ∈ lw_g := in_g 956 (by decide +kernel) (by decide +kernel)
theorem wyX9_staysDry : Wy yX9_staysDry cX9_staysDry 4 ((some FieldType.boolean)) 1 := ⟨in_g 973 (by decide +kernel) (by decide +kernel), in_g 58 (by decide +kernel) (by decide +kernel), by decide +kernel, by decide +kernel, by decide +kernel⟩
theorem tvX9_staysDry_i : Cond.instanceMethod yX9_staysDry ∈ lw_g := in_g 972 (by decide +kernel) (by decide +kernel)
theorem tvX9_staysDry_s : Cond.selects yX9_staysDry.cls yX9_staysDry yX9_staysDry ∈ lw_g := in_g 40 (by decide +kernel) (by decide +kernel)
theorem wyX9_safeCut : Wy yX9_safeCut cX9_safeCut 4 ((some FieldType.int)) 1 := ⟨in_g 969 (by decide +kernel) (by decide +kernel), in_g 58 (by decide +kernel) (by decide +kernel), by decide +kernel, by decide +kernel, by decide +kernel⟩
theorem tvX9_safeCut_i : Cond.instanceMethod yX9_safeCut ∈ lw_g := in_g 967 (by decide +kernel) (by decide +kernel)
theorem tvX9_safeCut_s : Cond.selects yX9_safeCut.cls yX9_safeCut yX9_safeCut ∈ lw_g := in_g 968 (by decide +kernel) (by decide +kernel)
theorem wyX9_say : Wy yX9_say cX9_say 2 ((some FieldType.int)) 1 := ⟨in_g 977 (by decide +kernel) (by decide +kernel), in_g 58 (by decide +kernel) (by decide +kernel), by decide +kernel, by decide +kernel, by decide +kernel⟩
theorem tvX9_say_i : Cond.instanceMethod yX9_say ∈ lw_g := in_g 975 (by decide +kernel) (by decide +kernel)
theorem tvX9_say_s : Cond.selects yX9_say.cls yX9_say yX9_say ∈ lw_g := in_g 976 (by decide +kernel) (by decide +kernel)
theorem wyX9_wipe : Wy yX9_wipe cX9_wipe 2 ((some FieldType.int)) 0 := ⟨in_g 981 (by decide +kernel) (by decide +kernel), in_g 58 (by decide +kernel) (by decide +kernel), by decide +kernel, by decide +kernel, by decide +kernel⟩
theorem tvX9_wipe_i : Cond.instanceMethod yX9_wipe ∈ lw_g := in_g 979 (by decide +kernel) (by decide +kernel)
theorem tvX9_wipe_s : Cond.selects yX9_wipe.cls yX9_wipe yX9_wipe ∈ lw_g := in_g 980 (by decide +kernel) (by decide +kernel)
theorem wyX9_next : Wy yX9_next cX9_next 1 ((some FieldType.int)) 0 := ⟨in_g 997 (by decide +kernel) (by decide +kernel), in_g 58 (by decide +kernel) (by decide +kernel), by decide +kernel, by decide +kernel, by decide +kernel⟩
theorem tvX9_next_i : Cond.instanceMethod yX9_next ∈ lw_g := in_g 996 (by decide +kernel) (by decide +kernel)
theorem tvX9_next_s : Cond.selects yX9_next.cls yX9_next yX9_next ∈ lw_g := in_g 43 (by decide +kernel) (by decide +kernel)
theorem wyX9_takeNumber : Wy yX9_takeNumber cX9_takeNumber 4 ((some FieldType.int)) 1 := ⟨in_g 993 (by decide +kernel) (by decide +kernel), in_g 58 (by decide +kernel) (by decide +kernel), by decide +kernel, by decide +kernel, by decide +kernel⟩
theorem tvX9_takeNumber_i : Cond.instanceMethod yX9_takeNumber ∈ lw_g := in_g 992 (by decide +kernel) (by decide +kernel)
theorem tvX9_takeNumber_s : Cond.selects yX9_takeNumber.cls yX9_takeNumber yX9_takeNumber ∈ lw_g := in_g 42 (by decide +kernel) (by decide +kernel)
theorem wyX9_need : Wy yX9_need cX9_need 2 none 1 := ⟨in_g 1001 (by decide +kernel) (by decide +kernel), in_g 58 (by decide +kernel) (by decide +kernel), by decide +kernel, by decide +kernel, by decide +kernel⟩
theorem tvX9_need_i : Cond.instanceMethod yX9_need ∈ lw_g := in_g 1000 (by decide +kernel) (by decide +kernel)
theorem tvX9_need_s : Cond.selects yX9_need.cls yX9_need yX9_need ∈ lw_g := in_g 44 (by decide +kernel) (by decide +kernel)
theorem wyX9_takeSet : Wy yX9_takeSet cX9_takeSet 2 ((some FieldType.int)) 0 := ⟨in_g 1005 (by decide +kernel) (by decide +kernel), in_g 58 (by decide +kernel) (by decide +kernel), by decide +kernel, by decide +kernel, by decide +kernel⟩
theorem tvX9_takeSet_i : Cond.instanceMethod yX9_takeSet ∈ lw_g := in_g 1004 (by decide +kernel) (by decide +kernel)
theorem tvX9_takeSet_s : Cond.selects yX9_takeSet.cls yX9_takeSet yX9_takeSet ∈ lw_g := in_g 45 (by decide +kernel) (by decide +kernel)
theorem wyX9_takeCue : Wy yX9_takeCue cX9_takeCue 2 none 0 := ⟨in_g 989 (by decide +kernel) (by decide +kernel), in_g 58 (by decide +kernel) (by decide +kernel), by decide +kernel, by decide +kernel, by decide +kernel⟩
theorem tvX9_takeCue_i : Cond.instanceMethod yX9_takeCue ∈ lw_g := in_g 988 (by decide +kernel) (by decide +kernel)
theorem tvX9_takeCue_s : Cond.selects yX9_takeCue.cls yX9_takeCue yX9_takeCue ∈ lw_g := in_g 41 (by decide +kernel) (by decide +kernel)
theorem wyX9_fault : Wy yX9_fault cX9_fault 1 ((some FieldType.int)) 0 := ⟨in_g 985 (by decide +kernel) (by decide +kernel), in_g 58 (by decide +kernel) (by decide +kernel), by decide +kernel, by decide +kernel, by decide +kernel⟩
theorem tvX9_fault_i : Cond.instanceMethod yX9_fault ∈ lw_g := in_g 983 (by decide +kernel) (by decide +kernel)
theorem tvX9_fault_s : Cond.selects yX9_fault.cls yX9_fault yX9_fault ∈ lw_g := in_g 984 (by decide +kernel) (by decide +kernel)
theorem wyX9_read : Wy yX9_read cX9_read 4 ((some FieldType.int)) 1 := ⟨in_g 1009 (by decide +kernel) (by decide +kernel), in_g 58 (by decide +kernel) (by decide +kernel), by decide +kernel, by decide +kernel, by decide +kernel⟩
theorem tvX9_read_i : Cond.instanceMethod yX9_read ∈ lw_g := in_g 1007 (by decide +kernel) (by decide +kernel)
theorem tvX9_read_s : Cond.selects yX9_read.cls yX9_read yX9_read ∈ lw_g := in_g 1008 (by decide +kernel) (by decide +kernel)
theorem wyX9_save : Wy yX9_save cX9_save 3 ((some FieldType.int)) 1 := ⟨in_g 1015 (by decide +kernel) (by decide +kernel), in_g 58 (by decide +kernel) (by decide +kernel), by decide +kernel, by decide +kernel, by decide +kernel⟩
theorem tvX9_save_i : Cond.instanceMethod yX9_save ∈ lw_g := in_g 1013 (by decide +kernel) (by decide +kernel)
theorem tvX9_save_s : Cond.selects yX9_save.cls yX9_save yX9_save ∈ lw_g := in_g 1014 (by decide +kernel) (by decide +kernel)
theorem wyX9_restore : Wy yX9_restore cX9_restore 3 ((some FieldType.int)) 1 := ⟨in_g 1019 (by decide +kernel) (by decide +kernel), in_g 58 (by decide +kernel) (by decide +kernel), by decide +kernel, by decide +kernel, by decide +kernel⟩
theorem tvX9_restore_i : Cond.instanceMethod yX9_restore ∈ lw_g := in_g 1017 (by decide +kernel) (by decide +kernel)
theorem tvX9_restore_s : Cond.selects yX9_restore.cls yX9_restore yX9_restore ∈ lw_g := in_g 1018 (by decide +kernel) (by decide +kernel)
theorem cls_lt {k c : Nat} (h : clsOf k = c) (hc : c < 999) : k < 121 := by
  rcases Nat.lt_or_ge k 121 with q | q
  · exact q
  · exfalso
    have e : clsOf k = 999 := by
      unfold clsOf
      rw [List.getD_eq_getElem?_getD, List.getElem?_eq_none (show clsL.length ≤ k from q)]
      rfl
    omega
theorem pt_0_0 {k : Nat} (h : clsOf k = 0) : clsOf (ptr k 0) = 100 := by
  have e : ∀ k, k < 121 → clsOf k = 0 → clsOf (ptr k 0) = 100 := by decide +kernel
  exact e k (cls_lt h (by decide)) h
theorem ok_0_0 {ks : List Nat} {k : Nat} (hcl : Cl ks) (h : Ok ks k 0) : Ok ks (ptr k 0) 100 := by
  refine ⟨?_, pt_0_0 h.2⟩
  rcases hcl k h.1 0 (by rw [h.2]; rfl) (by rw [h.2]; decide) with q | q
  · exact q
  · rw [pt_0_0 h.2] at q; exact absurd q (by decide)
theorem pt_0_1 {k : Nat} (h : clsOf k = 0) : clsOf (ptr k 1) = 100 := by
  have e : ∀ k, k < 121 → clsOf k = 0 → clsOf (ptr k 1) = 100 := by decide +kernel
  exact e k (cls_lt h (by decide)) h
theorem ok_0_1 {ks : List Nat} {k : Nat} (hcl : Cl ks) (h : Ok ks k 0) : Ok ks (ptr k 1) 100 := by
  refine ⟨?_, pt_0_1 h.2⟩
  rcases hcl k h.1 1 (by rw [h.2]; rfl) (by rw [h.2]; decide) with q | q
  · exact q
  · rw [pt_0_1 h.2] at q; exact absurd q (by decide)
theorem pt_0_2 {k : Nat} (h : clsOf k = 0) : clsOf (ptr k 2) = 100 := by
  have e : ∀ k, k < 121 → clsOf k = 0 → clsOf (ptr k 2) = 100 := by decide +kernel
  exact e k (cls_lt h (by decide)) h
theorem ok_0_2 {ks : List Nat} {k : Nat} (hcl : Cl ks) (h : Ok ks k 0) : Ok ks (ptr k 2) 100 := by
  refine ⟨?_, pt_0_2 h.2⟩
  rcases hcl k h.1 2 (by rw [h.2]; rfl) (by rw [h.2]; decide) with q | q
  · exact q
  · rw [pt_0_2 h.2] at q; exact absurd q (by decide)
theorem pt_1_0 {k : Nat} (h : clsOf k = 1) : clsOf (ptr k 0) = 4 := by
  have e : ∀ k, k < 121 → clsOf k = 1 → clsOf (ptr k 0) = 4 := by decide +kernel
  exact e k (cls_lt h (by decide)) h
theorem ok_1_0 {ks : List Nat} {k : Nat} (hcl : Cl ks) (h : Ok ks k 1) : Ok ks (ptr k 0) 4 := by
  refine ⟨?_, pt_1_0 h.2⟩
  rcases hcl k h.1 0 (by rw [h.2]; rfl) (by rw [h.2]; decide) with q | q
  · exact q
  · rw [pt_1_0 h.2] at q; exact absurd q (by decide)
theorem pt_1_1 {k : Nat} (h : clsOf k = 1) : clsOf (ptr k 1) = 100 := by
  have e : ∀ k, k < 121 → clsOf k = 1 → clsOf (ptr k 1) = 100 := by decide +kernel
  exact e k (cls_lt h (by decide)) h
theorem ok_1_1 {ks : List Nat} {k : Nat} (hcl : Cl ks) (h : Ok ks k 1) : Ok ks (ptr k 1) 100 := by
  refine ⟨?_, pt_1_1 h.2⟩
  rcases hcl k h.1 1 (by rw [h.2]; rfl) (by rw [h.2]; decide) with q | q
  · exact q
  · rw [pt_1_1 h.2] at q; exact absurd q (by decide)
theorem pt_1_2 {k : Nat} (h : clsOf k = 1) : clsOf (ptr k 2) = 100 := by
  have e : ∀ k, k < 121 → clsOf k = 1 → clsOf (ptr k 2) = 100 := by decide +kernel
  exact e k (cls_lt h (by decide)) h
theorem ok_1_2 {ks : List Nat} {k : Nat} (hcl : Cl ks) (h : Ok ks k 1) : Ok ks (ptr k 2) 100 := by
  refine ⟨?_, pt_1_2 h.2⟩
  rcases hcl k h.1 2 (by rw [h.2]; rfl) (by rw [h.2]; decide) with q | q
  · exact q
  · rw [pt_1_2 h.2] at q; exact absurd q (by decide)
theorem pt_1_3 {k : Nat} (h : clsOf k = 1) : clsOf (ptr k 3) = 100 := by
  have e : ∀ k, k < 121 → clsOf k = 1 → clsOf (ptr k 3) = 100 := by decide +kernel
  exact e k (cls_lt h (by decide)) h
theorem ok_1_3 {ks : List Nat} {k : Nat} (hcl : Cl ks) (h : Ok ks k 1) : Ok ks (ptr k 3) 100 := by
  refine ⟨?_, pt_1_3 h.2⟩
  rcases hcl k h.1 3 (by rw [h.2]; rfl) (by rw [h.2]; decide) with q | q
  · exact q
  · rw [pt_1_3 h.2] at q; exact absurd q (by decide)
theorem pt_1_4 {k : Nat} (h : clsOf k = 1) : clsOf (ptr k 4) = 100 := by
  have e : ∀ k, k < 121 → clsOf k = 1 → clsOf (ptr k 4) = 100 := by decide +kernel
  exact e k (cls_lt h (by decide)) h
theorem ok_1_4 {ks : List Nat} {k : Nat} (hcl : Cl ks) (h : Ok ks k 1) : Ok ks (ptr k 4) 100 := by
  refine ⟨?_, pt_1_4 h.2⟩
  rcases hcl k h.1 4 (by rw [h.2]; rfl) (by rw [h.2]; decide) with q | q
  · exact q
  · rw [pt_1_4 h.2] at q; exact absurd q (by decide)
theorem pt_1_5 {k : Nat} (h : clsOf k = 1) : clsOf (ptr k 5) = 100 := by
  have e : ∀ k, k < 121 → clsOf k = 1 → clsOf (ptr k 5) = 100 := by decide +kernel
  exact e k (cls_lt h (by decide)) h
theorem ok_1_5 {ks : List Nat} {k : Nat} (hcl : Cl ks) (h : Ok ks k 1) : Ok ks (ptr k 5) 100 := by
  refine ⟨?_, pt_1_5 h.2⟩
  rcases hcl k h.1 5 (by rw [h.2]; rfl) (by rw [h.2]; decide) with q | q
  · exact q
  · rw [pt_1_5 h.2] at q; exact absurd q (by decide)
theorem pt_1_6 {k : Nat} (h : clsOf k = 1) : clsOf (ptr k 6) = 100 := by
  have e : ∀ k, k < 121 → clsOf k = 1 → clsOf (ptr k 6) = 100 := by decide +kernel
  exact e k (cls_lt h (by decide)) h
theorem ok_1_6 {ks : List Nat} {k : Nat} (hcl : Cl ks) (h : Ok ks k 1) : Ok ks (ptr k 6) 100 := by
  refine ⟨?_, pt_1_6 h.2⟩
  rcases hcl k h.1 6 (by rw [h.2]; rfl) (by rw [h.2]; decide) with q | q
  · exact q
  · rw [pt_1_6 h.2] at q; exact absurd q (by decide)
theorem pt_1_7 {k : Nat} (h : clsOf k = 1) : clsOf (ptr k 7) = 100 := by
  have e : ∀ k, k < 121 → clsOf k = 1 → clsOf (ptr k 7) = 100 := by decide +kernel
  exact e k (cls_lt h (by decide)) h
theorem ok_1_7 {ks : List Nat} {k : Nat} (hcl : Cl ks) (h : Ok ks k 1) : Ok ks (ptr k 7) 100 := by
  refine ⟨?_, pt_1_7 h.2⟩
  rcases hcl k h.1 7 (by rw [h.2]; rfl) (by rw [h.2]; decide) with q | q
  · exact q
  · rw [pt_1_7 h.2] at q; exact absurd q (by decide)
theorem pt_2_0 {k : Nat} (h : clsOf k = 2) : clsOf (ptr k 0) = 0 := by
  have e : ∀ k, k < 121 → clsOf k = 2 → clsOf (ptr k 0) = 0 := by decide +kernel
  exact e k (cls_lt h (by decide)) h
theorem ok_2_0 {ks : List Nat} {k : Nat} (hcl : Cl ks) (h : Ok ks k 2) : Ok ks (ptr k 0) 0 := by
  refine ⟨?_, pt_2_0 h.2⟩
  rcases hcl k h.1 0 (by rw [h.2]; rfl) (by rw [h.2]; decide) with q | q
  · exact q
  · rw [pt_2_0 h.2] at q; exact absurd q (by decide)
theorem pt_2_1 {k : Nat} (h : clsOf k = 2) : clsOf (ptr k 1) = 102 := by
  have e : ∀ k, k < 121 → clsOf k = 2 → clsOf (ptr k 1) = 102 := by decide +kernel
  exact e k (cls_lt h (by decide)) h
theorem ok_2_1 {ks : List Nat} {k : Nat} (hcl : Cl ks) (h : Ok ks k 2) : Ok ks (ptr k 1) 102 := by
  refine ⟨?_, pt_2_1 h.2⟩
  rcases hcl k h.1 1 (by rw [h.2]; rfl) (by rw [h.2]; decide) with q | q
  · exact q
  · rw [pt_2_1 h.2] at q; exact absurd q (by decide)
theorem pt_3_0 {k : Nat} (h : clsOf k = 3) : clsOf (ptr k 0) = 4 := by
  have e : ∀ k, k < 121 → clsOf k = 3 → clsOf (ptr k 0) = 4 := by decide +kernel
  exact e k (cls_lt h (by decide)) h
theorem ok_3_0 {ks : List Nat} {k : Nat} (hcl : Cl ks) (h : Ok ks k 3) : Ok ks (ptr k 0) 4 := by
  refine ⟨?_, pt_3_0 h.2⟩
  rcases hcl k h.1 0 (by rw [h.2]; rfl) (by rw [h.2]; decide) with q | q
  · exact q
  · rw [pt_3_0 h.2] at q; exact absurd q (by decide)
theorem pt_3_1 {k : Nat} (h : clsOf k = 3) : clsOf (ptr k 1) = 100 := by
  have e : ∀ k, k < 121 → clsOf k = 3 → clsOf (ptr k 1) = 100 := by decide +kernel
  exact e k (cls_lt h (by decide)) h
theorem ok_3_1 {ks : List Nat} {k : Nat} (hcl : Cl ks) (h : Ok ks k 3) : Ok ks (ptr k 1) 100 := by
  refine ⟨?_, pt_3_1 h.2⟩
  rcases hcl k h.1 1 (by rw [h.2]; rfl) (by rw [h.2]; decide) with q | q
  · exact q
  · rw [pt_3_1 h.2] at q; exact absurd q (by decide)
theorem pt_3_2 {k : Nat} (h : clsOf k = 3) : clsOf (ptr k 2) = 100 := by
  have e : ∀ k, k < 121 → clsOf k = 3 → clsOf (ptr k 2) = 100 := by decide +kernel
  exact e k (cls_lt h (by decide)) h
theorem ok_3_2 {ks : List Nat} {k : Nat} (hcl : Cl ks) (h : Ok ks k 3) : Ok ks (ptr k 2) 100 := by
  refine ⟨?_, pt_3_2 h.2⟩
  rcases hcl k h.1 2 (by rw [h.2]; rfl) (by rw [h.2]; decide) with q | q
  · exact q
  · rw [pt_3_2 h.2] at q; exact absurd q (by decide)
theorem pt_3_3 {k : Nat} (h : clsOf k = 3) : clsOf (ptr k 3) = 100 := by
  have e : ∀ k, k < 121 → clsOf k = 3 → clsOf (ptr k 3) = 100 := by decide +kernel
  exact e k (cls_lt h (by decide)) h
theorem ok_3_3 {ks : List Nat} {k : Nat} (hcl : Cl ks) (h : Ok ks k 3) : Ok ks (ptr k 3) 100 := by
  refine ⟨?_, pt_3_3 h.2⟩
  rcases hcl k h.1 3 (by rw [h.2]; rfl) (by rw [h.2]; decide) with q | q
  · exact q
  · rw [pt_3_3 h.2] at q; exact absurd q (by decide)
theorem pt_4_0 {k : Nat} (h : clsOf k = 4) : clsOf (ptr k 0) = 103 := by
  have e : ∀ k, k < 121 → clsOf k = 4 → clsOf (ptr k 0) = 103 := by decide +kernel
  exact e k (cls_lt h (by decide)) h
theorem st_4_0 {ks : List Nat} {k : Nat} (h : Ok ks k 4) : clsOf (ptr k 0) = 103 := pt_4_0 h.2
theorem pt_4_1 {k : Nat} (h : clsOf k = 4) : clsOf (ptr k 1) = 103 := by
  have e : ∀ k, k < 121 → clsOf k = 4 → clsOf (ptr k 1) = 103 := by decide +kernel
  exact e k (cls_lt h (by decide)) h
theorem st_4_1 {ks : List Nat} {k : Nat} (h : Ok ks k 4) : clsOf (ptr k 1) = 103 := pt_4_1 h.2
theorem pt_4_2 {k : Nat} (h : clsOf k = 4) : clsOf (ptr k 2) = 103 := by
  have e : ∀ k, k < 121 → clsOf k = 4 → clsOf (ptr k 2) = 103 := by decide +kernel
  exact e k (cls_lt h (by decide)) h
theorem st_4_2 {ks : List Nat} {k : Nat} (h : Ok ks k 4) : clsOf (ptr k 2) = 103 := pt_4_2 h.2
theorem pt_4_4 {k : Nat} (h : clsOf k = 4) : clsOf (ptr k 4) = 100 := by
  have e : ∀ k, k < 121 → clsOf k = 4 → clsOf (ptr k 4) = 100 := by decide +kernel
  exact e k (cls_lt h (by decide)) h
theorem ok_4_4 {ks : List Nat} {k : Nat} (hcl : Cl ks) (h : Ok ks k 4) : Ok ks (ptr k 4) 100 := by
  refine ⟨?_, pt_4_4 h.2⟩
  rcases hcl k h.1 4 (by rw [h.2]; rfl) (by rw [h.2]; decide) with q | q
  · exact q
  · rw [pt_4_4 h.2] at q; exact absurd q (by decide)
theorem pt_5_0 {k : Nat} (h : clsOf k = 5) : clsOf (ptr k 0) = 4 := by
  have e : ∀ k, k < 121 → clsOf k = 5 → clsOf (ptr k 0) = 4 := by decide +kernel
  exact e k (cls_lt h (by decide)) h
theorem ok_5_0 {ks : List Nat} {k : Nat} (hcl : Cl ks) (h : Ok ks k 5) : Ok ks (ptr k 0) 4 := by
  refine ⟨?_, pt_5_0 h.2⟩
  rcases hcl k h.1 0 (by rw [h.2]; rfl) (by rw [h.2]; decide) with q | q
  · exact q
  · rw [pt_5_0 h.2] at q; exact absurd q (by decide)
theorem pt_5_1 {k : Nat} (h : clsOf k = 5) : clsOf (ptr k 1) = 1 := by
  have e : ∀ k, k < 121 → clsOf k = 5 → clsOf (ptr k 1) = 1 := by decide +kernel
  exact e k (cls_lt h (by decide)) h
theorem ok_5_1 {ks : List Nat} {k : Nat} (hcl : Cl ks) (h : Ok ks k 5) : Ok ks (ptr k 1) 1 := by
  refine ⟨?_, pt_5_1 h.2⟩
  rcases hcl k h.1 1 (by rw [h.2]; rfl) (by rw [h.2]; decide) with q | q
  · exact q
  · rw [pt_5_1 h.2] at q; exact absurd q (by decide)
theorem pt_5_2 {k : Nat} (h : clsOf k = 5) : clsOf (ptr k 2) = 3 := by
  have e : ∀ k, k < 121 → clsOf k = 5 → clsOf (ptr k 2) = 3 := by decide +kernel
  exact e k (cls_lt h (by decide)) h
theorem ok_5_2 {ks : List Nat} {k : Nat} (hcl : Cl ks) (h : Ok ks k 5) : Ok ks (ptr k 2) 3 := by
  refine ⟨?_, pt_5_2 h.2⟩
  rcases hcl k h.1 2 (by rw [h.2]; rfl) (by rw [h.2]; decide) with q | q
  · exact q
  · rw [pt_5_2 h.2] at q; exact absurd q (by decide)
theorem pt_5_3 {k : Nat} (h : clsOf k = 5) : clsOf (ptr k 3) = 7 := by
  have e : ∀ k, k < 121 → clsOf k = 5 → clsOf (ptr k 3) = 7 := by decide +kernel
  exact e k (cls_lt h (by decide)) h
theorem ok_5_3 {ks : List Nat} {k : Nat} (hcl : Cl ks) (h : Ok ks k 5) : Ok ks (ptr k 3) 7 := by
  refine ⟨?_, pt_5_3 h.2⟩
  rcases hcl k h.1 3 (by rw [h.2]; rfl) (by rw [h.2]; decide) with q | q
  · exact q
  · rw [pt_5_3 h.2] at q; exact absurd q (by decide)
theorem pt_5_4 {k : Nat} (h : clsOf k = 5) : clsOf (ptr k 4) = 0 := by
  have e : ∀ k, k < 121 → clsOf k = 5 → clsOf (ptr k 4) = 0 := by decide +kernel
  exact e k (cls_lt h (by decide)) h
theorem ok_5_4 {ks : List Nat} {k : Nat} (hcl : Cl ks) (h : Ok ks k 5) : Ok ks (ptr k 4) 0 := by
  refine ⟨?_, pt_5_4 h.2⟩
  rcases hcl k h.1 4 (by rw [h.2]; rfl) (by rw [h.2]; decide) with q | q
  · exact q
  · rw [pt_5_4 h.2] at q; exact absurd q (by decide)
theorem pt_6_0 {k : Nat} (h : clsOf k = 6) : clsOf (ptr k 0) = 5 := by
  have e : ∀ k, k < 121 → clsOf k = 6 → clsOf (ptr k 0) = 5 := by decide +kernel
  exact e k (cls_lt h (by decide)) h
theorem ok_6_0 {ks : List Nat} {k : Nat} (hcl : Cl ks) (h : Ok ks k 6) : Ok ks (ptr k 0) 5 := by
  refine ⟨?_, pt_6_0 h.2⟩
  rcases hcl k h.1 0 (by rw [h.2]; rfl) (by rw [h.2]; decide) with q | q
  · exact q
  · rw [pt_6_0 h.2] at q; exact absurd q (by decide)
theorem pt_8_0 {k : Nat} (h : clsOf k = 8) : clsOf (ptr k 0) = 5 := by
  have e : ∀ k, k < 121 → clsOf k = 8 → clsOf (ptr k 0) = 5 := by decide +kernel
  exact e k (cls_lt h (by decide)) h
theorem ok_8_0 {ks : List Nat} {k : Nat} (hcl : Cl ks) (h : Ok ks k 8) : Ok ks (ptr k 0) 5 := by
  refine ⟨?_, pt_8_0 h.2⟩
  rcases hcl k h.1 0 (by rw [h.2]; rfl) (by rw [h.2]; decide) with q | q
  · exact q
  · rw [pt_8_0 h.2] at q; exact absurd q (by decide)
theorem pt_8_1 {k : Nat} (h : clsOf k = 8) : clsOf (ptr k 1) = 5 := by
  have e : ∀ k, k < 121 → clsOf k = 8 → clsOf (ptr k 1) = 5 := by decide +kernel
  exact e k (cls_lt h (by decide)) h
theorem ok_8_1 {ks : List Nat} {k : Nat} (hcl : Cl ks) (h : Ok ks k 8) : Ok ks (ptr k 1) 5 := by
  refine ⟨?_, pt_8_1 h.2⟩
  rcases hcl k h.1 1 (by rw [h.2]; rfl) (by rw [h.2]; decide) with q | q
  · exact q
  · rw [pt_8_1 h.2] at q; exact absurd q (by decide)
theorem pt_8_2 {k : Nat} (h : clsOf k = 8) : clsOf (ptr k 2) = 6 := by
  have e : ∀ k, k < 121 → clsOf k = 8 → clsOf (ptr k 2) = 6 := by decide +kernel
  exact e k (cls_lt h (by decide)) h
theorem ok_8_2 {ks : List Nat} {k : Nat} (hcl : Cl ks) (h : Ok ks k 8) : Ok ks (ptr k 2) 6 := by
  refine ⟨?_, pt_8_2 h.2⟩
  rcases hcl k h.1 2 (by rw [h.2]; rfl) (by rw [h.2]; decide) with q | q
  · exact q
  · rw [pt_8_2 h.2] at q; exact absurd q (by decide)
theorem pt_8_3 {k : Nat} (h : clsOf k = 8) : clsOf (ptr k 3) = 6 := by
  have e : ∀ k, k < 121 → clsOf k = 8 → clsOf (ptr k 3) = 6 := by decide +kernel
  exact e k (cls_lt h (by decide)) h
theorem ok_8_3 {ks : List Nat} {k : Nat} (hcl : Cl ks) (h : Ok ks k 8) : Ok ks (ptr k 3) 6 := by
  refine ⟨?_, pt_8_3 h.2⟩
  rcases hcl k h.1 3 (by rw [h.2]; rfl) (by rw [h.2]; decide) with q | q
  · exact q
  · rw [pt_8_3 h.2] at q; exact absurd q (by decide)
theorem pt_8_4 {k : Nat} (h : clsOf k = 8) : clsOf (ptr k 4) = 2 := by
  have e : ∀ k, k < 121 → clsOf k = 8 → clsOf (ptr k 4) = 2 := by decide +kernel
  exact e k (cls_lt h (by decide)) h
theorem ok_8_4 {ks : List Nat} {k : Nat} (hcl : Cl ks) (h : Ok ks k 8) : Ok ks (ptr k 4) 2 := by
  refine ⟨?_, pt_8_4 h.2⟩
  rcases hcl k h.1 4 (by rw [h.2]; rfl) (by rw [h.2]; decide) with q | q
  · exact q
  · rw [pt_8_4 h.2] at q; exact absurd q (by decide)
theorem pt_9_0 {k : Nat} (h : clsOf k = 9) : clsOf (ptr k 0) = 100 := by
  have e : ∀ k, k < 121 → clsOf k = 9 → clsOf (ptr k 0) = 100 := by decide +kernel
  exact e k (cls_lt h (by decide)) h
theorem ok_9_0 {ks : List Nat} {k : Nat} (hcl : Cl ks) (h : Ok ks k 9) : Ok ks (ptr k 0) 100 := by
  refine ⟨?_, pt_9_0 h.2⟩
  rcases hcl k h.1 0 (by rw [h.2]; rfl) (by rw [h.2]; decide) with q | q
  · exact q
  · rw [pt_9_0 h.2] at q; exact absurd q (by decide)
theorem pt_9_1 {k : Nat} (h : clsOf k = 9) : clsOf (ptr k 1) = 100 := by
  have e : ∀ k, k < 121 → clsOf k = 9 → clsOf (ptr k 1) = 100 := by decide +kernel
  exact e k (cls_lt h (by decide)) h
theorem ok_9_1 {ks : List Nat} {k : Nat} (hcl : Cl ks) (h : Ok ks k 9) : Ok ks (ptr k 1) 100 := by
  refine ⟨?_, pt_9_1 h.2⟩
  rcases hcl k h.1 1 (by rw [h.2]; rfl) (by rw [h.2]; decide) with q | q
  · exact q
  · rw [pt_9_1 h.2] at q; exact absurd q (by decide)
theorem pt_9_2 {k : Nat} (h : clsOf k = 9) : clsOf (ptr k 2) = 100 := by
  have e : ∀ k, k < 121 → clsOf k = 9 → clsOf (ptr k 2) = 100 := by decide +kernel
  exact e k (cls_lt h (by decide)) h
theorem ok_9_2 {ks : List Nat} {k : Nat} (hcl : Cl ks) (h : Ok ks k 9) : Ok ks (ptr k 2) 100 := by
  refine ⟨?_, pt_9_2 h.2⟩
  rcases hcl k h.1 2 (by rw [h.2]; rfl) (by rw [h.2]; decide) with q | q
  · exact q
  · rw [pt_9_2 h.2] at q; exact absurd q (by decide)
theorem pt_9_3 {k : Nat} (h : clsOf k = 9) : clsOf (ptr k 3) = 101 := by
  have e : ∀ k, k < 121 → clsOf k = 9 → clsOf (ptr k 3) = 101 := by decide +kernel
  exact e k (cls_lt h (by decide)) h
theorem ok_9_3 {ks : List Nat} {k : Nat} (hcl : Cl ks) (h : Ok ks k 9) : Ok ks (ptr k 3) 101 := by
  refine ⟨?_, pt_9_3 h.2⟩
  rcases hcl k h.1 3 (by rw [h.2]; rfl) (by rw [h.2]; decide) with q | q
  · exact q
  · rw [pt_9_3 h.2] at q; exact absurd q (by decide)
theorem pt_9_4 {k : Nat} (h : clsOf k = 9) : clsOf (ptr k 4) = 100 := by
  have e : ∀ k, k < 121 → clsOf k = 9 → clsOf (ptr k 4) = 100 := by decide +kernel
  exact e k (cls_lt h (by decide)) h
theorem ok_9_4 {ks : List Nat} {k : Nat} (hcl : Cl ks) (h : Ok ks k 9) : Ok ks (ptr k 4) 100 := by
  refine ⟨?_, pt_9_4 h.2⟩
  rcases hcl k h.1 4 (by rw [h.2]; rfl) (by rw [h.2]; decide) with q | q
  · exact q
  · rw [pt_9_4 h.2] at q; exact absurd q (by decide)
theorem pt_9_8 {k : Nat} (h : clsOf k = 9) : clsOf (ptr k 8) = 100 := by
  have e : ∀ k, k < 121 → clsOf k = 9 → clsOf (ptr k 8) = 100 := by decide +kernel
  exact e k (cls_lt h (by decide)) h
theorem ok_9_8 {ks : List Nat} {k : Nat} (hcl : Cl ks) (h : Ok ks k 9) : Ok ks (ptr k 8) 100 := by
  refine ⟨?_, pt_9_8 h.2⟩
  rcases hcl k h.1 8 (by rw [h.2]; rfl) (by rw [h.2]; decide) with q | q
  · exact q
  · rw [pt_9_8 h.2] at q; exact absurd q (by decide)
theorem ok_slot {ks : List Nat} {k q : Nat} (hcl : Cl ks) (h : Ok ks k 8) (hq : decide (q = ptr k 2 ∨ q = ptr k 3) = true) : Ok ks q 6 := by
  rcases of_decide_eq_true hq with e | e <;> rw [e]
  · exact ok_8_2 hcl h
  · exact ok_8_3 hcl h
