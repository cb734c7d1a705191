/-! WHAT THE TABLES SAY, by place; the classes; the pointers -/
theorem inGX0 : ∀ w ∈ u_ws RX0 TX0 4, w ∈ lw_g := fun w hw => List.mem_filter.mpr (by
  have h := List.all_eq_true.mp (show (u_ws RX0 TX0 4).all (fun w => decide (w ∈ lw_tbl) && goodWord w) = true by decide +kernel) w hw
  simpa using h)
theorem kcX0 : Kc 0 RX0 TX0 4 tyX0 := ⟨rfl, by decide, inGX0, tyX0_ok, nmX0, rfl⟩
theorem inGX1 : ∀ w ∈ u_ws RX1 TX1 10, w ∈ lw_g := fun w hw => List.mem_filter.mpr (by
  have h := List.all_eq_true.mp (show (u_ws RX1 TX1 10).all (fun w => decide (w ∈ lw_tbl) && goodWord w) = true by decide +kernel) w hw
  simpa using h)
theorem kcX1 : Kc 1 RX1 TX1 10 tyX1 := ⟨rfl, by decide, inGX1, tyX1_ok, nmX1, rfl⟩
theorem inGX2 : ∀ w ∈ u_ws RX2 TX2 7, w ∈ lw_g := fun w hw => List.mem_filter.mpr (by
  have h := List.all_eq_true.mp (show (u_ws RX2 TX2 7).all (fun w => decide (w ∈ lw_tbl) && goodWord w) = true by decide +kernel) w hw
  simpa using h)
theorem kcX2 : Kc 2 RX2 TX2 7 tyX2 := ⟨rfl, by decide, inGX2, tyX2_ok, nmX2, rfl⟩
theorem inGX3 : ∀ w ∈ u_ws RX3 TX3 4, w ∈ lw_g := fun w hw => List.mem_filter.mpr (by
  have h := List.all_eq_true.mp (show (u_ws RX3 TX3 4).all (fun w => decide (w ∈ lw_tbl) && goodWord w) = true by decide +kernel) w hw
  simpa using h)
theorem kcX3 : Kc 3 RX3 TX3 4 tyX3 := ⟨rfl, by decide, inGX3, tyX3_ok, nmX3, rfl⟩
theorem inGX4 : ∀ w ∈ u_ws RX4 TX4 5, w ∈ lw_g := fun w hw => List.mem_filter.mpr (by
  have h := List.all_eq_true.mp (show (u_ws RX4 TX4 5).all (fun w => decide (w ∈ lw_tbl) && goodWord w) = true by decide +kernel) w hw
  simpa using h)
theorem kcX4 : Kc 4 RX4 TX4 5 tyX4 := ⟨rfl, by decide, inGX4, tyX4_ok, nmX4, rfl⟩
theorem inGX5 : ∀ w ∈ u_ws RX5 TX5 7, w ∈ lw_g := fun w hw => List.mem_filter.mpr (by
  have h := List.all_eq_true.mp (show (u_ws RX5 TX5 7).all (fun w => decide (w ∈ lw_tbl) && goodWord w) = true by decide +kernel) w hw
  simpa using h)
theorem kcX5 : Kc 5 RX5 TX5 7 tyX5 := ⟨rfl, by decide, inGX5, tyX5_ok, nmX5, rfl⟩
theorem inGX6 : ∀ w ∈ u_ws RX6 TX6 2, w ∈ lw_g := fun w hw => List.mem_filter.mpr (by
  have h := List.all_eq_true.mp (show (u_ws RX6 TX6 2).all (fun w => decide (w ∈ lw_tbl) && goodWord w) = true by decide +kernel) w hw
  simpa using h)
theorem kcX6 : Kc 6 RX6 TX6 2 tyX6 := ⟨rfl, by decide, inGX6, tyX6_ok, nmX6, rfl⟩
theorem inGX7 : ∀ w ∈ u_ws RX7 TX7 4, w ∈ lw_g := fun w hw => List.mem_filter.mpr (by
  have h := List.all_eq_true.mp (show (u_ws RX7 TX7 4).all (fun w => decide (w ∈ lw_tbl) && goodWord w) = true by decide +kernel) w hw
  simpa using h)
theorem kcX7 : Kc 7 RX7 TX7 4 tyX7 := ⟨rfl, by decide, inGX7, tyX7_ok, nmX7, rfl⟩
theorem inGX8 : ∀ w ∈ u_ws RX8 TX8 5, w ∈ lw_g := fun w hw => List.mem_filter.mpr (by
  have h := List.all_eq_true.mp (show (u_ws RX8 TX8 5).all (fun w => decide (w ∈ lw_tbl) && goodWord w) = true by decide +kernel) w hw
  simpa using h)
theorem kcX8 : Kc 8 RX8 TX8 5 tyX8 := ⟨rfl, by decide, inGX8, tyX8_ok, nmX8, rfl⟩
theorem tw_64 : Cond.methodLink RX4 37 arraycopyName ∈ lw_g := in_g 64 (by decide +kernel) (by decide +kernel)
theorem tw_67 : Cond.fieldLink RX4 21 RX4 (TX4 0).2.1 (TX4 0).2.2.1 ∈ lw_g := in_g 67 (by decide +kernel) (by decide +kernel)
theorem tw_68 : Cond.fieldLink RX4 25 RX4 (TX4 1).2.1 (TX4 1).2.2.1 ∈ lw_g := in_g 68 (by decide +kernel) (by decide +kernel)
theorem tw_69 : Cond.fieldLink RX4 28 RX4 (TX4 2).2.1 (TX4 2).2.2.1 ∈ lw_g := in_g 69 (by decide +kernel) (by decide +kernel)
theorem tw_70 : Cond.fieldLink RX4 15 RX4 (TX4 3).2.1 (TX4 3).2.2.1 ∈ lw_g := in_g 70 (by decide +kernel) (by decide +kernel)
theorem tw_71 : Cond.fieldLink RX4 31 RX4 (TX4 4).2.1 (TX4 4).2.2.1 ∈ lw_g := in_g 71 (by decide +kernel) (by decide +kernel)
theorem tw_98 : Cond.fieldLink RX1 24 RX1 (TX1 0).2.1 (TX1 0).2.2.1 ∈ lw_g := in_g 98 (by decide +kernel) (by decide +kernel)
theorem tw_99 : Cond.fieldLink RX8 58 RX1 (TX1 0).2.1 (TX1 0).2.2.1 ∈ lw_g := in_g 99 (by decide +kernel) (by decide +kernel)
theorem tw_100 : Cond.fieldLink RX1 30 RX1 (TX1 1).2.1 (TX1 1).2.2.1 ∈ lw_g := in_g 100 (by decide +kernel) (by decide +kernel)
theorem tw_101 : Cond.fieldLink RX8 129 RX1 (TX1 1).2.1 (TX1 1).2.2.1 ∈ lw_g := in_g 101 (by decide +kernel) (by decide +kernel)
theorem tw_102 : Cond.fieldLink RX1 33 RX1 (TX1 2).2.1 (TX1 2).2.2.1 ∈ lw_g := in_g 102 (by decide +kernel) (by decide +kernel)
theorem tw_103 : Cond.fieldLink RX8 132 RX1 (TX1 2).2.1 (TX1 2).2.2.1 ∈ lw_g := in_g 103 (by decide +kernel) (by decide +kernel)
theorem tw_104 : Cond.fieldLink RX1 36 RX1 (TX1 3).2.1 (TX1 3).2.2.1 ∈ lw_g := in_g 104 (by decide +kernel) (by decide +kernel)
theorem tw_105 : Cond.fieldLink RX8 135 RX1 (TX1 3).2.1 (TX1 3).2.2.1 ∈ lw_g := in_g 105 (by decide +kernel) (by decide +kernel)
theorem tw_106 : Cond.fieldLink RX1 39 RX1 (TX1 4).2.1 (TX1 4).2.2.1 ∈ lw_g := in_g 106 (by decide +kernel) (by decide +kernel)
theorem tw_107 : Cond.fieldLink RX8 138 RX1 (TX1 4).2.1 (TX1 4).2.2.1 ∈ lw_g := in_g 107 (by decide +kernel) (by decide +kernel)
theorem tw_108 : Cond.fieldLink RX1 42 RX1 (TX1 5).2.1 (TX1 5).2.2.1 ∈ lw_g := in_g 108 (by decide +kernel) (by decide +kernel)
theorem tw_109 : Cond.fieldLink RX8 141 RX1 (TX1 5).2.1 (TX1 5).2.2.1 ∈ lw_g := in_g 109 (by decide +kernel) (by decide +kernel)
theorem tw_110 : Cond.fieldLink RX1 45 RX1 (TX1 6).2.1 (TX1 6).2.2.1 ∈ lw_g := in_g 110 (by decide +kernel) (by decide +kernel)
theorem tw_111 : Cond.fieldLink RX8 144 RX1 (TX1 6).2.1 (TX1 6).2.2.1 ∈ lw_g := in_g 111 (by decide +kernel) (by decide +kernel)
theorem tw_112 : Cond.fieldLink RX1 48 RX1 (TX1 7).2.1 (TX1 7).2.2.1 ∈ lw_g := in_g 112 (by decide +kernel) (by decide +kernel)
theorem tw_113 : Cond.fieldLink RX1 51 RX1 (TX1 8).2.1 (TX1 8).2.2.1 ∈ lw_g := in_g 113 (by decide +kernel) (by decide +kernel)
theorem tw_114 : Cond.fieldLink RX8 44 RX1 (TX1 8).2.1 (TX1 8).2.2.1 ∈ lw_g := in_g 114 (by decide +kernel) (by decide +kernel)
theorem tw_115 : Cond.fieldLink RX1 55 RX1 (TX1 9).2.1 (TX1 9).2.2.1 ∈ lw_g := in_g 115 (by decide +kernel) (by decide +kernel)
theorem tw_116 : Cond.fieldLink RX8 209 RX1 (TX1 9).2.1 (TX1 9).2.2.1 ∈ lw_g := in_g 116 (by decide +kernel) (by decide +kernel)
theorem tw_152 : Cond.fieldLink RX3 24 RX3 (TX3 0).2.1 (TX3 0).2.2.1 ∈ lw_g := in_g 152 (by decide +kernel) (by decide +kernel)
theorem tw_153 : Cond.fieldLink RX5 72 RX3 (TX3 0).2.1 (TX3 0).2.2.1 ∈ lw_g := in_g 153 (by decide +kernel) (by decide +kernel)
theorem tw_154 : Cond.fieldLink RX8 72 RX3 (TX3 0).2.1 (TX3 0).2.2.1 ∈ lw_g := in_g 154 (by decide +kernel) (by decide +kernel)
theorem tw_155 : Cond.fieldLink RX3 30 RX3 (TX3 1).2.1 (TX3 1).2.2.1 ∈ lw_g := in_g 155 (by decide +kernel) (by decide +kernel)
theorem tw_156 : Cond.fieldLink RX8 150 RX3 (TX3 1).2.1 (TX3 1).2.2.1 ∈ lw_g := in_g 156 (by decide +kernel) (by decide +kernel)
theorem tw_157 : Cond.fieldLink RX3 33 RX3 (TX3 2).2.1 (TX3 2).2.2.1 ∈ lw_g := in_g 157 (by decide +kernel) (by decide +kernel)
theorem tw_158 : Cond.fieldLink RX8 151 RX3 (TX3 2).2.1 (TX3 2).2.2.1 ∈ lw_g := in_g 158 (by decide +kernel) (by decide +kernel)
theorem tw_159 : Cond.fieldLink RX3 36 RX3 (TX3 3).2.1 (TX3 3).2.2.1 ∈ lw_g := in_g 159 (by decide +kernel) (by decide +kernel)
theorem tw_160 : Cond.fieldLink RX8 154 RX3 (TX3 3).2.1 (TX3 3).2.2.1 ∈ lw_g := in_g 160 (by decide +kernel) (by decide +kernel)
theorem tw_176 : Cond.fieldLink RX7 9 RX7 (TX7 0).2.1 (TX7 0).2.2.1 ∈ lw_g := in_g 176 (by decide +kernel) (by decide +kernel)
theorem tw_177 : Cond.fieldLink RX5 73 RX7 (TX7 0).2.1 (TX7 0).2.2.1 ∈ lw_g := in_g 177 (by decide +kernel) (by decide +kernel)
theorem tw_178 : Cond.fieldLink RX8 80 RX7 (TX7 0).2.1 (TX7 0).2.2.1 ∈ lw_g := in_g 178 (by decide +kernel) (by decide +kernel)
theorem tw_179 : Cond.fieldLink RX7 15 RX7 (TX7 1).2.1 (TX7 1).2.2.1 ∈ lw_g := in_g 179 (by decide +kernel) (by decide +kernel)
theorem tw_180 : Cond.fieldLink RX7 18 RX7 (TX7 2).2.1 (TX7 2).2.2.1 ∈ lw_g := in_g 180 (by decide +kernel) (by decide +kernel)
theorem tw_181 : Cond.fieldLink RX5 111 RX7 (TX7 2).2.1 (TX7 2).2.2.1 ∈ lw_g := in_g 181 (by decide +kernel) (by decide +kernel)
theorem tw_182 : Cond.fieldLink RX8 165 RX7 (TX7 2).2.1 (TX7 2).2.2.1 ∈ lw_g := in_g 182 (by decide +kernel) (by decide +kernel)
theorem tw_183 : Cond.fieldLink RX7 21 RX7 (TX7 3).2.1 (TX7 3).2.2.1 ∈ lw_g := in_g 183 (by decide +kernel) (by decide +kernel)
theorem tw_184 : Cond.fieldLink RX8 168 RX7 (TX7 3).2.1 (TX7 3).2.2.1 ∈ lw_g := in_g 184 (by decide +kernel) (by decide +kernel)
theorem tw_200 : Cond.fieldLink RX0 9 RX0 (TX0 0).2.1 (TX0 0).2.2.1 ∈ lw_g := in_g 200 (by decide +kernel) (by decide +kernel)
theorem tw_201 : Cond.fieldLink RX8 101 RX0 (TX0 0).2.1 (TX0 0).2.2.1 ∈ lw_g := in_g 201 (by decide +kernel) (by decide +kernel)
theorem tw_202 : Cond.fieldLink RX0 15 RX0 (TX0 1).2.1 (TX0 1).2.2.1 ∈ lw_g := in_g 202 (by decide +kernel) (by decide +kernel)
theorem tw_203 : Cond.fieldLink RX8 109 RX0 (TX0 1).2.1 (TX0 1).2.2.1 ∈ lw_g := in_g 203 (by decide +kernel) (by decide +kernel)
theorem tw_204 : Cond.fieldLink RX0 18 RX0 (TX0 2).2.1 (TX0 2).2.2.1 ∈ lw_g := in_g 204 (by decide +kernel) (by decide +kernel)
theorem tw_205 : Cond.fieldLink RX8 112 RX0 (TX0 2).2.1 (TX0 2).2.2.1 ∈ lw_g := in_g 205 (by decide +kernel) (by decide +kernel)
theorem tw_206 : Cond.fieldLink RX0 21 RX0 (TX0 3).2.1 (TX0 3).2.2.1 ∈ lw_g := in_g 206 (by decide +kernel) (by decide +kernel)
theorem tw_207 : Cond.fieldLink RX5 76 RX0 (TX0 3).2.1 (TX0 3).2.2.1 ∈ lw_g := in_g 207 (by decide +kernel) (by decide +kernel)
theorem tw_208 : Cond.fieldLink RX2 38 RX0 (TX0 3).2.1 (TX0 3).2.2.1 ∈ lw_g := in_g 208 (by decide +kernel) (by decide +kernel)
theorem tw_209 : Cond.fieldLink RX8 99 RX0 (TX0 3).2.1 (TX0 3).2.2.1 ∈ lw_g := in_g 209 (by decide +kernel) (by decide +kernel)
theorem tw_219 : Cond.fieldLink RX5 24 RX5 (TX5 0).2.1 (TX5 0).2.2.1 ∈ lw_g := in_g 219 (by decide +kernel) (by decide +kernel)
theorem tw_220 : Cond.fieldLink RX8 75 RX5 (TX5 0).2.1 (TX5 0).2.2.1 ∈ lw_g := in_g 220 (by decide +kernel) (by decide +kernel)
theorem tw_221 : Cond.fieldLink RX5 33 RX5 (TX5 1).2.1 (TX5 1).2.2.1 ∈ lw_g := in_g 221 (by decide +kernel) (by decide +kernel)
theorem tw_222 : Cond.fieldLink RX8 40 RX5 (TX5 1).2.1 (TX5 1).2.2.1 ∈ lw_g := in_g 222 (by decide +kernel) (by decide +kernel)
theorem tw_223 : Cond.fieldLink RX5 40 RX5 (TX5 2).2.1 (TX5 2).2.2.1 ∈ lw_g := in_g 223 (by decide +kernel) (by decide +kernel)
theorem tw_224 : Cond.fieldLink RX8 68 RX5 (TX5 2).2.1 (TX5 2).2.2.1 ∈ lw_g := in_g 224 (by decide +kernel) (by decide +kernel)
theorem tw_225 : Cond.fieldLink RX5 47 RX5 (TX5 3).2.1 (TX5 3).2.2.1 ∈ lw_g := in_g 225 (by decide +kernel) (by decide +kernel)
theorem tw_226 : Cond.fieldLink RX8 76 RX5 (TX5 3).2.1 (TX5 3).2.2.1 ∈ lw_g := in_g 226 (by decide +kernel) (by decide +kernel)
theorem tw_227 : Cond.fieldLink RX5 54 RX5 (TX5 4).2.1 (TX5 4).2.2.1 ∈ lw_g := in_g 227 (by decide +kernel) (by decide +kernel)
theorem tw_228 : Cond.fieldLink RX8 86 RX5 (TX5 4).2.1 (TX5 4).2.2.1 ∈ lw_g := in_g 228 (by decide +kernel) (by decide +kernel)
theorem tw_229 : Cond.fieldLink RX5 58 RX5 (TX5 5).2.1 (TX5 5).2.2.1 ∈ lw_g := in_g 229 (by decide +kernel) (by decide +kernel)
theorem tw_230 : Cond.fieldLink RX8 119 RX5 (TX5 5).2.1 (TX5 5).2.2.1 ∈ lw_g := in_g 230 (by decide +kernel) (by decide +kernel)
theorem tw_231 : Cond.fieldLink RX5 62 RX5 (TX5 6).2.1 (TX5 6).2.2.1 ∈ lw_g := in_g 231 (by decide +kernel) (by decide +kernel)
theorem tw_232 : Cond.fieldLink RX8 171 RX5 (TX5 6).2.1 (TX5 6).2.2.1 ∈ lw_g := in_g 232 (by decide +kernel) (by decide +kernel)
theorem tw_257 : Cond.fieldLink RX8 227 RX6 (TX6 0).2.1 (TX6 0).2.2.1 ∈ lw_g := in_g 257 (by decide +kernel) (by decide +kernel)
theorem tw_259 : Cond.fieldLink RX8 230 RX6 (TX6 1).2.1 (TX6 1).2.2.1 ∈ lw_g := in_g 259 (by decide +kernel) (by decide +kernel)
theorem tw_273 : Cond.fieldLink RX2 12 RX2 (TX2 0).2.1 (TX2 0).2.2.1 ∈ lw_g := in_g 273 (by decide +kernel) (by decide +kernel)
theorem tw_274 : Cond.fieldLink RX8 220 RX2 (TX2 0).2.1 (TX2 0).2.2.1 ∈ lw_g := in_g 274 (by decide +kernel) (by decide +kernel)
theorem tw_275 : Cond.fieldLink RX2 18 RX2 (TX2 1).2.1 (TX2 1).2.2.1 ∈ lw_g := in_g 275 (by decide +kernel) (by decide +kernel)
theorem tw_276 : Cond.fieldLink RX2 22 RX2 (TX2 2).2.1 (TX2 2).2.2.1 ∈ lw_g := in_g 276 (by decide +kernel) (by decide +kernel)
theorem tw_277 : Cond.fieldLink RX8 178 RX2 (TX2 2).2.1 (TX2 2).2.2.1 ∈ lw_g := in_g 277 (by decide +kernel) (by decide +kernel)
theorem tw_278 : Cond.fieldLink RX2 26 RX2 (TX2 3).2.1 (TX2 3).2.2.1 ∈ lw_g := in_g 278 (by decide +kernel) (by decide +kernel)
theorem tw_279 : Cond.fieldLink RX2 29 RX2 (TX2 4).2.1 (TX2 4).2.2.1 ∈ lw_g := in_g 279 (by decide +kernel) (by decide +kernel)
theorem tw_280 : Cond.fieldLink RX2 32 RX2 (TX2 5).2.1 (TX2 5).2.2.1 ∈ lw_g := in_g 280 (by decide +kernel) (by decide +kernel)
theorem tw_281 : Cond.fieldLink RX2 35 RX2 (TX2 6).2.1 (TX2 6).2.2.1 ∈ lw_g := in_g 281 (by decide +kernel) (by decide +kernel)
theorem tw_298 : Cond.fieldLink RX8 10 RX8 (TX8 0).2.1 (TX8 0).2.2.1 ∈ lw_g := in_g 298 (by decide +kernel) (by decide +kernel)
theorem tw_299 : Cond.fieldLink RX8 16 RX8 (TX8 1).2.1 (TX8 1).2.2.1 ∈ lw_g := in_g 299 (by decide +kernel) (by decide +kernel)
theorem tw_300 : Cond.fieldLink RX8 22 RX8 (TX8 2).2.1 (TX8 2).2.2.1 ∈ lw_g := in_g 300 (by decide +kernel) (by decide +kernel)
theorem tw_301 : Cond.fieldLink RX8 26 RX8 (TX8 3).2.1 (TX8 3).2.2.1 ∈ lw_g := in_g 301 (by decide +kernel) (by decide +kernel)
theorem tw_302 : Cond.fieldLink RX8 32 RX8 (TX8 4).2.1 (TX8 4).2.2.1 ∈ lw_g := in_g 302 (by decide +kernel) (by decide +kernel)
theorem tw_318 : Cond.methodLink RX8 36 yX8_within ∈ lw_g := in_g 318 (by decide +kernel) (by decide +kernel)
theorem tw_321 : Cond.methodLink RX8 50 yX5_begin ∈ lw_g := in_g 321 (by decide +kernel) (by decide +kernel)
theorem tw_325 : Cond.methodLink RX5 65 yX4_reset ∈ lw_g := in_g 325 (by decide +kernel) (by decide +kernel)
theorem tw_326 : Cond.methodLink RX5 68 yX1_begin ∈ lw_g := in_g 326 (by decide +kernel) (by decide +kernel)
theorem tw_330 : Cond.methodLink RX1 62 yX4_reset ∈ lw_g := in_g 330 (by decide +kernel) (by decide +kernel)
theorem tw_331 : Cond.methodLink RX5 79 yX5_goBack ∈ lw_g := in_g 331 (by decide +kernel) (by decide +kernel)
theorem tw_335 : Cond.methodLink RX5 82 yX1_goBack ∈ lw_g := in_g 335 (by decide +kernel) (by decide +kernel)
theorem tw_342 : Cond.methodLink RX5 83 yX3_goBack ∈ lw_g := in_g 342 (by decide +kernel) (by decide +kernel)
theorem tw_347 : Cond.methodLink RX5 84 yX7_goBack ∈ lw_g := in_g 347 (by decide +kernel) (by decide +kernel)
theorem tw_355 : Cond.methodLink RX8 54 yX1_has ∈ lw_g := in_g 355 (by decide +kernel) (by decide +kernel)
theorem tw_360 : Cond.methodLink RX8 62 yX4_change ∈ lw_g := in_g 360 (by decide +kernel) (by decide +kernel)
theorem tw_391 : Cond.methodLink RX8 162 yX7_measured ∈ lw_g := in_g 391 (by decide +kernel) (by decide +kernel)
theorem tw_395 : Cond.methodLink RX8 174 yX0_next ∈ lw_g := in_g 395 (by decide +kernel) (by decide +kernel)
theorem tw_399 : Cond.methodLink RX8 147 yX4_value ∈ lw_g := in_g 399 (by decide +kernel) (by decide +kernel)
theorem tw_415 : Cond.constant RX8 122 200000 ∈ lw_g := in_g 415 (by decide +kernel) (by decide +kernel)
theorem tw_416 : Cond.methodLink RX8 123 yX5_makeTick ∈ lw_g := in_g 416 (by decide +kernel) (by decide +kernel)
theorem tw_420 : Cond.methodLink RX5 101 yX0_carryOut ∈ lw_g := in_g 420 (by decide +kernel) (by decide +kernel)
theorem tw_424 : Cond.methodLink RX0 49 yX1_obey ∈ lw_g := in_g 424 (by decide +kernel) (by decide +kernel)
theorem tw_428 : Cond.methodLink RX5 105 yX1_keepCommands ∈ lw_g := in_g 428 (by decide +kernel) (by decide +kernel)
theorem tw_432 : Cond.methodLink RX1 77 yX1_rowOf ∈ lw_g := in_g 432 (by decide +kernel) (by decide +kernel)
theorem tw_435 : Cond.methodLink RX1 117 yJ9_floorMod_7cf53 ∈ lw_g := in_g 435 (by decide +kernel) (by decide +kernel)
theorem tw_438 : Cond.methodLink RX1 81 arraycopyName ∈ lw_g := in_g 438 (by decide +kernel) (by decide +kernel)
theorem tw_439 : Cond.methodLink RX5 108 yX7_blow ∈ lw_g := in_g 439 (by decide +kernel) (by decide +kernel)
theorem tw_443 : Cond.methodLink RX7 24 yX4_value ∈ lw_g := in_g 443 (by decide +kernel) (by decide +kernel)
theorem tw_447 : Cond.methodLink RX8 247 yJ9_floorDiv_f86c9 ∈ lw_g := in_g 447 (by decide +kernel) (by decide +kernel)
theorem tw_450 : Cond.methodLink RX7 34 yX7_measured ∈ lw_g := in_g 450 (by decide +kernel) (by decide +kernel)
theorem tw_451 : Cond.methodLink RX7 38 yX7_enter ∈ lw_g := in_g 451 (by decide +kernel) (by decide +kernel)
theorem tw_455 : Cond.methodLink RX7 42 yX7_calmDown ∈ lw_g := in_g 455 (by decide +kernel) (by decide +kernel)
theorem tw_459 : Cond.methodLink RX5 114 yX4_value ∈ lw_g := in_g 459 (by decide +kernel) (by decide +kernel)
theorem tw_460 : Cond.methodLink RX5 118 yX1_open ∈ lw_g := in_g 460 (by decide +kernel) (by decide +kernel)
theorem tw_464 : Cond.methodLink RX1 87 yX4_value ∈ lw_g := in_g 464 (by decide +kernel) (by decide +kernel)
theorem tw_465 : Cond.methodLink RX1 91 yX1_commandAt ∈ lw_g := in_g 465 (by decide +kernel) (by decide +kernel)
theorem tw_469 : Cond.methodLink RX1 94 Lib.Math.max.name ∈ lw_g := in_g 469 (by decide +kernel) (by decide +kernel)
theorem tw_470 : Cond.methodLink RX1 99 Lib.Math.min.name ∈ lw_g := in_g 470 (by decide +kernel) (by decide +kernel)
theorem tw_476 : Cond.methodLink RX8 198 Lib.Math.min.name ∈ lw_g := in_g 476 (by decide +kernel) (by decide +kernel)
theorem tw_477 : Cond.methodLink RX8 234 Lib.Math.max.name ∈ lw_g := in_g 477 (by decide +kernel) (by decide +kernel)
theorem tw_478 : Cond.methodLink RX5 122 yX3_supply ∈ lw_g := in_g 478 (by decide +kernel) (by decide +kernel)
theorem tw_482 : Cond.methodLink RX3 51 yX1_demandOf ∈ lw_g := in_g 482 (by decide +kernel) (by decide +kernel)
theorem tw_486 : Cond.methodLink RX1 106 yX1_demandAt ∈ lw_g := in_g 486 (by decide +kernel) (by decide +kernel)
theorem tw_490 : Cond.methodLink RX3 57 yX4_value ∈ lw_g := in_g 490 (by decide +kernel) (by decide +kernel)
theorem tw_491 : Cond.methodLink RX3 61 Lib.Math.min.name ∈ lw_g := in_g 491 (by decide +kernel) (by decide +kernel)
theorem tw_493 : Cond.methodLink RX3 70 yX1_flow ∈ lw_g := in_g 493 (by decide +kernel) (by decide +kernel)
theorem tw_498 : Cond.methodLink RX5 125 yX7_measured ∈ lw_g := in_g 498 (by decide +kernel) (by decide +kernel)
theorem tw_499 : Cond.methodLink RX5 129 yX1_rise ∈ lw_g := in_g 499 (by decide +kernel) (by decide +kernel)
theorem tw_503 : Cond.constantLong RX1 113 1000000 ∈ lw_g := in_g 503 (by decide +kernel) (by decide +kernel)
theorem tw_504 : Cond.constantLong RX1 115 100000 ∈ lw_g := in_g 504 (by decide +kernel) (by decide +kernel)
theorem tw_505 : Cond.methodLink RX5 132 yX3_countShort ∈ lw_g := in_g 505 (by decide +kernel) (by decide +kernel)
theorem tw_509 : Cond.methodLink RX3 74 yX3_isShort ∈ lw_g := in_g 509 (by decide +kernel) (by decide +kernel)
theorem tw_513 : Cond.methodLink RX5 135 yX1_driftsBeyond ∈ lw_g := in_g 513 (by decide +kernel) (by decide +kernel)
theorem tw_526 : Cond.constant RX8 85 100000 ∈ lw_g := in_g 526 (by decide +kernel) (by decide +kernel)
theorem tw_527 : Cond.methodLink RX8 90 yX0_insert ∈ lw_g := in_g 527 (by decide +kernel) (by decide +kernel)
theorem tw_531 : Cond.methodLink RX0 33 yX0_next ∈ lw_g := in_g 531 (by decide +kernel) (by decide +kernel)
theorem tw_532 : Cond.methodLink RX0 37 yX0_shift ∈ lw_g := in_g 532 (by decide +kernel) (by decide +kernel)
theorem tw_536 : Cond.methodLink RX0 55 arraycopyName ∈ lw_g := in_g 536 (by decide +kernel) (by decide +kernel)
theorem tw_541 : Cond.methodLink RX8 95 yX0_has ∈ lw_g := in_g 541 (by decide +kernel) (by decide +kernel)
theorem tw_550 : Cond.methodLink RX8 115 yX1_obey ∈ lw_g := in_g 550 (by decide +kernel) (by decide +kernel)
theorem tw_559 : Cond.constant RX8 100 (-100000) ∈ lw_g := in_g 559 (by decide +kernel) (by decide +kernel)
theorem tw_560 : Cond.methodLink RX8 105 yX0_postpone ∈ lw_g := in_g 560 (by decide +kernel) (by decide +kernel)
theorem tw_564 : Cond.methodLink RX0 41 yX0_takeOut ∈ lw_g := in_g 564 (by decide +kernel) (by decide +kernel)
theorem tw_568 : Cond.methodLink RX0 45 yX0_insert ∈ lw_g := in_g 568 (by decide +kernel) (by decide +kernel)
theorem tw_580 : Cond.methodLink RX8 181 yX5_copy ∈ lw_g := in_g 580 (by decide +kernel) (by decide +kernel)
theorem tw_584 : Cond.methodLink RX5 85 yX4_copy ∈ lw_g := in_g 584 (by decide +kernel) (by decide +kernel)
theorem tw_591 : Cond.methodLink RX8 251 arraycopyName ∈ lw_g := in_g 591 (by decide +kernel) (by decide +kernel)
theorem tw_592 : Cond.methodLink RX5 89 yX1_copy ∈ lw_g := in_g 592 (by decide +kernel) (by decide +kernel)
theorem tw_596 : Cond.methodLink RX1 69 yX4_copy ∈ lw_g := in_g 596 (by decide +kernel) (by decide +kernel)
theorem tw_598 : Cond.methodLink RX5 92 yX3_copy ∈ lw_g := in_g 598 (by decide +kernel) (by decide +kernel)
theorem tw_602 : Cond.methodLink RX3 43 yX4_copy ∈ lw_g := in_g 602 (by decide +kernel) (by decide +kernel)
theorem tw_604 : Cond.methodLink RX5 95 yX7_copy ∈ lw_g := in_g 604 (by decide +kernel) (by decide +kernel)
theorem tw_608 : Cond.methodLink RX5 98 yX0_copy ∈ lw_g := in_g 608 (by decide +kernel) (by decide +kernel)
theorem tw_613 : Cond.methodLink RX8 185 yX8_greatestDemand ∈ lw_g := in_g 613 (by decide +kernel) (by decide +kernel)
theorem tw_617 : Cond.methodLink RX8 188 yX8_shortTicks ∈ lw_g := in_g 617 (by decide +kernel) (by decide +kernel)
theorem tw_621 : Cond.methodLink RX8 190 yX8_firstShort ∈ lw_g := in_g 621 (by decide +kernel) (by decide +kernel)
theorem tw_625 : Cond.methodLink RX8 237 yX3_isShort ∈ lw_g := in_g 625 (by decide +kernel) (by decide +kernel)
theorem tw_626 : Cond.methodLink RX8 193 yX8_wetTicks ∈ lw_g := in_g 626 (by decide +kernel) (by decide +kernel)
theorem tw_630 : Cond.methodLink RX8 195 yX8_greatestHeight ∈ lw_g := in_g 630 (by decide +kernel) (by decide +kernel)
theorem tw_634 : Cond.methodLink RX8 240 yX1_greatestHeightNow ∈ lw_g := in_g 634 (by decide +kernel) (by decide +kernel)
theorem tw_642 : Cond.methodLink RX8 223 yX8_slotAt ∈ lw_g := in_g 642 (by decide +kernel) (by decide +kernel)
theorem tw_657 : Cond.methodLink RX8 203 yX8_staysSupplied ∈ lw_g := in_g 657 (by decide +kernel) (by decide +kernel)
theorem tw_661 : Cond.methodLink RX8 243 yX3_someShort ∈ lw_g := in_g 661 (by decide +kernel) (by decide +kernel)
theorem tw_672 : Cond.methodLink RX8 206 yX8_staysDry ∈ lw_g := in_g 672 (by decide +kernel) (by decide +kernel)
theorem tw_683 : Cond.methodLink RX8 126 yX5_goBack ∈ lw_g := in_g 683 (by decide +kernel) (by decide +kernel)
theorem tw_693 : Cond.methodLink RX8 96 yX0_takeOut ∈ lw_g := in_g 693 (by decide +kernel) (by decide +kernel)
theorem tw_704 : Cond.methodLink RX8 212 yX2_append ∈ lw_g := in_g 704 (by decide +kernel) (by decide +kernel)
theorem tw_712 : Cond.methodLink RX8 216 yX2_findFault ∈ lw_g := in_g 712 (by decide +kernel) (by decide +kernel)
theorem tw_716 : Cond.methodLink RX2 41 yX2_accepts ∈ lw_g := in_g 716 (by decide +kernel) (by decide +kernel)
theorem tw_720 : Cond.methodLink RX2 49 yX2_endsTime ∈ lw_g := in_g 720 (by decide +kernel) (by decide +kernel)
theorem tw_724 : Cond.methodLink RX2 52 yX2_isDigitUpTo ∈ lw_g := in_g 724 (by decide +kernel) (by decide +kernel)
theorem tw_728 : Cond.methodLink RX2 56 yX2_endsSet ∈ lw_g := in_g 728 (by decide +kernel) (by decide +kernel)
theorem tw_732 : Cond.methodLink RX2 59 yX2_isLetter ∈ lw_g := in_g 732 (by decide +kernel) (by decide +kernel)
theorem tw_736 : Cond.methodLink RX2 45 yX2_endsCue ∈ lw_g := in_g 736 (by decide +kernel) (by decide +kernel)
theorem tw_740 : Cond.methodLink RX2 62 yX0_insert ∈ lw_g := in_g 740 (by decide +kernel) (by decide +kernel)
theorem tw_741 : Cond.constant RX8 219 90000 ∈ lw_g := in_g 741 (by decide +kernel) (by decide +kernel)
theorem tn_339 : Cond.methodLinkNest RX1 65 yX8_clear RX8 ∈ lw_n := in_n 339 (by decide +kernel) (by decide +kernel)
theorem tn_346 : Cond.methodLinkNest RX3 39 yX8_clear RX8 ∈ lw_n := in_n 346 (by decide +kernel) (by decide +kernel)
theorem tn_359 : Cond.methodLinkNest RX1 58 yX8_within RX8 ∈ lw_n := in_n 359 (by decide +kernel) (by decide +kernel)
theorem tn_364 : Cond.methodLinkNest RX4 43 yX8_within RX8 ∈ lw_n := in_n 364 (by decide +kernel) (by decide +kernel)
theorem tn_444 : Cond.methodLinkNest RX7 30 yX8_quotient RX8 ∈ lw_n := in_n 444 (by decide +kernel) (by decide +kernel)
theorem tn_473 : Cond.methodLinkNest RX1 102 yX8_toward RX8 ∈ lw_n := in_n 473 (by decide +kernel) (by decide +kernel)
theorem tn_492 : Cond.methodLinkNest RX3 66 yX8_toward RX8 ∈ lw_n := in_n 492 (by decide +kernel) (by decide +kernel)
theorem tn_497 : Cond.methodLinkNest RX1 109 yX8_quotient RX8 ∈ lw_n := in_n 497 (by decide +kernel) (by decide +kernel)
theorem tn_545 : Cond.methodLinkNest RX0 25 yX8_within RX8 ∈ lw_n := in_n 545 (by decide +kernel) (by decide +kernel)
theorem tn_588 : Cond.methodLinkNest RX4 47 yX8_copyRow RX8 ∈ lw_n := in_n 588 (by decide +kernel) (by decide +kernel)
theorem tn_597 : Cond.methodLinkNest RX1 73 yX8_copyRow RX8 ∈ lw_n := in_n 597 (by decide +kernel) (by decide +kernel)
theorem tn_603 : Cond.methodLinkNest RX3 47 yX8_copyRow RX8 ∈ lw_n := in_n 603 (by decide +kernel) (by decide +kernel)
theorem tn_612 : Cond.methodLinkNest RX0 29 yX8_copyRow RX8 ∈ lw_n := in_n 612 (by decide +kernel) (by decide +kernel)
theorem twac_n : Cond.native arraycopyName ∈ lw_g := in_g 66 (by decide +kernel) (by decide +kernel)
theorem twac_s : Cond.static arraycopyName ∈ lw_g := in_g 65 (by decide +kernel) (by decide +kernel)
theorem twac_i : Cond.initialized "java/lang/System" ∈ lw_g := in_g 24 (by decide +kernel) (by decide +kernel)
theorem twm_i : Cond.initialized "java/lang/Math" ∈ lw_g := in_g 23 (by decide +kernel) (by decide +kernel)
theorem twm_max_s : Cond.static Lib.Math.max.name ∈ lw_g := in_g 58 (by decide +kernel) (by decide +kernel)
theorem twm_max_c : Cond.code Lib.Math.max.name Lib.Math.max.code 2 (some .int) ∈ lw_g := in_g 59 (by decide +kernel) (by decide +kernel)
theorem twm_min_s : Cond.static Lib.Math.min.name ∈ lw_g := in_g 471 (by decide +kernel) (by decide +kernel)
theorem twm_min_c : Cond.code Lib.Math.min.name Lib.Math.min.code 2 (some .int) ∈ lw_g := in_g 472 (by decide +kernel) (by decide +kernel)
theorem wyX8_within : Wy yX8_within cX8_within 3 ((some FieldType.boolean)) 3 := ⟨in_g 320 (by decide +kernel) (by decide +kernel), in_g 20 (by decide +kernel) (by decide +kernel), by decide +kernel, by decide +kernel, by decide +kernel⟩
theorem tsX8_within : Cond.static yX8_within ∈ lw_g := in_g 319 (by decide +kernel) (by decide +kernel)
theorem wyX0_has : Wy yX0_has cX0_has 2 ((some FieldType.boolean)) 1 := ⟨in_g 544 (by decide +kernel) (by decide +kernel), in_g 28 (by decide +kernel) (by decide +kernel), by decide +kernel, by decide +kernel, by decide +kernel⟩
theorem tvX0_has_i : Cond.instanceMethod yX0_has ∈ lw_g := in_g 542 (by decide +kernel) (by decide +kernel)
theorem tvX0_has_s : Cond.selects yX0_has.cls yX0_has yX0_has ∈ lw_g := in_g 543 (by decide +kernel) (by decide +kernel)
theorem wyX8_copyRow : Wy yX8_copyRow cX8_copyRow 2 none 2 := ⟨in_g 590 (by decide +kernel) (by decide +kernel), in_g 20 (by decide +kernel) (by decide +kernel), by decide +kernel, by decide +kernel, by decide +kernel⟩
theorem tsX8_copyRow : Cond.static yX8_copyRow ∈ lw_g := in_g 589 (by decide +kernel) (by decide +kernel)
theorem wyX0_copy : Wy yX0_copy cX0_copy 2 none 1 := ⟨in_g 611 (by decide +kernel) (by decide +kernel), in_g 28 (by decide +kernel) (by decide +kernel), by decide +kernel, by decide +kernel, by decide +kernel⟩
theorem tvX0_copy_i : Cond.instanceMethod yX0_copy ∈ lw_g := in_g 609 (by decide +kernel) (by decide +kernel)
theorem tvX0_copy_s : Cond.selects yX0_copy.cls yX0_copy yX0_copy ∈ lw_g := in_g 610 (by decide +kernel) (by decide +kernel)
theorem wyX0_next : Wy yX0_next cX0_next 3 ((some FieldType.int)) 1 := ⟨in_g 398 (by decide +kernel) (by decide +kernel), in_g 28 (by decide +kernel) (by decide +kernel), by decide +kernel, by decide +kernel, by decide +kernel⟩
theorem tvX0_next_i : Cond.instanceMethod yX0_next ∈ lw_g := in_g 396 (by decide +kernel) (by decide +kernel)
theorem tvX0_next_s : Cond.selects yX0_next.cls yX0_next yX0_next ∈ lw_g := in_g 397 (by decide +kernel) (by decide +kernel)
theorem wyX0_shift : Wy yX0_shift cX0_shift 4 none 3 := ⟨in_g 535 (by decide +kernel) (by decide +kernel), in_g 28 (by decide +kernel) (by decide +kernel), by decide +kernel, by decide +kernel, by decide +kernel⟩
theorem tvX0_shift_i : Cond.instanceMethod yX0_shift ∈ lw_g := in_g 534 (by decide +kernel) (by decide +kernel)
theorem tvX0_shift_s : Cond.selects yX0_shift.cls yX0_shift yX0_shift ∈ lw_g := in_g 4 (by decide +kernel) (by decide +kernel)
theorem wyX0_insert : Wy yX0_insert cX0_insert 5 ((some FieldType.int)) 3 := ⟨in_g 530 (by decide +kernel) (by decide +kernel), in_g 28 (by decide +kernel) (by decide +kernel), by decide +kernel, by decide +kernel, by decide +kernel⟩
theorem tvX0_insert_i : Cond.instanceMethod yX0_insert ∈ lw_g := in_g 528 (by decide +kernel) (by decide +kernel)
theorem tvX0_insert_s : Cond.selects yX0_insert.cls yX0_insert yX0_insert ∈ lw_g := in_g 529 (by decide +kernel) (by decide +kernel)
theorem wyX0_takeOut : Wy yX0_takeOut cX0_takeOut 2 none 1 := ⟨in_g 567 (by decide +kernel) (by decide +kernel), in_g 28 (by decide +kernel) (by decide +kernel), by decide +kernel, by decide +kernel, by decide +kernel⟩
theorem tvX0_takeOut_i : Cond.instanceMethod yX0_takeOut ∈ lw_g := in_g 565 (by decide +kernel) (by decide +kernel)
theorem tvX0_takeOut_s : Cond.selects yX0_takeOut.cls yX0_takeOut yX0_takeOut ∈ lw_g := in_g 566 (by decide +kernel) (by decide +kernel)
theorem wyX0_postpone : Wy yX0_postpone cX0_postpone 6 ((some FieldType.int)) 2 := ⟨in_g 563 (by decide +kernel) (by decide +kernel), in_g 28 (by decide +kernel) (by decide +kernel), by decide +kernel, by decide +kernel, by decide +kernel⟩
theorem tvX0_postpone_i : Cond.instanceMethod yX0_postpone ∈ lw_g := in_g 561 (by decide +kernel) (by decide +kernel)
theorem tvX0_postpone_s : Cond.selects yX0_postpone.cls yX0_postpone yX0_postpone ∈ lw_g := in_g 562 (by decide +kernel) (by decide +kernel)
theorem wyX1_obey : Wy yX1_obey cX1_obey 4 none 2 := ⟨in_g 427 (by decide +kernel) (by decide +kernel), in_g 25 (by decide +kernel) (by decide +kernel), by decide +kernel, by decide +kernel, by decide +kernel⟩
theorem tvX1_obey_i : Cond.instanceMethod yX1_obey ∈ lw_g := in_g 425 (by decide +kernel) (by decide +kernel)
theorem tvX1_obey_s : Cond.selects yX1_obey.cls yX1_obey yX1_obey ∈ lw_g := in_g 426 (by decide +kernel) (by decide +kernel)
theorem wyX0_carryOut : Wy yX0_carryOut cX0_carryOut 4 none 2 := ⟨in_g 423 (by decide +kernel) (by decide +kernel), in_g 28 (by decide +kernel) (by decide +kernel), by decide +kernel, by decide +kernel, by decide +kernel⟩
theorem tvX0_carryOut_i : Cond.instanceMethod yX0_carryOut ∈ lw_g := in_g 421 (by decide +kernel) (by decide +kernel)
theorem tvX0_carryOut_s : Cond.selects yX0_carryOut.cls yX0_carryOut yX0_carryOut ∈ lw_g := in_g 422 (by decide +kernel) (by decide +kernel)
theorem wyX1_has : Wy yX1_has cX1_has 2 ((some FieldType.boolean)) 1 := ⟨in_g 358 (by decide +kernel) (by decide +kernel), in_g 25 (by decide +kernel) (by decide +kernel), by decide +kernel, by decide +kernel, by decide +kernel⟩
theorem tvX1_has_i : Cond.instanceMethod yX1_has ∈ lw_g := in_g 356 (by decide +kernel) (by decide +kernel)
theorem tvX1_has_s : Cond.selects yX1_has.cls yX1_has yX1_has ∈ lw_g := in_g 357 (by decide +kernel) (by decide +kernel)
theorem wyX4_reset : Wy yX4_reset cX4_reset 2 none 0 := ⟨in_g 63 (by decide +kernel) (by decide +kernel), in_g 22 (by decide +kernel) (by decide +kernel), by decide +kernel, by decide +kernel, by decide +kernel⟩
theorem tvX4_reset_i : Cond.instanceMethod yX4_reset ∈ lw_g := in_g 61 (by decide +kernel) (by decide +kernel)
theorem tvX4_reset_s : Cond.selects yX4_reset.cls yX4_reset yX4_reset ∈ lw_g := in_g 62 (by decide +kernel) (by decide +kernel)
theorem wyX1_begin : Wy yX1_begin cX1_begin 2 none 1 := ⟨in_g 329 (by decide +kernel) (by decide +kernel), in_g 25 (by decide +kernel) (by decide +kernel), by decide +kernel, by decide +kernel, by decide +kernel⟩
theorem tvX1_begin_i : Cond.instanceMethod yX1_begin ∈ lw_g := in_g 327 (by decide +kernel) (by decide +kernel)
theorem tvX1_begin_s : Cond.selects yX1_begin.cls yX1_begin yX1_begin ∈ lw_g := in_g 328 (by decide +kernel) (by decide +kernel)
theorem wyX8_clear : Wy yX8_clear cX8_clear 2 none 1 := ⟨in_g 341 (by decide +kernel) (by decide +kernel), in_g 20 (by decide +kernel) (by decide +kernel), by decide +kernel, by decide +kernel, by decide +kernel⟩
theorem tsX8_clear : Cond.static yX8_clear ∈ lw_g := in_g 340 (by decide +kernel) (by decide +kernel)
theorem wyX1_goBack : Wy yX1_goBack cX1_goBack 1 none 0 := ⟨in_g 338 (by decide +kernel) (by decide +kernel), in_g 25 (by decide +kernel) (by decide +kernel), by decide +kernel, by decide +kernel, by decide +kernel⟩
theorem tvX1_goBack_i : Cond.instanceMethod yX1_goBack ∈ lw_g := in_g 336 (by decide +kernel) (by decide +kernel)
theorem tvX1_goBack_s : Cond.selects yX1_goBack.cls yX1_goBack yX1_goBack ∈ lw_g := in_g 337 (by decide +kernel) (by decide +kernel)
theorem wyX4_copy : Wy yX4_copy cX4_copy 2 none 1 := ⟨in_g 587 (by decide +kernel) (by decide +kernel), in_g 22 (by decide +kernel) (by decide +kernel), by decide +kernel, by decide +kernel, by decide +kernel⟩
theorem tvX4_copy_i : Cond.instanceMethod yX4_copy ∈ lw_g := in_g 585 (by decide +kernel) (by decide +kernel)
theorem tvX4_copy_s : Cond.selects yX4_copy.cls yX4_copy yX4_copy ∈ lw_g := in_g 586 (by decide +kernel) (by decide +kernel)
theorem wyX1_copy : Wy yX1_copy cX1_copy 2 none 1 := ⟨in_g 595 (by decide +kernel) (by decide +kernel), in_g 25 (by decide +kernel) (by decide +kernel), by decide +kernel, by decide +kernel, by decide +kernel⟩
theorem tvX1_copy_i : Cond.instanceMethod yX1_copy ∈ lw_g := in_g 593 (by decide +kernel) (by decide +kernel)
theorem tvX1_copy_s : Cond.selects yX1_copy.cls yX1_copy yX1_copy ∈ lw_g := in_g 594 (by decide +kernel) (by decide +kernel)
theorem wyJ9_floorMod_7cf53 : Wy yJ9_floorMod_7cf53 cJ9_floorMod_7cf53 3 ((some FieldType.int)) 2 := ⟨in_g 437 (by decide +kernel) (by decide +kernel), in_g 23 (by decide +kernel) (by decide +kernel), by decide +kernel, by decide +kernel, by decide +kernel⟩
theorem tsJ9_floorMod_7cf53 : Cond.static yJ9_floorMod_7cf53 ∈ lw_g := in_g 436 (by decide +kernel) (by decide +kernel)
theorem wyX1_rowOf : Wy yX1_rowOf cX1_rowOf 1 ((some FieldType.int)) 1 := ⟨in_g 434 (by decide +kernel) (by decide +kernel), in_g 25 (by decide +kernel) (by decide +kernel), by decide +kernel, by decide +kernel, by decide +kernel⟩
theorem tsX1_rowOf : Cond.static yX1_rowOf ∈ lw_g := in_g 433 (by decide +kernel) (by decide +kernel)
theorem wyX1_keepCommands : Wy yX1_keepCommands cX1_keepCommands 2 none 1 := ⟨in_g 431 (by decide +kernel) (by decide +kernel), in_g 25 (by decide +kernel) (by decide +kernel), by decide +kernel, by decide +kernel, by decide +kernel⟩
theorem tvX1_keepCommands_i : Cond.instanceMethod yX1_keepCommands ∈ lw_g := in_g 429 (by decide +kernel) (by decide +kernel)
theorem tvX1_keepCommands_s : Cond.selects yX1_keepCommands.cls yX1_keepCommands yX1_keepCommands ∈ lw_g := in_g 430 (by decide +kernel) (by decide +kernel)
theorem wyX1_commandAt : Wy yX1_commandAt cX1_commandAt 3 ((some FieldType.int)) 2 := ⟨in_g 468 (by decide +kernel) (by decide +kernel), in_g 25 (by decide +kernel) (by decide +kernel), by decide +kernel, by decide +kernel, by decide +kernel⟩
theorem tvX1_commandAt_i : Cond.instanceMethod yX1_commandAt ∈ lw_g := in_g 467 (by decide +kernel) (by decide +kernel)
theorem tvX1_commandAt_s : Cond.selects yX1_commandAt.cls yX1_commandAt yX1_commandAt ∈ lw_g := in_g 2 (by decide +kernel) (by decide +kernel)
theorem wyX4_value : Wy yX4_value cX4_value 4 ((some FieldType.int)) 2 := ⟨in_g 402 (by decide +kernel) (by decide +kernel), in_g 22 (by decide +kernel) (by decide +kernel), by decide +kernel, by decide +kernel, by decide +kernel⟩
theorem tvX4_value_i : Cond.instanceMethod yX4_value ∈ lw_g := in_g 400 (by decide +kernel) (by decide +kernel)
theorem tvX4_value_s : Cond.selects yX4_value.cls yX4_value yX4_value ∈ lw_g := in_g 401 (by decide +kernel) (by decide +kernel)
theorem wyX8_toward : Wy yX8_toward cX8_toward 3 ((some FieldType.int)) 3 := ⟨in_g 475 (by decide +kernel) (by decide +kernel), in_g 20 (by decide +kernel) (by decide +kernel), by decide +kernel, by decide +kernel, by decide +kernel⟩
theorem tsX8_toward : Cond.static yX8_toward ∈ lw_g := in_g 474 (by decide +kernel) (by decide +kernel)
theorem wyX1_open : Wy yX1_open cX1_open 6 none 3 := ⟨in_g 463 (by decide +kernel) (by decide +kernel), in_g 25 (by decide +kernel) (by decide +kernel), by decide +kernel, by decide +kernel, by decide +kernel⟩
theorem tvX1_open_i : Cond.instanceMethod yX1_open ∈ lw_g := in_g 461 (by decide +kernel) (by decide +kernel)
theorem tvX1_open_s : Cond.selects yX1_open.cls yX1_open yX1_open ∈ lw_g := in_g 462 (by decide +kernel) (by decide +kernel)
theorem wyX1_demandAt : Wy yX1_demandAt cX1_demandAt 2 ((some FieldType.int)) 1 := ⟨in_g 489 (by decide +kernel) (by decide +kernel), in_g 25 (by decide +kernel) (by decide +kernel), by decide +kernel, by decide +kernel, by decide +kernel⟩
theorem tvX1_demandAt_i : Cond.instanceMethod yX1_demandAt ∈ lw_g := in_g 488 (by decide +kernel) (by decide +kernel)
theorem tvX1_demandAt_s : Cond.selects yX1_demandAt.cls yX1_demandAt yX1_demandAt ∈ lw_g := in_g 3 (by decide +kernel) (by decide +kernel)
theorem wyX1_demandOf : Wy yX1_demandOf cX1_demandOf 4 ((some FieldType.int)) 1 := ⟨in_g 485 (by decide +kernel) (by decide +kernel), in_g 25 (by decide +kernel) (by decide +kernel), by decide +kernel, by decide +kernel, by decide +kernel⟩
theorem tvX1_demandOf_i : Cond.instanceMethod yX1_demandOf ∈ lw_g := in_g 483 (by decide +kernel) (by decide +kernel)
theorem tvX1_demandOf_s : Cond.selects yX1_demandOf.cls yX1_demandOf yX1_demandOf ∈ lw_g := in_g 484 (by decide +kernel) (by decide +kernel)
theorem wyJ9_floorDiv_f86c9 : Wy yJ9_floorDiv_f86c9 cJ9_floorDiv_f86c9 6 ((some FieldType.long)) 2 := ⟨in_g 449 (by decide +kernel) (by decide +kernel), in_g 23 (by decide +kernel) (by decide +kernel), by decide +kernel, by decide +kernel, by decide +kernel⟩
theorem tsJ9_floorDiv_f86c9 : Cond.static yJ9_floorDiv_f86c9 ∈ lw_g := in_g 448 (by decide +kernel) (by decide +kernel)
theorem wyX8_quotient : Wy yX8_quotient cX8_quotient 4 ((some FieldType.long)) 2 := ⟨in_g 446 (by decide +kernel) (by decide +kernel), in_g 20 (by decide +kernel) (by decide +kernel), by decide +kernel, by decide +kernel, by decide +kernel⟩
theorem tsX8_quotient : Cond.static yX8_quotient ∈ lw_g := in_g 445 (by decide +kernel) (by decide +kernel)
theorem wyX1_flow : Wy yX1_flow cX1_flow 6 none 3 := ⟨in_g 496 (by decide +kernel) (by decide +kernel), in_g 25 (by decide +kernel) (by decide +kernel), by decide +kernel, by decide +kernel, by decide +kernel⟩
theorem tvX1_flow_i : Cond.instanceMethod yX1_flow ∈ lw_g := in_g 494 (by decide +kernel) (by decide +kernel)
theorem tvX1_flow_s : Cond.selects yX1_flow.cls yX1_flow yX1_flow ∈ lw_g := in_g 495 (by decide +kernel) (by decide +kernel)
theorem wyX1_rise : Wy yX1_rise cX1_rise 5 none 1 := ⟨in_g 502 (by decide +kernel) (by decide +kernel), in_g 25 (by decide +kernel) (by decide +kernel), by decide +kernel, by decide +kernel, by decide +kernel⟩
theorem tvX1_rise_i : Cond.instanceMethod yX1_rise ∈ lw_g := in_g 500 (by decide +kernel) (by decide +kernel)
theorem tvX1_rise_s : Cond.selects yX1_rise.cls yX1_rise yX1_rise ∈ lw_g := in_g 501 (by decide +kernel) (by decide +kernel)
theorem wyX1_driftsBeyond : Wy yX1_driftsBeyond cX1_driftsBeyond 3 ((some FieldType.boolean)) 1 := ⟨in_g 516 (by decide +kernel) (by decide +kernel), in_g 25 (by decide +kernel) (by decide +kernel), by decide +kernel, by decide +kernel, by decide +kernel⟩
theorem tvX1_driftsBeyond_i : Cond.instanceMethod yX1_driftsBeyond ∈ lw_g := in_g 514 (by decide +kernel) (by decide +kernel)
theorem tvX1_driftsBeyond_s : Cond.selects yX1_driftsBeyond.cls yX1_driftsBeyond yX1_driftsBeyond ∈ lw_g := in_g 515 (by decide +kernel) (by decide +kernel)
theorem wyX1_greatestHeightNow : Wy yX1_greatestHeightNow cX1_greatestHeightNow 3 ((some FieldType.int)) 0 := ⟨in_g 637 (by decide +kernel) (by decide +kernel), in_g 25 (by decide +kernel) (by decide +kernel), by decide +kernel, by decide +kernel, by decide +kernel⟩
theorem tvX1_greatestHeightNow_i : Cond.instanceMethod yX1_greatestHeightNow ∈ lw_g := in_g 635 (by decide +kernel) (by decide +kernel)
theorem tvX1_greatestHeightNow_s : Cond.selects yX1_greatestHeightNow.cls yX1_greatestHeightNow yX1_greatestHeightNow ∈ lw_g := in_g 636 (by decide +kernel) (by decide +kernel)
theorem wyX2_append : Wy yX2_append cX2_append 2 ((some FieldType.int)) 1 := ⟨in_g 707 (by decide +kernel) (by decide +kernel), in_g 30 (by decide +kernel) (by decide +kernel), by decide +kernel, by decide +kernel, by decide +kernel⟩
theorem tvX2_append_i : Cond.instanceMethod yX2_append ∈ lw_g := in_g 705 (by decide +kernel) (by decide +kernel)
theorem tvX2_append_s : Cond.selects yX2_append.cls yX2_append yX2_append ∈ lw_g := in_g 706 (by decide +kernel) (by decide +kernel)
theorem wyX2_endsCue : Wy yX2_endsCue cX2_endsCue 1 ((some FieldType.boolean)) 0 := ⟨in_g 739 (by decide +kernel) (by decide +kernel), in_g 30 (by decide +kernel) (by decide +kernel), by decide +kernel, by decide +kernel, by decide +kernel⟩
theorem tvX2_endsCue_i : Cond.instanceMethod yX2_endsCue ∈ lw_g := in_g 738 (by decide +kernel) (by decide +kernel)
theorem tvX2_endsCue_s : Cond.selects yX2_endsCue.cls yX2_endsCue yX2_endsCue ∈ lw_g := in_g 18 (by decide +kernel) (by decide +kernel)
theorem wyX2_endsSet : Wy yX2_endsSet cX2_endsSet 1 ((some FieldType.boolean)) 0 := ⟨in_g 731 (by decide +kernel) (by decide +kernel), in_g 30 (by decide +kernel) (by decide +kernel), by decide +kernel, by decide +kernel, by decide +kernel⟩
theorem tvX2_endsSet_i : Cond.instanceMethod yX2_endsSet ∈ lw_g := in_g 730 (by decide +kernel) (by decide +kernel)
theorem tvX2_endsSet_s : Cond.selects yX2_endsSet.cls yX2_endsSet yX2_endsSet ∈ lw_g := in_g 16 (by decide +kernel) (by decide +kernel)
theorem wyX2_endsTime : Wy yX2_endsTime cX2_endsTime 1 ((some FieldType.boolean)) 0 := ⟨in_g 723 (by decide +kernel) (by decide +kernel), in_g 30 (by decide +kernel) (by decide +kernel), by decide +kernel, by decide +kernel, by decide +kernel⟩
theorem tvX2_endsTime_i : Cond.instanceMethod yX2_endsTime ∈ lw_g := in_g 722 (by decide +kernel) (by decide +kernel)
theorem tvX2_endsTime_s : Cond.selects yX2_endsTime.cls yX2_endsTime yX2_endsTime ∈ lw_g := in_g 14 (by decide +kernel) (by decide +kernel)
theorem wyX2_isDigitUpTo : Wy yX2_isDigitUpTo cX2_isDigitUpTo 4 ((some FieldType.boolean)) 2 := ⟨in_g 727 (by decide +kernel) (by decide +kernel), in_g 30 (by decide +kernel) (by decide +kernel), by decide +kernel, by decide +kernel, by decide +kernel⟩
theorem tvX2_isDigitUpTo_i : Cond.instanceMethod yX2_isDigitUpTo ∈ lw_g := in_g 726 (by decide +kernel) (by decide +kernel)
theorem tvX2_isDigitUpTo_s : Cond.selects yX2_isDigitUpTo.cls yX2_isDigitUpTo yX2_isDigitUpTo ∈ lw_g := in_g 15 (by decide +kernel) (by decide +kernel)
theorem wyX2_isLetter : Wy yX2_isLetter cX2_isLetter 4 ((some FieldType.boolean)) 1 := ⟨in_g 735 (by decide +kernel) (by decide +kernel), in_g 30 (by decide +kernel) (by decide +kernel), by decide +kernel, by decide +kernel, by decide +kernel⟩
theorem tvX2_isLetter_i : Cond.instanceMethod yX2_isLetter ∈ lw_g := in_g 734 (by decide +kernel) (by decide +kernel)
theorem tvX2_isLetter_s : Cond.selects yX2_isLetter.cls yX2_isLetter yX2_isLetter ∈ lw_g := in_g 17 (by decide +kernel) (by decide +kernel)
theorem wyX2_accepts : Wy yX2_accepts cX2_accepts 2 ((some FieldType.boolean)) 1 := ⟨in_g 719 (by decide +kernel) (by decide +kernel), in_g 30 (by decide +kernel) (by decide +kernel), by decide +kernel, by decide +kernel, by decide +kernel⟩
theorem tvX2_accepts_i : Cond.instanceMethod yX2_accepts ∈ lw_g := in_g 718 (by decide +kernel) (by decide +kernel)
theorem tvX2_accepts_s : Cond.selects yX2_accepts.cls yX2_accepts yX2_accepts ∈ lw_g := in_g 13 (by decide +kernel) (by decide +kernel)
theorem wyX2_findFault : Wy yX2_findFault cX2_findFault 2 ((some FieldType.int)) 0 := ⟨in_g 715 (by decide +kernel) (by decide +kernel), in_g 30 (by decide +kernel) (by decide +kernel), by decide +kernel, by decide +kernel, by decide +kernel⟩
theorem tvX2_findFault_i : Cond.instanceMethod yX2_findFault ∈ lw_g := in_g 713 (by decide +kernel) (by decide +kernel)
theorem tvX2_findFault_s : Cond.selects yX2_findFault.cls yX2_findFault yX2_findFault ∈ lw_g := in_g 714 (by decide +kernel) (by decide +kernel)
theorem wyX3_goBack : Wy yX3_goBack cX3_goBack 1 none 0 := ⟨in_g 345 (by decide +kernel) (by decide +kernel), in_g 26 (by decide +kernel) (by decide +kernel), by decide +kernel, by decide +kernel, by decide +kernel⟩
theorem tvX3_goBack_i : Cond.instanceMethod yX3_goBack ∈ lw_g := in_g 343 (by decide +kernel) (by decide +kernel)
theorem tvX3_goBack_s : Cond.selects yX3_goBack.cls yX3_goBack yX3_goBack ∈ lw_g := in_g 344 (by decide +kernel) (by decide +kernel)
theorem wyX3_copy : Wy yX3_copy cX3_copy 2 none 1 := ⟨in_g 601 (by decide +kernel) (by decide +kernel), in_g 26 (by decide +kernel) (by decide +kernel), by decide +kernel, by decide +kernel, by decide +kernel⟩
theorem tvX3_copy_i : Cond.instanceMethod yX3_copy ∈ lw_g := in_g 599 (by decide +kernel) (by decide +kernel)
theorem tvX3_copy_s : Cond.selects yX3_copy.cls yX3_copy yX3_copy ∈ lw_g := in_g 600 (by decide +kernel) (by decide +kernel)
theorem wyX3_supply : Wy yX3_supply cX3_supply 4 none 1 := ⟨in_g 481 (by decide +kernel) (by decide +kernel), in_g 26 (by decide +kernel) (by decide +kernel), by decide +kernel, by decide +kernel, by decide +kernel⟩
theorem tvX3_supply_i : Cond.instanceMethod yX3_supply ∈ lw_g := in_g 479 (by decide +kernel) (by decide +kernel)
theorem tvX3_supply_s : Cond.selects yX3_supply.cls yX3_supply yX3_supply ∈ lw_g := in_g 480 (by decide +kernel) (by decide +kernel)
theorem wyX3_isShort : Wy yX3_isShort cX3_isShort 2 ((some FieldType.boolean)) 1 := ⟨in_g 512 (by decide +kernel) (by decide +kernel), in_g 26 (by decide +kernel) (by decide +kernel), by decide +kernel, by decide +kernel, by decide +kernel⟩
theorem tvX3_isShort_i : Cond.instanceMethod yX3_isShort ∈ lw_g := in_g 510 (by decide +kernel) (by decide +kernel)
theorem tvX3_isShort_s : Cond.selects yX3_isShort.cls yX3_isShort yX3_isShort ∈ lw_g := in_g 511 (by decide +kernel) (by decide +kernel)
theorem wyX3_countShort : Wy yX3_countShort cX3_countShort 2 none 0 := ⟨in_g 508 (by decide +kernel) (by decide +kernel), in_g 26 (by decide +kernel) (by decide +kernel), by decide +kernel, by decide +kernel, by decide +kernel⟩
theorem tvX3_countShort_i : Cond.instanceMethod yX3_countShort ∈ lw_g := in_g 506 (by decide +kernel) (by decide +kernel)
theorem tvX3_countShort_s : Cond.selects yX3_countShort.cls yX3_countShort yX3_countShort ∈ lw_g := in_g 507 (by decide +kernel) (by decide +kernel)
theorem wyX3_someShort : Wy yX3_someShort cX3_someShort 2 ((some FieldType.boolean)) 0 := ⟨in_g 664 (by decide +kernel) (by decide +kernel), in_g 26 (by decide +kernel) (by decide +kernel), by decide +kernel, by decide +kernel, by decide +kernel⟩
theorem tvX3_someShort_i : Cond.instanceMethod yX3_someShort ∈ lw_g := in_g 662 (by decide +kernel) (by decide +kernel)
theorem tvX3_someShort_s : Cond.selects yX3_someShort.cls yX3_someShort yX3_someShort ∈ lw_g := in_g 663 (by decide +kernel) (by decide +kernel)
theorem wyX4_change : Wy yX4_change cX4_change 6 ((some FieldType.int)) 3 := ⟨in_g 363 (by decide +kernel) (by decide +kernel), in_g 22 (by decide +kernel) (by decide +kernel), by decide +kernel, by decide +kernel, by decide +kernel⟩
theorem tvX4_change_i : Cond.instanceMethod yX4_change ∈ lw_g := in_g 361 (by decide +kernel) (by decide +kernel)
theorem tvX4_change_s : Cond.selects yX4_change.cls yX4_change yX4_change ∈ lw_g := in_g 362 (by decide +kernel) (by decide +kernel)
theorem wyX7_goBack : Wy yX7_goBack cX7_goBack 1 none 0 := ⟨in_g 350 (by decide +kernel) (by decide +kernel), in_g 27 (by decide +kernel) (by decide +kernel), by decide +kernel, by decide +kernel, by decide +kernel⟩
theorem tvX7_goBack_i : Cond.instanceMethod yX7_goBack ∈ lw_g := in_g 348 (by decide +kernel) (by decide +kernel)
theorem tvX7_goBack_s : Cond.selects yX7_goBack.cls yX7_goBack yX7_goBack ∈ lw_g := in_g 349 (by decide +kernel) (by decide +kernel)
theorem wyX5_goBack : Wy yX5_goBack cX5_goBack 1 none 0 := ⟨in_g 334 (by decide +kernel) (by decide +kernel), in_g 21 (by decide +kernel) (by decide +kernel), by decide +kernel, by decide +kernel, by decide +kernel⟩
theorem tvX5_goBack_i : Cond.instanceMethod yX5_goBack ∈ lw_g := in_g 332 (by decide +kernel) (by decide +kernel)
theorem tvX5_goBack_s : Cond.selects yX5_goBack.cls yX5_goBack yX5_goBack ∈ lw_g := in_g 333 (by decide +kernel) (by decide +kernel)
theorem wyX5_begin : Wy yX5_begin cX5_begin 2 none 1 := ⟨in_g 324 (by decide +kernel) (by decide +kernel), in_g 21 (by decide +kernel) (by decide +kernel), by decide +kernel, by decide +kernel, by decide +kernel⟩
theorem tvX5_begin_i : Cond.instanceMethod yX5_begin ∈ lw_g := in_g 322 (by decide +kernel) (by decide +kernel)
theorem tvX5_begin_s : Cond.selects yX5_begin.cls yX5_begin yX5_begin ∈ lw_g := in_g 323 (by decide +kernel) (by decide +kernel)
theorem wyX7_copy : Wy yX7_copy cX7_copy 2 none 1 := ⟨in_g 607 (by decide +kernel) (by decide +kernel), in_g 27 (by decide +kernel) (by decide +kernel), by decide +kernel, by decide +kernel, by decide +kernel⟩
theorem tvX7_copy_i : Cond.instanceMethod yX7_copy ∈ lw_g := in_g 605 (by decide +kernel) (by decide +kernel)
theorem tvX7_copy_s : Cond.selects yX7_copy.cls yX7_copy yX7_copy ∈ lw_g := in_g 606 (by decide +kernel) (by decide +kernel)
theorem wyX5_copy : Wy yX5_copy cX5_copy 2 none 1 := ⟨in_g 583 (by decide +kernel) (by decide +kernel), in_g 21 (by decide +kernel) (by decide +kernel), by decide +kernel, by decide +kernel, by decide +kernel⟩
theorem tvX5_copy_i : Cond.instanceMethod yX5_copy ∈ lw_g := in_g 581 (by decide +kernel) (by decide +kernel)
theorem tvX5_copy_s : Cond.selects yX5_copy.cls yX5_copy yX5_copy ∈ lw_g := in_g 582 (by decide +kernel) (by decide +kernel)
theorem wyX7_enter : Wy yX7_enter cX7_enter 2 none 1 := ⟨in_g 454 (by decide +kernel) (by decide +kernel), in_g 27 (by decide +kernel) (by decide +kernel), by decide +kernel, by decide +kernel, by decide +kernel⟩
theorem tvX7_enter_i : Cond.instanceMethod yX7_enter ∈ lw_g := in_g 453 (by decide +kernel) (by decide +kernel)
theorem tvX7_enter_s : Cond.selects yX7_enter.cls yX7_enter yX7_enter ∈ lw_g := in_g 0 (by decide +kernel) (by decide +kernel)
theorem wyX7_calmDown : Wy yX7_calmDown cX7_calmDown 2 none 1 := ⟨in_g 458 (by decide +kernel) (by decide +kernel), in_g 27 (by decide +kernel) (by decide +kernel), by decide +kernel, by decide +kernel, by decide +kernel⟩
theorem tvX7_calmDown_i : Cond.instanceMethod yX7_calmDown ∈ lw_g := in_g 457 (by decide +kernel) (by decide +kernel)
theorem tvX7_calmDown_s : Cond.selects yX7_calmDown.cls yX7_calmDown yX7_calmDown ∈ lw_g := in_g 1 (by decide +kernel) (by decide +kernel)
theorem wyX7_measured : Wy yX7_measured cX7_measured 1 ((some FieldType.int)) 0 := ⟨in_g 394 (by decide +kernel) (by decide +kernel), in_g 27 (by decide +kernel) (by decide +kernel), by decide +kernel, by decide +kernel, by decide +kernel⟩
theorem tvX7_measured_i : Cond.instanceMethod yX7_measured ∈ lw_g := in_g 392 (by decide +kernel) (by decide +kernel)
theorem tvX7_measured_s : Cond.selects yX7_measured.cls yX7_measured yX7_measured ∈ lw_g := in_g 393 (by decide +kernel) (by decide +kernel)
theorem wyX7_blow : Wy yX7_blow cX7_blow 4 none 1 := ⟨in_g 442 (by decide +kernel) (by decide +kernel), in_g 27 (by decide +kernel) (by decide +kernel), by decide +kernel, by decide +kernel, by decide +kernel⟩
theorem tvX7_blow_i : Cond.instanceMethod yX7_blow ∈ lw_g := in_g 440 (by decide +kernel) (by decide +kernel)
theorem tvX7_blow_s : Cond.selects yX7_blow.cls yX7_blow yX7_blow ∈ lw_g := in_g 441 (by decide +kernel) (by decide +kernel)
theorem wyX5_makeTick : Wy yX5_makeTick cX5_makeTick 1 none 0 := ⟨in_g 419 (by decide +kernel) (by decide +kernel), in_g 21 (by decide +kernel) (by decide +kernel), by decide +kernel, by decide +kernel, by decide +kernel⟩
theorem tvX5_makeTick_i : Cond.instanceMethod yX5_makeTick ∈ lw_g := in_g 417 (by decide +kernel) (by decide +kernel)
theorem tvX5_makeTick_s : Cond.selects yX5_makeTick.cls yX5_makeTick yX5_makeTick ∈ lw_g := in_g 418 (by decide +kernel) (by decide +kernel)
theorem wyX8_setUp : Wy yX8_setUp cX8_setUp 3 ((some FieldType.int)) 1 := ⟨in_g 317 (by decide +kernel) (by decide +kernel), in_g 20 (by decide +kernel) (by decide +kernel), by decide +kernel, by decide +kernel, by decide +kernel⟩
theorem tvX8_setUp_i : Cond.instanceMethod yX8_setUp ∈ lw_g := in_g 315 (by decide +kernel) (by decide +kernel)
theorem tvX8_setUp_s : Cond.selects yX8_setUp.cls yX8_setUp yX8_setUp ∈ lw_g := in_g 316 (by decide +kernel) (by decide +kernel)
theorem wyX8_nozzle : Wy yX8_nozzle cX8_nozzle 4 ((some FieldType.int)) 3 := ⟨in_g 354 (by decide +kernel) (by decide +kernel), in_g 20 (by decide +kernel) (by decide +kernel), by decide +kernel, by decide +kernel, by decide +kernel⟩
theorem tvX8_nozzle_i : Cond.instanceMethod yX8_nozzle ∈ lw_g := in_g 352 (by decide +kernel) (by decide +kernel)
theorem tvX8_nozzle_s : Cond.selects yX8_nozzle.cls yX8_nozzle yX8_nozzle ∈ lw_g := in_g 353 (by decide +kernel) (by decide +kernel)
theorem wyX8_pump : Wy yX8_pump cX8_pump 4 ((some FieldType.int)) 3 := ⟨in_g 368 (by decide +kernel) (by decide +kernel), in_g 20 (by decide +kernel) (by decide +kernel), by decide +kernel, by decide +kernel, by decide +kernel⟩
theorem tvX8_pump_i : Cond.instanceMethod yX8_pump ∈ lw_g := in_g 366 (by decide +kernel) (by decide +kernel)
theorem tvX8_pump_s : Cond.selects yX8_pump.cls yX8_pump yX8_pump ∈ lw_g := in_g 367 (by decide +kernel) (by decide +kernel)
theorem wyX8_set : Wy yX8_set cX8_set 3 ((some FieldType.int)) 2 := ⟨in_g 372 (by decide +kernel) (by decide +kernel), in_g 20 (by decide +kernel) (by decide +kernel), by decide +kernel, by decide +kernel, by decide +kernel⟩
theorem tvX8_set_i : Cond.instanceMethod yX8_set ∈ lw_g := in_g 370 (by decide +kernel) (by decide +kernel)
theorem tvX8_set_s : Cond.selects yX8_set.cls yX8_set yX8_set ∈ lw_g := in_g 371 (by decide +kernel) (by decide +kernel)
theorem wyX8_wind : Wy yX8_wind cX8_wind 3 ((some FieldType.int)) 1 := ⟨in_g 554 (by decide +kernel) (by decide +kernel), in_g 20 (by decide +kernel) (by decide +kernel), by decide +kernel, by decide +kernel, by decide +kernel⟩
theorem tvX8_wind_i : Cond.instanceMethod yX8_wind ∈ lw_g := in_g 552 (by decide +kernel) (by decide +kernel)
theorem tvX8_wind_s : Cond.selects yX8_wind.cls yX8_wind yX8_wind ∈ lw_g := in_g 553 (by decide +kernel) (by decide +kernel)
theorem wyX8_cue : Wy yX8_cue cX8_cue 4 ((some FieldType.int)) 3 := ⟨in_g 525 (by decide +kernel) (by decide +kernel), in_g 20 (by decide +kernel) (by decide +kernel), by decide +kernel, by decide +kernel, by decide +kernel⟩
theorem tvX8_cue_i : Cond.instanceMethod yX8_cue ∈ lw_g := in_g 523 (by decide +kernel) (by decide +kernel)
theorem tvX8_cue_s : Cond.selects yX8_cue.cls yX8_cue yX8_cue ∈ lw_g := in_g 524 (by decide +kernel) (by decide +kernel)
theorem wyX8_remove : Wy yX8_remove cX8_remove 2 ((some FieldType.int)) 1 := ⟨in_g 692 (by decide +kernel) (by decide +kernel), in_g 20 (by decide +kernel) (by decide +kernel), by decide +kernel, by decide +kernel, by decide +kernel⟩
theorem tvX8_remove_i : Cond.instanceMethod yX8_remove ∈ lw_g := in_g 690 (by decide +kernel) (by decide +kernel)
theorem tvX8_remove_s : Cond.selects yX8_remove.cls yX8_remove yX8_remove ∈ lw_g := in_g 691 (by decide +kernel) (by decide +kernel)
theorem wyX8_move : Wy yX8_move cX8_move 3 ((some FieldType.int)) 2 := ⟨in_g 558 (by decide +kernel) (by decide +kernel), in_g 20 (by decide +kernel) (by decide +kernel), by decide +kernel, by decide +kernel, by decide +kernel⟩
theorem tvX8_move_i : Cond.instanceMethod yX8_move ∈ lw_g := in_g 556 (by decide +kernel) (by decide +kernel)
theorem tvX8_move_s : Cond.selects yX8_move.cls yX8_move yX8_move ∈ lw_g := in_g 557 (by decide +kernel) (by decide +kernel)
theorem wyX8_part : Wy yX8_part cX8_part 3 ((some FieldType.int)) 2 := ⟨in_g 540 (by decide +kernel) (by decide +kernel), in_g 20 (by decide +kernel) (by decide +kernel), by decide +kernel, by decide +kernel, by decide +kernel⟩
theorem tvX8_part_i : Cond.instanceMethod yX8_part ∈ lw_g := in_g 538 (by decide +kernel) (by decide +kernel)
theorem tvX8_part_s : Cond.selects yX8_part.cls yX8_part yX8_part ∈ lw_g := in_g 539 (by decide +kernel) (by decide +kernel)
theorem wyX8_command : Wy yX8_command cX8_command 3 ((some FieldType.int)) 2 := ⟨in_g 549 (by decide +kernel) (by decide +kernel), in_g 20 (by decide +kernel) (by decide +kernel), by decide +kernel, by decide +kernel, by decide +kernel⟩
theorem tvX8_command_i : Cond.instanceMethod yX8_command ∈ lw_g := in_g 547 (by decide +kernel) (by decide +kernel)
theorem tvX8_command_s : Cond.selects yX8_command.cls yX8_command yX8_command ∈ lw_g := in_g 548 (by decide +kernel) (by decide +kernel)
theorem wyX8_tick : Wy yX8_tick cX8_tick 3 ((some FieldType.int)) 1 := ⟨in_g 414 (by decide +kernel) (by decide +kernel), in_g 20 (by decide +kernel) (by decide +kernel), by decide +kernel, by decide +kernel, by decide +kernel⟩
theorem tvX8_tick_i : Cond.instanceMethod yX8_tick ∈ lw_g := in_g 412 (by decide +kernel) (by decide +kernel)
theorem tvX8_tick_s : Cond.selects yX8_tick.cls yX8_tick yX8_tick ∈ lw_g := in_g 413 (by decide +kernel) (by decide +kernel)
theorem wyX8_rewind : Wy yX8_rewind cX8_rewind 2 ((some FieldType.int)) 0 := ⟨in_g 682 (by decide +kernel) (by decide +kernel), in_g 20 (by decide +kernel) (by decide +kernel), by decide +kernel, by decide +kernel, by decide +kernel⟩
theorem tvX8_rewind_i : Cond.instanceMethod yX8_rewind ∈ lw_g := in_g 680 (by decide +kernel) (by decide +kernel)
theorem tvX8_rewind_s : Cond.selects yX8_rewind.cls yX8_rewind yX8_rewind ∈ lw_g := in_g 681 (by decide +kernel) (by decide +kernel)
theorem wyX8_spray : Wy yX8_spray cX8_spray 3 ((some FieldType.int)) 2 := ⟨in_g 406 (by decide +kernel) (by decide +kernel), in_g 20 (by decide +kernel) (by decide +kernel), by decide +kernel, by decide +kernel, by decide +kernel⟩
theorem tvX8_spray_i : Cond.instanceMethod yX8_spray ∈ lw_g := in_g 404 (by decide +kernel) (by decide +kernel)
theorem tvX8_spray_s : Cond.selects yX8_spray.cls yX8_spray yX8_spray ∈ lw_g := in_g 405 (by decide +kernel) (by decide +kernel)
theorem wyX8_pressure : Wy yX8_pressure cX8_pressure 3 ((some FieldType.int)) 2 := ⟨in_g 410 (by decide +kernel) (by decide +kernel), in_g 20 (by decide +kernel) (by decide +kernel), by decide +kernel, by decide +kernel, by decide +kernel⟩
theorem tvX8_pressure_i : Cond.instanceMethod yX8_pressure ∈ lw_g := in_g 408 (by decide +kernel) (by decide +kernel)
theorem tvX8_pressure_s : Cond.selects yX8_pressure.cls yX8_pressure yX8_pressure ∈ lw_g := in_g 409 (by decide +kernel) (by decide +kernel)
theorem wyX8_state : Wy yX8_state cX8_state 2 ((some FieldType.int)) 1 := ⟨in_g 390 (by decide +kernel) (by decide +kernel), in_g 20 (by decide +kernel) (by decide +kernel), by decide +kernel, by decide +kernel, by decide +kernel⟩
theorem tvX8_state_i : Cond.instanceMethod yX8_state ∈ lw_g := in_g 388 (by decide +kernel) (by decide +kernel)
theorem tvX8_state_s : Cond.selects yX8_state.cls yX8_state yX8_state ∈ lw_g := in_g 389 (by decide +kernel) (by decide +kernel)
theorem wyX8_firstShort : Wy yX8_firstShort cX8_firstShort 4 ((some FieldType.int)) 2 := ⟨in_g 624 (by decide +kernel) (by decide +kernel), in_g 20 (by decide +kernel) (by decide +kernel), by decide +kernel, by decide +kernel, by decide +kernel⟩
theorem tvX8_firstShort_i : Cond.instanceMethod yX8_firstShort ∈ lw_g := in_g 623 (by decide +kernel) (by decide +kernel)
theorem tvX8_firstShort_s : Cond.selects yX8_firstShort.cls yX8_firstShort yX8_firstShort ∈ lw_g := in_g 7 (by decide +kernel) (by decide +kernel)
theorem wyX8_greatestDemand : Wy yX8_greatestDemand cX8_greatestDemand 5 ((some FieldType.int)) 2 := ⟨in_g 616 (by decide +kernel) (by decide +kernel), in_g 20 (by decide +kernel) (by decide +kernel), by decide +kernel, by decide +kernel, by decide +kernel⟩
theorem tvX8_greatestDemand_i : Cond.instanceMethod yX8_greatestDemand ∈ lw_g := in_g 615 (by decide +kernel) (by decide +kernel)
theorem tvX8_greatestDemand_s : Cond.selects yX8_greatestDemand.cls yX8_greatestDemand yX8_greatestDemand ∈ lw_g := in_g 5 (by decide +kernel) (by decide +kernel)
theorem wyX8_greatestHeight : Wy yX8_greatestHeight cX8_greatestHeight 4 ((some FieldType.int)) 1 := ⟨in_g 633 (by decide +kernel) (by decide +kernel), in_g 20 (by decide +kernel) (by decide +kernel), by decide +kernel, by decide +kernel, by decide +kernel⟩
theorem tvX8_greatestHeight_i : Cond.instanceMethod yX8_greatestHeight ∈ lw_g := in_g 632 (by decide +kernel) (by decide +kernel)
theorem tvX8_greatestHeight_s : Cond.selects yX8_greatestHeight.cls yX8_greatestHeight yX8_greatestHeight ∈ lw_g := in_g 9 (by decide +kernel) (by decide +kernel)
theorem wyX8_shortTicks : Wy yX8_shortTicks cX8_shortTicks 5 ((some FieldType.int)) 2 := ⟨in_g 620 (by decide +kernel) (by decide +kernel), in_g 20 (by decide +kernel) (by decide +kernel), by decide +kernel, by decide +kernel, by decide +kernel⟩
theorem tvX8_shortTicks_i : Cond.instanceMethod yX8_shortTicks ∈ lw_g := in_g 619 (by decide +kernel) (by decide +kernel)
theorem tvX8_shortTicks_s : Cond.selects yX8_shortTicks.cls yX8_shortTicks yX8_shortTicks ∈ lw_g := in_g 6 (by decide +kernel) (by decide +kernel)
theorem wyX8_wetTicks : Wy yX8_wetTicks cX8_wetTicks 4 ((some FieldType.int)) 1 := ⟨in_g 629 (by decide +kernel) (by decide +kernel), in_g 20 (by decide +kernel) (by decide +kernel), by decide +kernel, by decide +kernel, by decide +kernel⟩
theorem tvX8_wetTicks_i : Cond.instanceMethod yX8_wetTicks ∈ lw_g := in_g 628 (by decide +kernel) (by decide +kernel)
theorem tvX8_wetTicks_s : Cond.selects yX8_wetTicks.cls yX8_wetTicks yX8_wetTicks ∈ lw_g := in_g 8 (by decide +kernel) (by decide +kernel)
theorem wyX8_ahead : Wy yX8_ahead cX8_ahead 4 ((some FieldType.int)) 3 := ⟨in_g 579 (by decide +kernel) (by decide +kernel), in_g 20 (by decide +kernel) (by decide +kernel), by decide +kernel, by decide +kernel, by decide +kernel⟩
theorem tvX8_ahead_i : Cond.instanceMethod yX8_ahead ∈ lw_g := in_g 577 (by decide +kernel) (by decide +kernel)
theorem tvX8_ahead_s : Cond.selects yX8_ahead.cls yX8_ahead yX8_ahead ∈ lw_g := in_g 578 (by decide +kernel) (by decide +kernel)
theorem wyX8_staysSupplied : Wy yX8_staysSupplied cX8_staysSupplied 3 ((some FieldType.boolean)) 1 := ⟨in_g 660 (by decide +kernel) (by decide +kernel), in_g 20 (by decide +kernel) (by decide +kernel), by decide +kernel, by decide +kernel, by decide +kernel⟩
theorem tvX8_staysSupplied_i : Cond.instanceMethod yX8_staysSupplied ∈ lw_g := in_g 659 (by decide +kernel) (by decide +kernel)
theorem tvX8_staysSupplied_s : Cond.selects yX8_staysSupplied.cls yX8_staysSupplied yX8_staysSupplied ∈ lw_g := in_g 11 (by decide +kernel) (by decide +kernel)
theorem wyX8_delay : Wy yX8_delay cX8_delay 6 ((some FieldType.int)) 3 := ⟨in_g 656 (by decide +kernel) (by decide +kernel), in_g 20 (by decide +kernel) (by decide +kernel), by decide +kernel, by decide +kernel, by decide +kernel⟩
theorem tvX8_delay_i : Cond.instanceMethod yX8_delay ∈ lw_g := in_g 654 (by decide +kernel) (by decide +kernel)
theorem tvX8_delay_s : Cond.selects yX8_delay.cls yX8_delay yX8_delay ∈ lw_g := in_g 655 (by decide +kernel) (by decide +kernel)
theorem wyX8_staysDry : Wy yX8_staysDry cX8_staysDry 4 ((some FieldType.boolean)) 1 := ⟨in_g 675 (by decide +kernel) (by decide +kernel), in_g 20 (by decide +kernel) (by decide +kernel), by decide +kernel, by decide +kernel, by decide +kernel⟩
theorem tvX8_staysDry_i : Cond.instanceMethod yX8_staysDry ∈ lw_g := in_g 674 (by decide +kernel) (by decide +kernel)
theorem tvX8_staysDry_s : Cond.selects yX8_staysDry.cls yX8_staysDry yX8_staysDry ∈ lw_g := in_g 12 (by decide +kernel) (by decide +kernel)
theorem wyX8_safeCut : Wy yX8_safeCut cX8_safeCut 3 ((some FieldType.int)) 1 := ⟨in_g 671 (by decide +kernel) (by decide +kernel), in_g 20 (by decide +kernel) (by decide +kernel), by decide +kernel, by decide +kernel, by decide +kernel⟩
theorem tvX8_safeCut_i : Cond.instanceMethod yX8_safeCut ∈ lw_g := in_g 669 (by decide +kernel) (by decide +kernel)
theorem tvX8_safeCut_s : Cond.selects yX8_safeCut.cls yX8_safeCut yX8_safeCut ∈ lw_g := in_g 670 (by decide +kernel) (by decide +kernel)
theorem wyX8_say : Wy yX8_say cX8_say 2 ((some FieldType.int)) 1 := ⟨in_g 703 (by decide +kernel) (by decide +kernel), in_g 20 (by decide +kernel) (by decide +kernel), by decide +kernel, by decide +kernel, by decide +kernel⟩
theorem tvX8_say_i : Cond.instanceMethod yX8_say ∈ lw_g := in_g 701 (by decide +kernel) (by decide +kernel)
theorem tvX8_say_s : Cond.selects yX8_say.cls yX8_say yX8_say ∈ lw_g := in_g 702 (by decide +kernel) (by decide +kernel)
theorem wyX8_read : Wy yX8_read cX8_read 4 ((some FieldType.int)) 1 := ⟨in_g 711 (by decide +kernel) (by decide +kernel), in_g 20 (by decide +kernel) (by decide +kernel), by decide +kernel, by decide +kernel, by decide +kernel⟩
theorem tvX8_read_i : Cond.instanceMethod yX8_read ∈ lw_g := in_g 709 (by decide +kernel) (by decide +kernel)
theorem tvX8_read_s : Cond.selects yX8_read.cls yX8_read yX8_read ∈ lw_g := in_g 710 (by decide +kernel) (by decide +kernel)
theorem wyX8_slotAt : Wy yX8_slotAt cX8_slotAt 2 ((some (FieldType.object "FountainShow$Slot"))) 1 := ⟨in_g 645 (by decide +kernel) (by decide +kernel), in_g 20 (by decide +kernel) (by decide +kernel), by decide +kernel, by decide +kernel, by decide +kernel⟩
theorem tvX8_slotAt_i : Cond.instanceMethod yX8_slotAt ∈ lw_g := in_g 644 (by decide +kernel) (by decide +kernel)
theorem tvX8_slotAt_s : Cond.selects yX8_slotAt.cls yX8_slotAt yX8_slotAt ∈ lw_g := in_g 10 (by decide +kernel) (by decide +kernel)
theorem wyX8_save : Wy yX8_save cX8_save 3 ((some FieldType.int)) 1 := ⟨in_g 641 (by decide +kernel) (by decide +kernel), in_g 20 (by decide +kernel) (by decide +kernel), by decide +kernel, by decide +kernel, by decide +kernel⟩
theorem tvX8_save_i : Cond.instanceMethod yX8_save ∈ lw_g := in_g 639 (by decide +kernel) (by decide +kernel)
theorem tvX8_save_s : Cond.selects yX8_save.cls yX8_save yX8_save ∈ lw_g := in_g 640 (by decide +kernel) (by decide +kernel)
theorem wyX8_restore : Wy yX8_restore cX8_restore 3 ((some FieldType.int)) 1 := ⟨in_g 649 (by decide +kernel) (by decide +kernel), in_g 20 (by decide +kernel) (by decide +kernel), by decide +kernel, by decide +kernel, by decide +kernel⟩
theorem tvX8_restore_i : Cond.instanceMethod yX8_restore ∈ lw_g := in_g 647 (by decide +kernel) (by decide +kernel)
theorem tvX8_restore_s : Cond.selects yX8_restore.cls yX8_restore yX8_restore ∈ lw_g := in_g 648 (by decide +kernel) (by decide +kernel)
theorem cls_lt {k c : Nat} (h : clsOf k = c) (hc : c < 999) : k < 121 := by
  rcases Nat.lt_or_ge k 121 with q | q
  · exact q
  · exfalso
    have e : clsOf k = 999 := by
      unfold clsOf
      rw [List.getD_eq_getElem?_getD, List.getElem?_eq_none (show clsL.length ≤ k from q)]
      rfl
    omega
theorem pt_0_0 {k : Nat} (h : clsOf k = 0) : clsOf (ptr k 0) = 100 := by
  have e : ∀ k, k < 121 → clsOf k = 0 → clsOf (ptr k 0) = 100 := by decide +kernel
  exact e k (cls_lt h (by decide)) h
theorem ok_0_0 {ks : List Nat} {k : Nat} (hcl : Cl ks) (h : Ok ks k 0) : Ok ks (ptr k 0) 100 := by
  refine ⟨?_, pt_0_0 h.2⟩
  rcases hcl k h.1 0 (by rw [h.2]; rfl) (by rw [h.2]; decide) with q | q
  · exact q
  · rw [pt_0_0 h.2] at q; exact absurd q (by decide)
theorem pt_0_1 {k : Nat} (h : clsOf k = 0) : clsOf (ptr k 1) = 100 := by
  have e : ∀ k, k < 121 → clsOf k = 0 → clsOf (ptr k 1) = 100 := by decide +kernel
  exact e k (cls_lt h (by decide)) h
theorem ok_0_1 {ks : List Nat} {k : Nat} (hcl : Cl ks) (h : Ok ks k 0) : Ok ks (ptr k 1) 100 := by
  refine ⟨?_, pt_0_1 h.2⟩
  rcases hcl k h.1 1 (by rw [h.2]; rfl) (by rw [h.2]; decide) with q | q
  · exact q
  · rw [pt_0_1 h.2] at q; exact absurd q (by decide)
theorem pt_0_2 {k : Nat} (h : clsOf k = 0) : clsOf (ptr k 2) = 100 := by
  have e : ∀ k, k < 121 → clsOf k = 0 → clsOf (ptr k 2) = 100 := by decide +kernel
  exact e k (cls_lt h (by decide)) h
theorem ok_0_2 {ks : List Nat} {k : Nat} (hcl : Cl ks) (h : Ok ks k 0) : Ok ks (ptr k 2) 100 := by
  refine ⟨?_, pt_0_2 h.2⟩
  rcases hcl k h.1 2 (by rw [h.2]; rfl) (by rw [h.2]; decide) with q | q
  · exact q
  · rw [pt_0_2 h.2] at q; exact absurd q (by decide)
theorem pt_1_0 {k : Nat} (h : clsOf k = 1) : clsOf (ptr k 0) = 4 := by
  have e : ∀ k, k < 121 → clsOf k = 1 → clsOf (ptr k 0) = 4 := by decide +kernel
  exact e k (cls_lt h (by decide)) h
theorem ok_1_0 {ks : List Nat} {k : Nat} (hcl : Cl ks) (h : Ok ks k 1) : Ok ks (ptr k 0) 4 := by
  refine ⟨?_, pt_1_0 h.2⟩
  rcases hcl k h.1 0 (by rw [h.2]; rfl) (by rw [h.2]; decide) with q | q
  · exact q
  · rw [pt_1_0 h.2] at q; exact absurd q (by decide)
theorem pt_1_1 {k : Nat} (h : clsOf k = 1) : clsOf (ptr k 1) = 100 := by
  have e : ∀ k, k < 121 → clsOf k = 1 → clsOf (ptr k 1) = 100 := by decide +kernel
  exact e k (cls_lt h (by decide)) h
theorem ok_1_1 {ks : List Nat} {k : Nat} (hcl : Cl ks) (h : Ok ks k 1) : Ok ks (ptr k 1) 100 := by
  refine ⟨?_, pt_1_1 h.2⟩
  rcases hcl k h.1 1 (by rw [h.2]; rfl) (by rw [h.2]; decide) with q | q
  · exact q
  · rw [pt_1_1 h.2] at q; exact absurd q (by decide)
theorem pt_1_2 {k : Nat} (h : clsOf k = 1) : clsOf (ptr k 2) = 100 := by
  have e : ∀ k, k < 121 → clsOf k = 1 → clsOf (ptr k 2) = 100 := by decide +kernel
  exact e k (cls_lt h (by decide)) h
theorem ok_1_2 {ks : List Nat} {k : Nat} (hcl : Cl ks) (h : Ok ks k 1) : Ok ks (ptr k 2) 100 := by
  refine ⟨?_, pt_1_2 h.2⟩
  rcases hcl k h.1 2 (by rw [h.2]; rfl) (by rw [h.2]; decide) with q | q
  · exact q
  · rw [pt_1_2 h.2] at q; exact absurd q (by decide)
theorem pt_1_3 {k : Nat} (h : clsOf k = 1) : clsOf (ptr k 3) = 100 := by
  have e : ∀ k, k < 121 → clsOf k = 1 → clsOf (ptr k 3) = 100 := by decide +kernel
  exact e k (cls_lt h (by decide)) h
theorem ok_1_3 {ks : List Nat} {k : Nat} (hcl : Cl ks) (h : Ok ks k 1) : Ok ks (ptr k 3) 100 := by
  refine ⟨?_, pt_1_3 h.2⟩
  rcases hcl k h.1 3 (by rw [h.2]; rfl) (by rw [h.2]; decide) with q | q
  · exact q
  · rw [pt_1_3 h.2] at q; exact absurd q (by decide)
theorem pt_1_4 {k : Nat} (h : clsOf k = 1) : clsOf (ptr k 4) = 100 := by
  have e : ∀ k, k < 121 → clsOf k = 1 → clsOf (ptr k 4) = 100 := by decide +kernel
  exact e k (cls_lt h (by decide)) h
theorem ok_1_4 {ks : List Nat} {k : Nat} (hcl : Cl ks) (h : Ok ks k 1) : Ok ks (ptr k 4) 100 := by
  refine ⟨?_, pt_1_4 h.2⟩
  rcases hcl k h.1 4 (by rw [h.2]; rfl) (by rw [h.2]; decide) with q | q
  · exact q
  · rw [pt_1_4 h.2] at q; exact absurd q (by decide)
theorem pt_1_5 {k : Nat} (h : clsOf k = 1) : clsOf (ptr k 5) = 100 := by
  have e : ∀ k, k < 121 → clsOf k = 1 → clsOf (ptr k 5) = 100 := by decide +kernel
  exact e k (cls_lt h (by decide)) h
theorem ok_1_5 {ks : List Nat} {k : Nat} (hcl : Cl ks) (h : Ok ks k 1) : Ok ks (ptr k 5) 100 := by
  refine ⟨?_, pt_1_5 h.2⟩
  rcases hcl k h.1 5 (by rw [h.2]; rfl) (by rw [h.2]; decide) with q | q
  · exact q
  · rw [pt_1_5 h.2] at q; exact absurd q (by decide)
theorem pt_1_6 {k : Nat} (h : clsOf k = 1) : clsOf (ptr k 6) = 100 := by
  have e : ∀ k, k < 121 → clsOf k = 1 → clsOf (ptr k 6) = 100 := by decide +kernel
  exact e k (cls_lt h (by decide)) h
theorem ok_1_6 {ks : List Nat} {k : Nat} (hcl : Cl ks) (h : Ok ks k 1) : Ok ks (ptr k 6) 100 := by
  refine ⟨?_, pt_1_6 h.2⟩
  rcases hcl k h.1 6 (by rw [h.2]; rfl) (by rw [h.2]; decide) with q | q
  · exact q
  · rw [pt_1_6 h.2] at q; exact absurd q (by decide)
theorem pt_1_7 {k : Nat} (h : clsOf k = 1) : clsOf (ptr k 7) = 100 := by
  have e : ∀ k, k < 121 → clsOf k = 1 → clsOf (ptr k 7) = 100 := by decide +kernel
  exact e k (cls_lt h (by decide)) h
theorem ok_1_7 {ks : List Nat} {k : Nat} (hcl : Cl ks) (h : Ok ks k 1) : Ok ks (ptr k 7) 100 := by
  refine ⟨?_, pt_1_7 h.2⟩
  rcases hcl k h.1 7 (by rw [h.2]; rfl) (by rw [h.2]; decide) with q | q
  · exact q
  · rw [pt_1_7 h.2] at q; exact absurd q (by decide)
theorem pt_2_0 {k : Nat} (h : clsOf k = 2) : clsOf (ptr k 0) = 0 := by
  have e : ∀ k, k < 121 → clsOf k = 2 → clsOf (ptr k 0) = 0 := by decide +kernel
  exact e k (cls_lt h (by decide)) h
theorem ok_2_0 {ks : List Nat} {k : Nat} (hcl : Cl ks) (h : Ok ks k 2) : Ok ks (ptr k 0) 0 := by
  refine ⟨?_, pt_2_0 h.2⟩
  rcases hcl k h.1 0 (by rw [h.2]; rfl) (by rw [h.2]; decide) with q | q
  · exact q
  · rw [pt_2_0 h.2] at q; exact absurd q (by decide)
theorem pt_2_1 {k : Nat} (h : clsOf k = 2) : clsOf (ptr k 1) = 102 := by
  have e : ∀ k, k < 121 → clsOf k = 2 → clsOf (ptr k 1) = 102 := by decide +kernel
  exact e k (cls_lt h (by decide)) h
theorem ok_2_1 {ks : List Nat} {k : Nat} (hcl : Cl ks) (h : Ok ks k 2) : Ok ks (ptr k 1) 102 := by
  refine ⟨?_, pt_2_1 h.2⟩
  rcases hcl k h.1 1 (by rw [h.2]; rfl) (by rw [h.2]; decide) with q | q
  · exact q
  · rw [pt_2_1 h.2] at q; exact absurd q (by decide)
theorem pt_3_0 {k : Nat} (h : clsOf k = 3) : clsOf (ptr k 0) = 4 := by
  have e : ∀ k, k < 121 → clsOf k = 3 → clsOf (ptr k 0) = 4 := by decide +kernel
  exact e k (cls_lt h (by decide)) h
theorem ok_3_0 {ks : List Nat} {k : Nat} (hcl : Cl ks) (h : Ok ks k 3) : Ok ks (ptr k 0) 4 := by
  refine ⟨?_, pt_3_0 h.2⟩
  rcases hcl k h.1 0 (by rw [h.2]; rfl) (by rw [h.2]; decide) with q | q
  · exact q
  · rw [pt_3_0 h.2] at q; exact absurd q (by decide)
theorem pt_3_1 {k : Nat} (h : clsOf k = 3) : clsOf (ptr k 1) = 100 := by
  have e : ∀ k, k < 121 → clsOf k = 3 → clsOf (ptr k 1) = 100 := by decide +kernel
  exact e k (cls_lt h (by decide)) h
theorem ok_3_1 {ks : List Nat} {k : Nat} (hcl : Cl ks) (h : Ok ks k 3) : Ok ks (ptr k 1) 100 := by
  refine ⟨?_, pt_3_1 h.2⟩
  rcases hcl k h.1 1 (by rw [h.2]; rfl) (by rw [h.2]; decide) with q | q
  · exact q
  · rw [pt_3_1 h.2] at q; exact absurd q (by decide)
theorem pt_3_2 {k : Nat} (h : clsOf k = 3) : clsOf (ptr k 2) = 100 := by
  have e : ∀ k, k < 121 → clsOf k = 3 → clsOf (ptr k 2) = 100 := by decide +kernel
  exact e k (cls_lt h (by decide)) h
theorem ok_3_2 {ks : List Nat} {k : Nat} (hcl : Cl ks) (h : Ok ks k 3) : Ok ks (ptr k 2) 100 := by
  refine ⟨?_, pt_3_2 h.2⟩
  rcases hcl k h.1 2 (by rw [h.2]; rfl) (by rw [h.2]; decide) with q | q
  · exact q
  · rw [pt_3_2 h.2] at q; exact absurd q (by decide)
theorem pt_3_3 {k : Nat} (h : clsOf k = 3) : clsOf (ptr k 3) = 100 := by
  have e : ∀ k, k < 121 → clsOf k = 3 → clsOf (ptr k 3) = 100 := by decide +kernel
  exact e k (cls_lt h (by decide)) h
theorem ok_3_3 {ks : List Nat} {k : Nat} (hcl : Cl ks) (h : Ok ks k 3) : Ok ks (ptr k 3) 100 := by
  refine ⟨?_, pt_3_3 h.2⟩
  rcases hcl k h.1 3 (by rw [h.2]; rfl) (by rw [h.2]; decide) with q | q
  · exact q
  · rw [pt_3_3 h.2] at q; exact absurd q (by decide)
theorem pt_4_0 {k : Nat} (h : clsOf k = 4) : clsOf (ptr k 0) = 103 := by
  have e : ∀ k, k < 121 → clsOf k = 4 → clsOf (ptr k 0) = 103 := by decide +kernel
  exact e k (cls_lt h (by decide)) h
theorem st_4_0 {ks : List Nat} {k : Nat} (h : Ok ks k 4) : clsOf (ptr k 0) = 103 := pt_4_0 h.2
theorem pt_4_1 {k : Nat} (h : clsOf k = 4) : clsOf (ptr k 1) = 103 := by
  have e : ∀ k, k < 121 → clsOf k = 4 → clsOf (ptr k 1) = 103 := by decide +kernel
  exact e k (cls_lt h (by decide)) h
theorem st_4_1 {ks : List Nat} {k : Nat} (h : Ok ks k 4) : clsOf (ptr k 1) = 103 := pt_4_1 h.2
theorem pt_4_2 {k : Nat} (h : clsOf k = 4) : clsOf (ptr k 2) = 103 := by
  have e : ∀ k, k < 121 → clsOf k = 4 → clsOf (ptr k 2) = 103 := by decide +kernel
  exact e k (cls_lt h (by decide)) h
theorem st_4_2 {ks : List Nat} {k : Nat} (h : Ok ks k 4) : clsOf (ptr k 2) = 103 := pt_4_2 h.2
theorem pt_4_4 {k : Nat} (h : clsOf k = 4) : clsOf (ptr k 4) = 100 := by
  have e : ∀ k, k < 121 → clsOf k = 4 → clsOf (ptr k 4) = 100 := by decide +kernel
  exact e k (cls_lt h (by decide)) h
theorem ok_4_4 {ks : List Nat} {k : Nat} (hcl : Cl ks) (h : Ok ks k 4) : Ok ks (ptr k 4) 100 := by
  refine ⟨?_, pt_4_4 h.2⟩
  rcases hcl k h.1 4 (by rw [h.2]; rfl) (by rw [h.2]; decide) with q | q
  · exact q
  · rw [pt_4_4 h.2] at q; exact absurd q (by decide)
theorem pt_5_0 {k : Nat} (h : clsOf k = 5) : clsOf (ptr k 0) = 4 := by
  have e : ∀ k, k < 121 → clsOf k = 5 → clsOf (ptr k 0) = 4 := by decide +kernel
  exact e k (cls_lt h (by decide)) h
theorem ok_5_0 {ks : List Nat} {k : Nat} (hcl : Cl ks) (h : Ok ks k 5) : Ok ks (ptr k 0) 4 := by
  refine ⟨?_, pt_5_0 h.2⟩
  rcases hcl k h.1 0 (by rw [h.2]; rfl) (by rw [h.2]; decide) with q | q
  · exact q
  · rw [pt_5_0 h.2] at q; exact absurd q (by decide)
theorem pt_5_1 {k : Nat} (h : clsOf k = 5) : clsOf (ptr k 1) = 1 := by
  have e : ∀ k, k < 121 → clsOf k = 5 → clsOf (ptr k 1) = 1 := by decide +kernel
  exact e k (cls_lt h (by decide)) h
theorem ok_5_1 {ks : List Nat} {k : Nat} (hcl : Cl ks) (h : Ok ks k 5) : Ok ks (ptr k 1) 1 := by
  refine ⟨?_, pt_5_1 h.2⟩
  rcases hcl k h.1 1 (by rw [h.2]; rfl) (by rw [h.2]; decide) with q | q
  · exact q
  · rw [pt_5_1 h.2] at q; exact absurd q (by decide)
theorem pt_5_2 {k : Nat} (h : clsOf k = 5) : clsOf (ptr k 2) = 3 := by
  have e : ∀ k, k < 121 → clsOf k = 5 → clsOf (ptr k 2) = 3 := by decide +kernel
  exact e k (cls_lt h (by decide)) h
theorem ok_5_2 {ks : List Nat} {k : Nat} (hcl : Cl ks) (h : Ok ks k 5) : Ok ks (ptr k 2) 3 := by
  refine ⟨?_, pt_5_2 h.2⟩
  rcases hcl k h.1 2 (by rw [h.2]; rfl) (by rw [h.2]; decide) with q | q
  · exact q
  · rw [pt_5_2 h.2] at q; exact absurd q (by decide)
theorem pt_5_3 {k : Nat} (h : clsOf k = 5) : clsOf (ptr k 3) = 7 := by
  have e : ∀ k, k < 121 → clsOf k = 5 → clsOf (ptr k 3) = 7 := by decide +kernel
  exact e k (cls_lt h (by decide)) h
theorem ok_5_3 {ks : List Nat} {k : Nat} (hcl : Cl ks) (h : Ok ks k 5) : Ok ks (ptr k 3) 7 := by
  refine ⟨?_, pt_5_3 h.2⟩
  rcases hcl k h.1 3 (by rw [h.2]; rfl) (by rw [h.2]; decide) with q | q
  · exact q
  · rw [pt_5_3 h.2] at q; exact absurd q (by decide)
theorem pt_5_4 {k : Nat} (h : clsOf k = 5) : clsOf (ptr k 4) = 0 := by
  have e : ∀ k, k < 121 → clsOf k = 5 → clsOf (ptr k 4) = 0 := by decide +kernel
  exact e k (cls_lt h (by decide)) h
theorem ok_5_4 {ks : List Nat} {k : Nat} (hcl : Cl ks) (h : Ok ks k 5) : Ok ks (ptr k 4) 0 := by
  refine ⟨?_, pt_5_4 h.2⟩
  rcases hcl k h.1 4 (by rw [h.2]; rfl) (by rw [h.2]; decide) with q | q
  · exact q
  · rw [pt_5_4 h.2] at q; exact absurd q (by decide)
theorem pt_6_0 {k : Nat} (h : clsOf k = 6) : clsOf (ptr k 0) = 5 := by
  have e : ∀ k, k < 121 → clsOf k = 6 → clsOf (ptr k 0) = 5 := by decide +kernel
  exact e k (cls_lt h (by decide)) h
theorem ok_6_0 {ks : List Nat} {k : Nat} (hcl : Cl ks) (h : Ok ks k 6) : Ok ks (ptr k 0) 5 := by
  refine ⟨?_, pt_6_0 h.2⟩
  rcases hcl k h.1 0 (by rw [h.2]; rfl) (by rw [h.2]; decide) with q | q
  · exact q
  · rw [pt_6_0 h.2] at q; exact absurd q (by decide)
theorem pt_8_0 {k : Nat} (h : clsOf k = 8) : clsOf (ptr k 0) = 5 := by
  have e : ∀ k, k < 121 → clsOf k = 8 → clsOf (ptr k 0) = 5 := by decide +kernel
  exact e k (cls_lt h (by decide)) h
theorem ok_8_0 {ks : List Nat} {k : Nat} (hcl : Cl ks) (h : Ok ks k 8) : Ok ks (ptr k 0) 5 := by
  refine ⟨?_, pt_8_0 h.2⟩
  rcases hcl k h.1 0 (by rw [h.2]; rfl) (by rw [h.2]; decide) with q | q
  · exact q
  · rw [pt_8_0 h.2] at q; exact absurd q (by decide)
theorem pt_8_1 {k : Nat} (h : clsOf k = 8) : clsOf (ptr k 1) = 5 := by
  have e : ∀ k, k < 121 → clsOf k = 8 → clsOf (ptr k 1) = 5 := by decide +kernel
  exact e k (cls_lt h (by decide)) h
theorem ok_8_1 {ks : List Nat} {k : Nat} (hcl : Cl ks) (h : Ok ks k 8) : Ok ks (ptr k 1) 5 := by
  refine ⟨?_, pt_8_1 h.2⟩
  rcases hcl k h.1 1 (by rw [h.2]; rfl) (by rw [h.2]; decide) with q | q
  · exact q
  · rw [pt_8_1 h.2] at q; exact absurd q (by decide)
theorem pt_8_2 {k : Nat} (h : clsOf k = 8) : clsOf (ptr k 2) = 6 := by
  have e : ∀ k, k < 121 → clsOf k = 8 → clsOf (ptr k 2) = 6 := by decide +kernel
  exact e k (cls_lt h (by decide)) h
theorem ok_8_2 {ks : List Nat} {k : Nat} (hcl : Cl ks) (h : Ok ks k 8) : Ok ks (ptr k 2) 6 := by
  refine ⟨?_, pt_8_2 h.2⟩
  rcases hcl k h.1 2 (by rw [h.2]; rfl) (by rw [h.2]; decide) with q | q
  · exact q
  · rw [pt_8_2 h.2] at q; exact absurd q (by decide)
theorem pt_8_3 {k : Nat} (h : clsOf k = 8) : clsOf (ptr k 3) = 6 := by
  have e : ∀ k, k < 121 → clsOf k = 8 → clsOf (ptr k 3) = 6 := by decide +kernel
  exact e k (cls_lt h (by decide)) h
theorem ok_8_3 {ks : List Nat} {k : Nat} (hcl : Cl ks) (h : Ok ks k 8) : Ok ks (ptr k 3) 6 := by
  refine ⟨?_, pt_8_3 h.2⟩
  rcases hcl k h.1 3 (by rw [h.2]; rfl) (by rw [h.2]; decide) with q | q
  · exact q
  · rw [pt_8_3 h.2] at q; exact absurd q (by decide)
theorem pt_8_4 {k : Nat} (h : clsOf k = 8) : clsOf (ptr k 4) = 2 := by
  have e : ∀ k, k < 121 → clsOf k = 8 → clsOf (ptr k 4) = 2 := by decide +kernel
  exact e k (cls_lt h (by decide)) h
theorem ok_8_4 {ks : List Nat} {k : Nat} (hcl : Cl ks) (h : Ok ks k 8) : Ok ks (ptr k 4) 2 := by
  refine ⟨?_, pt_8_4 h.2⟩
  rcases hcl k h.1 4 (by rw [h.2]; rfl) (by rw [h.2]; decide) with q | q
  · exact q
  · rw [pt_8_4 h.2] at q; exact absurd q (by decide)
theorem ok_slot {ks : List Nat} {k q : Nat} (hcl : Cl ks) (h : Ok ks k 8) (hq : decide (q = ptr k 2 ∨ q = ptr k 3) = true) : Ok ks q 6 := by
  rcases of_decide_eq_true hq with e | e <;> rw [e]
  · exact ok_8_2 hcl h
  · exact ok_8_3 hcl h
