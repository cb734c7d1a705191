/-! THE LAW: its loop, from the switch to the next round. Written by wip/whole/gen/lawgen.py -/
theorem sc_in {i j L : Nat} (hi : i + 3 < L) (hL : L ≤ 2048) (hj : j ≤ 3) : vp_in (nI i + nI j) L := by
  rw [nI_add]
  exact ckI_in (ckI_nI (by omega) (by omega))
/-- the script lies outside our cells -/
def Sx (X : Ctx) (b L : Nat) (xs : Nat → Int32) : Prop := match X with
  | (_, _, _, _, s, _, _, _, _, _, _, _, _, A0, _, _, _, _, _) => va_X b L xs s s.heap ∧ b < s.heap.size ∧ ¬ A0 b
theorem J.sld {X : Ctx} {own : String} {cc : ByteArray} {n0 : Nat} {ret0 : Option FieldType} {fr lo pc : Nat} {loc : List (Nat × Value)} {rest : List Value} {σ : Mem} (C : Cx X own cc n0 ret0 fr lo) {b L : Nat} {xs : Nat → Int32} (S : Sx X b L xs) {i : Int32} (hin : vp_in i L) (hdg : decode cc pc = .ok (.iaload, 1)) (K : J X (pc + 1) loc (.int (xs i.toNatClampNeg) :: rest) σ) : J X pc loc (.int i :: .ref b :: rest) σ := by
  obtain ⟨p, l, e, R, s, m, args, below, meth, c, D, cI, ad, A0, ks, nL, mc, ms, Q⟩ := X
  obtain ⟨hx, hb, hml, hn0, hr, hown, hts, hlocks, hK, hcl, hfr, hlo, hmc, hms, hnw⟩ := C
  obtain ⟨S1, S2, S3⟩ := S
  intro H locs ls hP hD hT hS hl
  exact va_sld hx hb S1 S2 S3 hS hin hdg (K H locs ls hP hD hT hS hl)
theorem J.slen {X : Ctx} {own : String} {cc : ByteArray} {n0 : Nat} {ret0 : Option FieldType} {fr lo pc : Nat} {loc : List (Nat × Value)} {rest : List Value} {σ : Mem} (C : Cx X own cc n0 ret0 fr lo) {b L : Nat} {xs : Nat → Int32} (S : Sx X b L xs) (hdg : decode cc pc = .ok (.arraylength, 1)) (K : J X (pc + 1) loc (.int (Int32.ofNat L) :: rest) σ) : J X pc loc (.ref b :: rest) σ := by
  obtain ⟨p, l, e, R, s, m, args, below, meth, c, D, cI, ad, A0, ks, nL, mc, ms, Q⟩ := X
  obtain ⟨hx, hb, hml, hn0, hr, hown, hts, hlocks, hK, hcl, hfr, hlo, hmc, hms, hnw⟩ := C
  obtain ⟨S1, S2, S3⟩ := S
  intro H locs ls hP hD hT hS hl
  exact va_slen hx hb S1 S2 S3 hS hdg (K H locs ls hP hD hT hS hl)
theorem law_0 {X : Ctx} {σ : Mem} {b L i : Nat} {xs : Nat → Int32} {rt : Option FieldType} (C : Cx X RL code 8 rt 9 326) (S : Sx X b L xs) (H0 : Ok (Xks X) 0 8) (H9 : Ok (Xks X) 105 9) (hI : Inv σ) (hi : i + 3 < L) (hL : L ≤ 2048) (K : ∀ σ', Inv σ' → J X 928 [(0, .ref b), (1, .ref (Xad X 0)), (2, .ref (Xad X 105)), (3, .int (nI i))] [] σ') : J X 152 [(0, .ref b), (1, .ref (Xad X 0)), (2, .ref (Xad X 105)), (3, .int (nI i))] [] σ := by
  obtain ⟨⟨r, σ1⟩, e1, ⟨r2, σ2⟩, e2, hr, hI2⟩ := op_setUp (n := 3000) (by decide) hI (xs (nI i + nI 1).toNatClampNeg)
  dsimp only at e2 hr hI2
  subst hr
  refine J.aload_n C dL_152 rfl 1 rfl ?_
  refine J.aload_n C dL_153 rfl 0 rfl ?_
  refine J.iload_n C dL_154 rfl 3 rfl ?_
  refine J.iconst (v := nI 1) C dL_155 rfl ?_
  refine J.iadd C dL_156 ?_
  refine J.sld C S (sc_in hi hL (by decide)) dL_157 ?_
  refine J.callV (pc := 158) C (m_X8_setUp e1) H0 wyX8_setUp tvX8_setUp_i tvX8_setUp_s tL_13 kcX8 rfl H0 [.int (xs (nI i + nI 1).toNatClampNeg)] [] rfl rfl (Nat.le_of_ble_eq_true rfl) (Nat.le_of_ble_eq_true rfl) (Nat.le_of_ble_eq_true rfl) (stk' := [.int r2]) rfl dL_158 rfl ?_
  dsimp only
  refine J.aload_n C dL_161 rfl 2 rfl ?_
  refine J.aload_n C dL_162 rfl 0 rfl ?_
  refine J.iload_n C dL_163 rfl 3 rfl ?_
  refine J.iconst (v := nI 1) C dL_164 rfl ?_
  refine J.iadd C dL_165 ?_
  refine J.sld C S (sc_in hi hL (by decide)) dL_166 ?_
  refine J.callV (pc := 167) C (m_X9_setUp e2) H9 wyX9_setUp tvX9_setUp_i tvX9_setUp_s tL_17 kcX9 rfl H9 [.int (xs (nI i + nI 1).toNatClampNeg)] [.int r2] rfl rfl (Nat.le_of_ble_eq_true rfl) (Nat.le_of_ble_eq_true rfl) (Nat.le_of_ble_eq_true rfl) (stk' := [.int r2, .int r2]) rfl dL_167 rfl ?_
  dsimp only
  refine J.icmp_eq (A := true) (B := false) (t := true) C dL_170 (tgt := 928) rfl (if_pos rfl) (fun _ => ?_) (fun h => Bool.noConfusion h)
  exact K _ hI2
theorem law_1 {X : Ctx} {σ : Mem} {b L i : Nat} {xs : Nat → Int32} {rt : Option FieldType} (C : Cx X RL code 8 rt 9 326) (S : Sx X b L xs) (H0 : Ok (Xks X) 0 8) (H9 : Ok (Xks X) 105 9) (hI : Inv σ) (hi : i + 3 < L) (hL : L ≤ 2048) (K : ∀ σ', Inv σ' → J X 928 [(0, .ref b), (1, .ref (Xad X 0)), (2, .ref (Xad X 105)), (3, .int (nI i))] [] σ') : J X 175 [(0, .ref b), (1, .ref (Xad X 0)), (2, .ref (Xad X 105)), (3, .int (nI i))] [] σ := by
  obtain ⟨⟨r, σ1⟩, e1, ⟨r2, σ2⟩, e2, hr, hI2⟩ := op_nozzle hI (xs (nI i + nI 1).toNatClampNeg) (xs (nI i + nI 2).toNatClampNeg) (xs (nI i + nI 3).toNatClampNeg)
  dsimp only at e2 hr hI2
  subst hr
  refine J.aload_n C dL_175 rfl 1 rfl ?_
  refine J.aload_n C dL_176 rfl 0 rfl ?_
  refine J.iload_n C dL_177 rfl 3 rfl ?_
  refine J.iconst (v := nI 1) C dL_178 rfl ?_
  refine J.iadd C dL_179 ?_
  refine J.sld C S (sc_in hi hL (by decide)) dL_180 ?_
  refine J.aload_n C dL_181 rfl 0 rfl ?_
  refine J.iload_n C dL_182 rfl 3 rfl ?_
  refine J.iconst (v := nI 2) C dL_183 rfl ?_
  refine J.iadd C dL_184 ?_
  refine J.sld C S (sc_in hi hL (by decide)) dL_185 ?_
  refine J.aload_n C dL_186 rfl 0 rfl ?_
  refine J.iload_n C dL_187 rfl 3 rfl ?_
  refine J.iconst (v := nI 3) C dL_188 rfl ?_
  refine J.iadd C dL_189 ?_
  refine J.sld C S (sc_in hi hL (by decide)) dL_190 ?_
  refine J.callV (pc := 191) C (m_X8_nozzle e1) H0 wyX8_nozzle tvX8_nozzle_i tvX8_nozzle_s tL_18 kcX8 rfl H0 [.int (xs (nI i + nI 1).toNatClampNeg), .int (xs (nI i + nI 2).toNatClampNeg), .int (xs (nI i + nI 3).toNatClampNeg)] [] rfl rfl (Nat.le_of_ble_eq_true rfl) (Nat.le_of_ble_eq_true rfl) (Nat.le_of_ble_eq_true rfl) (stk' := [.int r2]) rfl dL_191 rfl ?_
  dsimp only
  refine J.aload_n C dL_194 rfl 2 rfl ?_
  refine J.aload_n C dL_195 rfl 0 rfl ?_
  refine J.iload_n C dL_196 rfl 3 rfl ?_
  refine J.iconst (v := nI 1) C dL_197 rfl ?_
  refine J.iadd C dL_198 ?_
  refine J.sld C S (sc_in hi hL (by decide)) dL_199 ?_
  refine J.aload_n C dL_200 rfl 0 rfl ?_
  refine J.iload_n C dL_201 rfl 3 rfl ?_
  refine J.iconst (v := nI 2) C dL_202 rfl ?_
  refine J.iadd C dL_203 ?_
  refine J.sld C S (sc_in hi hL (by decide)) dL_204 ?_
  refine J.aload_n C dL_205 rfl 0 rfl ?_
  refine J.iload_n C dL_206 rfl 3 rfl ?_
  refine J.iconst (v := nI 3) C dL_207 rfl ?_
  refine J.iadd C dL_208 ?_
  refine J.sld C S (sc_in hi hL (by decide)) dL_209 ?_
  refine J.callV (pc := 210) C (m_X9_nozzle e2) H9 wyX9_nozzle tvX9_nozzle_i tvX9_nozzle_s tL_22 kcX9 rfl H9 [.int (xs (nI i + nI 1).toNatClampNeg), .int (xs (nI i + nI 2).toNatClampNeg), .int (xs (nI i + nI 3).toNatClampNeg)] [.int r2] rfl rfl (Nat.le_of_ble_eq_true rfl) (Nat.le_of_ble_eq_true rfl) (Nat.le_of_ble_eq_true rfl) (stk' := [.int r2, .int r2]) rfl dL_210 rfl ?_
  dsimp only
  refine J.icmp_eq (A := true) (B := false) (t := true) C dL_213 (tgt := 928) rfl (if_pos rfl) (fun _ => ?_) (fun h => Bool.noConfusion h)
  exact K _ hI2
theorem law_2 {X : Ctx} {σ : Mem} {b L i : Nat} {xs : Nat → Int32} {rt : Option FieldType} (C : Cx X RL code 8 rt 9 326) (S : Sx X b L xs) (H0 : Ok (Xks X) 0 8) (H9 : Ok (Xks X) 105 9) (hI : Inv σ) (hi : i + 3 < L) (hL : L ≤ 2048) (K : ∀ σ', Inv σ' → J X 928 [(0, .ref b), (1, .ref (Xad X 0)), (2, .ref (Xad X 105)), (3, .int (nI i))] [] σ') : J X 218 [(0, .ref b), (1, .ref (Xad X 0)), (2, .ref (Xad X 105)), (3, .int (nI i))] [] σ := by
  obtain ⟨⟨r, σ1⟩, e1, ⟨r2, σ2⟩, e2, hr, hI2⟩ := op_pump hI (xs (nI i + nI 1).toNatClampNeg) (xs (nI i + nI 2).toNatClampNeg) (xs (nI i + nI 3).toNatClampNeg)
  dsimp only at e2 hr hI2
  subst hr
  refine J.aload_n C dL_218 rfl 1 rfl ?_
  refine J.aload_n C dL_219 rfl 0 rfl ?_
  refine J.iload_n C dL_220 rfl 3 rfl ?_
  refine J.iconst (v := nI 1) C dL_221 rfl ?_
  refine J.iadd C dL_222 ?_
  refine J.sld C S (sc_in hi hL (by decide)) dL_223 ?_
  refine J.aload_n C dL_224 rfl 0 rfl ?_
  refine J.iload_n C dL_225 rfl 3 rfl ?_
  refine J.iconst (v := nI 2) C dL_226 rfl ?_
  refine J.iadd C dL_227 ?_
  refine J.sld C S (sc_in hi hL (by decide)) dL_228 ?_
  refine J.aload_n C dL_229 rfl 0 rfl ?_
  refine J.iload_n C dL_230 rfl 3 rfl ?_
  refine J.iconst (v := nI 3) C dL_231 rfl ?_
  refine J.iadd C dL_232 ?_
  refine J.sld C S (sc_in hi hL (by decide)) dL_233 ?_
  refine J.callV (pc := 234) C (m_X8_pump e1) H0 wyX8_pump tvX8_pump_i tvX8_pump_s tL_23 kcX8 rfl H0 [.int (xs (nI i + nI 1).toNatClampNeg), .int (xs (nI i + nI 2).toNatClampNeg), .int (xs (nI i + nI 3).toNatClampNeg)] [] rfl rfl (Nat.le_of_ble_eq_true rfl) (Nat.le_of_ble_eq_true rfl) (Nat.le_of_ble_eq_true rfl) (stk' := [.int r2]) rfl dL_234 rfl ?_
  dsimp only
  refine J.aload_n C dL_237 rfl 2 rfl ?_
  refine J.aload_n C dL_238 rfl 0 rfl ?_
  refine J.iload_n C dL_239 rfl 3 rfl ?_
  refine J.iconst (v := nI 1) C dL_240 rfl ?_
  refine J.iadd C dL_241 ?_
  refine J.sld C S (sc_in hi hL (by decide)) dL_242 ?_
  refine J.aload_n C dL_243 rfl 0 rfl ?_
  refine J.iload_n C dL_244 rfl 3 rfl ?_
  refine J.iconst (v := nI 2) C dL_245 rfl ?_
  refine J.iadd C dL_246 ?_
  refine J.sld C S (sc_in hi hL (by decide)) dL_247 ?_
  refine J.aload_n C dL_248 rfl 0 rfl ?_
  refine J.iload_n C dL_249 rfl 3 rfl ?_
  refine J.iconst (v := nI 3) C dL_250 rfl ?_
  refine J.iadd C dL_251 ?_
  refine J.sld C S (sc_in hi hL (by decide)) dL_252 ?_
  refine J.callV (pc := 253) C (m_X9_pump e2) H9 wyX9_pump tvX9_pump_i tvX9_pump_s tL_26 kcX9 rfl H9 [.int (xs (nI i + nI 1).toNatClampNeg), .int (xs (nI i + nI 2).toNatClampNeg), .int (xs (nI i + nI 3).toNatClampNeg)] [.int r2] rfl rfl (Nat.le_of_ble_eq_true rfl) (Nat.le_of_ble_eq_true rfl) (Nat.le_of_ble_eq_true rfl) (stk' := [.int r2, .int r2]) rfl dL_253 rfl ?_
  dsimp only
  refine J.icmp_eq (A := true) (B := false) (t := true) C dL_256 (tgt := 928) rfl (if_pos rfl) (fun _ => ?_) (fun h => Bool.noConfusion h)
  exact K _ hI2
theorem law_3 {X : Ctx} {σ : Mem} {b L i : Nat} {xs : Nat → Int32} {rt : Option FieldType} (C : Cx X RL code 8 rt 9 326) (S : Sx X b L xs) (H0 : Ok (Xks X) 0 8) (H9 : Ok (Xks X) 105 9) (hI : Inv σ) (hi : i + 3 < L) (hL : L ≤ 2048) (K : ∀ σ', Inv σ' → J X 928 [(0, .ref b), (1, .ref (Xad X 0)), (2, .ref (Xad X 105)), (3, .int (nI i))] [] σ') : J X 261 [(0, .ref b), (1, .ref (Xad X 0)), (2, .ref (Xad X 105)), (3, .int (nI i))] [] σ := by
  obtain ⟨⟨r, σ1⟩, e1, ⟨r2, σ2⟩, e2, hr, hI2⟩ := op_set hI (xs (nI i + nI 1).toNatClampNeg) (xs (nI i + nI 2).toNatClampNeg)
  dsimp only at e2 hr hI2
  subst hr
  refine J.aload_n C dL_261 rfl 1 rfl ?_
  refine J.aload_n C dL_262 rfl 0 rfl ?_
  refine J.iload_n C dL_263 rfl 3 rfl ?_
  refine J.iconst (v := nI 1) C dL_264 rfl ?_
  refine J.iadd C dL_265 ?_
  refine J.sld C S (sc_in hi hL (by decide)) dL_266 ?_
  refine J.aload_n C dL_267 rfl 0 rfl ?_
  refine J.iload_n C dL_268 rfl 3 rfl ?_
  refine J.iconst (v := nI 2) C dL_269 rfl ?_
  refine J.iadd C dL_270 ?_
  refine J.sld C S (sc_in hi hL (by decide)) dL_271 ?_
  refine J.callV (pc := 272) C (m_X8_set e1) H0 wyX8_set tvX8_set_i tvX8_set_s tL_27 kcX8 rfl H0 [.int (xs (nI i + nI 1).toNatClampNeg), .int (xs (nI i + nI 2).toNatClampNeg)] [] rfl rfl (Nat.le_of_ble_eq_true rfl) (Nat.le_of_ble_eq_true rfl) (Nat.le_of_ble_eq_true rfl) (stk' := [.int r2]) rfl dL_272 rfl ?_
  dsimp only
  refine J.aload_n C dL_275 rfl 2 rfl ?_
  refine J.aload_n C dL_276 rfl 0 rfl ?_
  refine J.iload_n C dL_277 rfl 3 rfl ?_
  refine J.iconst (v := nI 1) C dL_278 rfl ?_
  refine J.iadd C dL_279 ?_
  refine J.sld C S (sc_in hi hL (by decide)) dL_280 ?_
  refine J.aload_n C dL_281 rfl 0 rfl ?_
  refine J.iload_n C dL_282 rfl 3 rfl ?_
  refine J.iconst (v := nI 2) C dL_283 rfl ?_
  refine J.iadd C dL_284 ?_
  refine J.sld C S (sc_in hi hL (by decide)) dL_285 ?_
  refine J.callV (pc := 286) C (m_X9_set e2) H9 wyX9_set tvX9_set_i tvX9_set_s tL_31 kcX9 rfl H9 [.int (xs (nI i + nI 1).toNatClampNeg), .int (xs (nI i + nI 2).toNatClampNeg)] [.int r2] rfl rfl (Nat.le_of_ble_eq_true rfl) (Nat.le_of_ble_eq_true rfl) (Nat.le_of_ble_eq_true rfl) (stk' := [.int r2, .int r2]) rfl dL_286 rfl ?_
  dsimp only
  refine J.icmp_eq (A := true) (B := false) (t := true) C dL_289 (tgt := 928) rfl (if_pos rfl) (fun _ => ?_) (fun h => Bool.noConfusion h)
  exact K _ hI2
theorem law_4 {X : Ctx} {σ : Mem} {b L i : Nat} {xs : Nat → Int32} {rt : Option FieldType} (C : Cx X RL code 8 rt 9 326) (S : Sx X b L xs) (H0 : Ok (Xks X) 0 8) (H9 : Ok (Xks X) 105 9) (hI : Inv σ) (hi : i + 3 < L) (hL : L ≤ 2048) (K : ∀ σ', Inv σ' → J X 928 [(0, .ref b), (1, .ref (Xad X 0)), (2, .ref (Xad X 105)), (3, .int (nI i))] [] σ') : J X 294 [(0, .ref b), (1, .ref (Xad X 0)), (2, .ref (Xad X 105)), (3, .int (nI i))] [] σ := by
  obtain ⟨⟨r, σ1⟩, e1, ⟨r2, σ2⟩, e2, hr, hI2⟩ := op_wind hI (xs (nI i + nI 1).toNatClampNeg)
  dsimp only at e2 hr hI2
  subst hr
  refine J.aload_n C dL_294 rfl 1 rfl ?_
  refine J.aload_n C dL_295 rfl 0 rfl ?_
  refine J.iload_n C dL_296 rfl 3 rfl ?_
  refine J.iconst (v := nI 1) C dL_297 rfl ?_
  refine J.iadd C dL_298 ?_
  refine J.sld C S (sc_in hi hL (by decide)) dL_299 ?_
  refine J.callV (pc := 300) C (m_X8_wind e1) H0 wyX8_wind tvX8_wind_i tvX8_wind_s tL_32 kcX8 rfl H0 [.int (xs (nI i + nI 1).toNatClampNeg)] [] rfl rfl (Nat.le_of_ble_eq_true rfl) (Nat.le_of_ble_eq_true rfl) (Nat.le_of_ble_eq_true rfl) (stk' := [.int r2]) rfl dL_300 rfl ?_
  dsimp only
  refine J.aload_n C dL_303 rfl 2 rfl ?_
  refine J.aload_n C dL_304 rfl 0 rfl ?_
  refine J.iload_n C dL_305 rfl 3 rfl ?_
  refine J.iconst (v := nI 1) C dL_306 rfl ?_
  refine J.iadd C dL_307 ?_
  refine J.sld C S (sc_in hi hL (by decide)) dL_308 ?_
  refine J.callV (pc := 309) C (m_X9_wind e2) H9 wyX9_wind tvX9_wind_i tvX9_wind_s tL_35 kcX9 rfl H9 [.int (xs (nI i + nI 1).toNatClampNeg)] [.int r2] rfl rfl (Nat.le_of_ble_eq_true rfl) (Nat.le_of_ble_eq_true rfl) (Nat.le_of_ble_eq_true rfl) (stk' := [.int r2, .int r2]) rfl dL_309 rfl ?_
  dsimp only
  refine J.icmp_eq (A := true) (B := false) (t := true) C dL_312 (tgt := 928) rfl (if_pos rfl) (fun _ => ?_) (fun h => Bool.noConfusion h)
  exact K _ hI2
theorem law_5 {X : Ctx} {σ : Mem} {b L i : Nat} {xs : Nat → Int32} {rt : Option FieldType} (C : Cx X RL code 8 rt 9 326) (S : Sx X b L xs) (H0 : Ok (Xks X) 0 8) (H9 : Ok (Xks X) 105 9) (hI : Inv σ) (hi : i + 3 < L) (hL : L ≤ 2048) (K : ∀ σ', Inv σ' → J X 928 [(0, .ref b), (1, .ref (Xad X 0)), (2, .ref (Xad X 105)), (3, .int (nI i))] [] σ') : J X 317 [(0, .ref b), (1, .ref (Xad X 0)), (2, .ref (Xad X 105)), (3, .int (nI i))] [] σ := by
  obtain ⟨⟨r, σ1⟩, e1, ⟨r2, σ2⟩, e2, hr, hI2⟩ := op_cue (n := 3000) (by decide) hI (xs (nI i + nI 1).toNatClampNeg) (xs (nI i + nI 2).toNatClampNeg) (xs (nI i + nI 3).toNatClampNeg)
  dsimp only at e2 hr hI2
  subst hr
  refine J.aload_n C dL_317 rfl 1 rfl ?_
  refine J.aload_n C dL_318 rfl 0 rfl ?_
  refine J.iload_n C dL_319 rfl 3 rfl ?_
  refine J.iconst (v := nI 1) C dL_320 rfl ?_
  refine J.iadd C dL_321 ?_
  refine J.sld C S (sc_in hi hL (by decide)) dL_322 ?_
  refine J.aload_n C dL_323 rfl 0 rfl ?_
  refine J.iload_n C dL_324 rfl 3 rfl ?_
  refine J.iconst (v := nI 2) C dL_325 rfl ?_
  refine J.iadd C dL_326 ?_
  refine J.sld C S (sc_in hi hL (by decide)) dL_327 ?_
  refine J.aload_n C dL_328 rfl 0 rfl ?_
  refine J.iload_n C dL_329 rfl 3 rfl ?_
  refine J.iconst (v := nI 3) C dL_330 rfl ?_
  refine J.iadd C dL_331 ?_
  refine J.sld C S (sc_in hi hL (by decide)) dL_332 ?_
  refine J.callV (pc := 333) C (m_X8_cue e1) H0 wyX8_cue tvX8_cue_i tvX8_cue_s tL_36 kcX8 rfl H0 [.int (xs (nI i + nI 1).toNatClampNeg), .int (xs (nI i + nI 2).toNatClampNeg), .int (xs (nI i + nI 3).toNatClampNeg)] [] rfl rfl (Nat.le_of_ble_eq_true rfl) (Nat.le_of_ble_eq_true rfl) (Nat.le_of_ble_eq_true rfl) (stk' := [.int r2]) rfl dL_333 rfl ?_
  dsimp only
  refine J.aload_n C dL_336 rfl 2 rfl ?_
  refine J.aload_n C dL_337 rfl 0 rfl ?_
  refine J.iload_n C dL_338 rfl 3 rfl ?_
  refine J.iconst (v := nI 1) C dL_339 rfl ?_
  refine J.iadd C dL_340 ?_
  refine J.sld C S (sc_in hi hL (by decide)) dL_341 ?_
  refine J.aload_n C dL_342 rfl 0 rfl ?_
  refine J.iload_n C dL_343 rfl 3 rfl ?_
  refine J.iconst (v := nI 2) C dL_344 rfl ?_
  refine J.iadd C dL_345 ?_
  refine J.sld C S (sc_in hi hL (by decide)) dL_346 ?_
  refine J.aload_n C dL_347 rfl 0 rfl ?_
  refine J.iload_n C dL_348 rfl 3 rfl ?_
  refine J.iconst (v := nI 3) C dL_349 rfl ?_
  refine J.iadd C dL_350 ?_
  refine J.sld C S (sc_in hi hL (by decide)) dL_351 ?_
  refine J.callV (pc := 352) C (m_X9_cue e2) H9 wyX9_cue tvX9_cue_i tvX9_cue_s tL_39 kcX9 rfl H9 [.int (xs (nI i + nI 1).toNatClampNeg), .int (xs (nI i + nI 2).toNatClampNeg), .int (xs (nI i + nI 3).toNatClampNeg)] [.int r2] rfl rfl (Nat.le_of_ble_eq_true rfl) (Nat.le_of_ble_eq_true rfl) (Nat.le_of_ble_eq_true rfl) (stk' := [.int r2, .int r2]) rfl dL_352 rfl ?_
  dsimp only
  refine J.icmp_eq (A := true) (B := false) (t := true) C dL_355 (tgt := 928) rfl (if_pos rfl) (fun _ => ?_) (fun h => Bool.noConfusion h)
  exact K _ hI2
theorem law_6 {X : Ctx} {σ : Mem} {b L i : Nat} {xs : Nat → Int32} {rt : Option FieldType} (C : Cx X RL code 8 rt 9 326) (S : Sx X b L xs) (H0 : Ok (Xks X) 0 8) (H9 : Ok (Xks X) 105 9) (hI : Inv σ) (hi : i + 3 < L) (hL : L ≤ 2048) (K : ∀ σ', Inv σ' → J X 928 [(0, .ref b), (1, .ref (Xad X 0)), (2, .ref (Xad X 105)), (3, .int (nI i))] [] σ') : J X 360 [(0, .ref b), (1, .ref (Xad X 0)), (2, .ref (Xad X 105)), (3, .int (nI i))] [] σ := by
  obtain ⟨⟨r, σ1⟩, e1, ⟨r2, σ2⟩, e2, hr, hI2⟩ := op_remove (n := 3000) (by decide) hI (xs (nI i + nI 1).toNatClampNeg)
  dsimp only at e2 hr hI2
  subst hr
  refine J.aload_n C dL_360 rfl 1 rfl ?_
  refine J.aload_n C dL_361 rfl 0 rfl ?_
  refine J.iload_n C dL_362 rfl 3 rfl ?_
  refine J.iconst (v := nI 1) C dL_363 rfl ?_
  refine J.iadd C dL_364 ?_
  refine J.sld C S (sc_in hi hL (by decide)) dL_365 ?_
  refine J.callV (pc := 366) C (m_X8_remove e1) H0 wyX8_remove tvX8_remove_i tvX8_remove_s tL_40 kcX8 rfl H0 [.int (xs (nI i + nI 1).toNatClampNeg)] [] rfl rfl (Nat.le_of_ble_eq_true rfl) (Nat.le_of_ble_eq_true rfl) (Nat.le_of_ble_eq_true rfl) (stk' := [.int r2]) rfl dL_366 rfl ?_
  dsimp only
  refine J.aload_n C dL_369 rfl 2 rfl ?_
  refine J.aload_n C dL_370 rfl 0 rfl ?_
  refine J.iload_n C dL_371 rfl 3 rfl ?_
  refine J.iconst (v := nI 1) C dL_372 rfl ?_
  refine J.iadd C dL_373 ?_
  refine J.sld C S (sc_in hi hL (by decide)) dL_374 ?_
  refine J.callV (pc := 375) C (m_X9_remove e2) H9 wyX9_remove tvX9_remove_i tvX9_remove_s tL_43 kcX9 rfl H9 [.int (xs (nI i + nI 1).toNatClampNeg)] [.int r2] rfl rfl (Nat.le_of_ble_eq_true rfl) (Nat.le_of_ble_eq_true rfl) (Nat.le_of_ble_eq_true rfl) (stk' := [.int r2, .int r2]) rfl dL_375 rfl ?_
  dsimp only
  refine J.icmp_eq (A := true) (B := false) (t := true) C dL_378 (tgt := 928) rfl (if_pos rfl) (fun _ => ?_) (fun h => Bool.noConfusion h)
  exact K _ hI2
theorem law_7 {X : Ctx} {σ : Mem} {b L i : Nat} {xs : Nat → Int32} {rt : Option FieldType} (C : Cx X RL code 8 rt 9 326) (S : Sx X b L xs) (H0 : Ok (Xks X) 0 8) (H9 : Ok (Xks X) 105 9) (hI : Inv σ) (hi : i + 3 < L) (hL : L ≤ 2048) (K : ∀ σ', Inv σ' → J X 928 [(0, .ref b), (1, .ref (Xad X 0)), (2, .ref (Xad X 105)), (3, .int (nI i))] [] σ') : J X 383 [(0, .ref b), (1, .ref (Xad X 0)), (2, .ref (Xad X 105)), (3, .int (nI i))] [] σ := by
  obtain ⟨⟨r, σ1⟩, e1, ⟨r2, σ2⟩, e2, hr, hI2⟩ := op_move (n := 3000) (by decide) hI (xs (nI i + nI 1).toNatClampNeg) (xs (nI i + nI 2).toNatClampNeg)
  dsimp only at e2 hr hI2
  subst hr
  refine J.aload_n C dL_383 rfl 1 rfl ?_
  refine J.aload_n C dL_384 rfl 0 rfl ?_
  refine J.iload_n C dL_385 rfl 3 rfl ?_
  refine J.iconst (v := nI 1) C dL_386 rfl ?_
  refine J.iadd C dL_387 ?_
  refine J.sld C S (sc_in hi hL (by decide)) dL_388 ?_
  refine J.aload_n C dL_389 rfl 0 rfl ?_
  refine J.iload_n C dL_390 rfl 3 rfl ?_
  refine J.iconst (v := nI 2) C dL_391 rfl ?_
  refine J.iadd C dL_392 ?_
  refine J.sld C S (sc_in hi hL (by decide)) dL_393 ?_
  refine J.callV (pc := 394) C (m_X8_move e1) H0 wyX8_move tvX8_move_i tvX8_move_s tL_44 kcX8 rfl H0 [.int (xs (nI i + nI 1).toNatClampNeg), .int (xs (nI i + nI 2).toNatClampNeg)] [] rfl rfl (Nat.le_of_ble_eq_true rfl) (Nat.le_of_ble_eq_true rfl) (Nat.le_of_ble_eq_true rfl) (stk' := [.int r2]) rfl dL_394 rfl ?_
  dsimp only
  refine J.aload_n C dL_397 rfl 2 rfl ?_
  refine J.aload_n C dL_398 rfl 0 rfl ?_
  refine J.iload_n C dL_399 rfl 3 rfl ?_
  refine J.iconst (v := nI 1) C dL_400 rfl ?_
  refine J.iadd C dL_401 ?_
  refine J.sld C S (sc_in hi hL (by decide)) dL_402 ?_
  refine J.aload_n C dL_403 rfl 0 rfl ?_
  refine J.iload_n C dL_404 rfl 3 rfl ?_
  refine J.iconst (v := nI 2) C dL_405 rfl ?_
  refine J.iadd C dL_406 ?_
  refine J.sld C S (sc_in hi hL (by decide)) dL_407 ?_
  refine J.callV (pc := 408) C (m_X9_move e2) H9 wyX9_move tvX9_move_i tvX9_move_s tL_47 kcX9 rfl H9 [.int (xs (nI i + nI 1).toNatClampNeg), .int (xs (nI i + nI 2).toNatClampNeg)] [.int r2] rfl rfl (Nat.le_of_ble_eq_true rfl) (Nat.le_of_ble_eq_true rfl) (Nat.le_of_ble_eq_true rfl) (stk' := [.int r2, .int r2]) rfl dL_408 rfl ?_
  dsimp only
  refine J.icmp_eq (A := true) (B := false) (t := true) C dL_411 (tgt := 928) rfl (if_pos rfl) (fun _ => ?_) (fun h => Bool.noConfusion h)
  exact K _ hI2
theorem law_8 {X : Ctx} {σ : Mem} {b L i : Nat} {xs : Nat → Int32} {rt : Option FieldType} (C : Cx X RL code 8 rt 9 326) (S : Sx X b L xs) (H0 : Ok (Xks X) 0 8) (H9 : Ok (Xks X) 105 9) (hI : Inv σ) (hi : i + 3 < L) (hL : L ≤ 2048) (K : ∀ σ', Inv σ' → J X 928 [(0, .ref b), (1, .ref (Xad X 0)), (2, .ref (Xad X 105)), (3, .int (nI i))] [] σ') : J X 416 [(0, .ref b), (1, .ref (Xad X 0)), (2, .ref (Xad X 105)), (3, .int (nI i))] [] σ := by
  obtain ⟨r, e1, e2⟩ := op_part hI (xs (nI i + nI 1).toNatClampNeg) (xs (nI i + nI 2).toNatClampNeg)
  refine J.aload_n C dL_416 rfl 1 rfl ?_
  refine J.aload_n C dL_417 rfl 0 rfl ?_
  refine J.iload_n C dL_418 rfl 3 rfl ?_
  refine J.iconst (v := nI 1) C dL_419 rfl ?_
  refine J.iadd C dL_420 ?_
  refine J.sld C S (sc_in hi hL (by decide)) dL_421 ?_
  refine J.aload_n C dL_422 rfl 0 rfl ?_
  refine J.iload_n C dL_423 rfl 3 rfl ?_
  refine J.iconst (v := nI 2) C dL_424 rfl ?_
  refine J.iadd C dL_425 ?_
  refine J.sld C S (sc_in hi hL (by decide)) dL_426 ?_
  refine J.callV (pc := 427) C (m_X8_part e1) H0 wyX8_part tvX8_part_i tvX8_part_s tL_48 kcX8 rfl H0 [.int (xs (nI i + nI 1).toNatClampNeg), .int (xs (nI i + nI 2).toNatClampNeg)] [] rfl rfl (Nat.le_of_ble_eq_true rfl) (Nat.le_of_ble_eq_true rfl) (Nat.le_of_ble_eq_true rfl) (stk' := [.int r]) rfl dL_427 rfl ?_
  refine J.aload_n C dL_430 rfl 2 rfl ?_
  refine J.aload_n C dL_431 rfl 0 rfl ?_
  refine J.iload_n C dL_432 rfl 3 rfl ?_
  refine J.iconst (v := nI 1) C dL_433 rfl ?_
  refine J.iadd C dL_434 ?_
  refine J.sld C S (sc_in hi hL (by decide)) dL_435 ?_
  refine J.aload_n C dL_436 rfl 0 rfl ?_
  refine J.iload_n C dL_437 rfl 3 rfl ?_
  refine J.iconst (v := nI 2) C dL_438 rfl ?_
  refine J.iadd C dL_439 ?_
  refine J.sld C S (sc_in hi hL (by decide)) dL_440 ?_
  refine J.callV (pc := 441) C (m_X9_part e2) H9 wyX9_part tvX9_part_i tvX9_part_s tL_51 kcX9 rfl H9 [.int (xs (nI i + nI 1).toNatClampNeg), .int (xs (nI i + nI 2).toNatClampNeg)] [.int r] rfl rfl (Nat.le_of_ble_eq_true rfl) (Nat.le_of_ble_eq_true rfl) (Nat.le_of_ble_eq_true rfl) (stk' := [.int r, .int r]) rfl dL_441 rfl ?_
  refine J.icmp_eq (A := true) (B := false) (t := true) C dL_444 (tgt := 928) rfl (if_pos rfl) (fun _ => ?_) (fun h => Bool.noConfusion h)
  exact K _ hI
theorem law_9 {X : Ctx} {σ : Mem} {b L i : Nat} {xs : Nat → Int32} {rt : Option FieldType} (C : Cx X RL code 8 rt 9 326) (S : Sx X b L xs) (H0 : Ok (Xks X) 0 8) (H9 : Ok (Xks X) 105 9) (hI : Inv σ) (hi : i + 3 < L) (hL : L ≤ 2048) (K : ∀ σ', Inv σ' → J X 928 [(0, .ref b), (1, .ref (Xad X 0)), (2, .ref (Xad X 105)), (3, .int (nI i))] [] σ') : J X 449 [(0, .ref b), (1, .ref (Xad X 0)), (2, .ref (Xad X 105)), (3, .int (nI i))] [] σ := by
  obtain ⟨⟨r, σ1⟩, e1, ⟨r2, σ2⟩, e2, hr, hI2⟩ := op_command (n := 3000) (by decide) hI (xs (nI i + nI 1).toNatClampNeg) (xs (nI i + nI 2).toNatClampNeg)
  dsimp only at e2 hr hI2
  subst hr
  refine J.aload_n C dL_449 rfl 1 rfl ?_
  refine J.aload_n C dL_450 rfl 0 rfl ?_
  refine J.iload_n C dL_451 rfl 3 rfl ?_
  refine J.iconst (v := nI 1) C dL_452 rfl ?_
  refine J.iadd C dL_453 ?_
  refine J.sld C S (sc_in hi hL (by decide)) dL_454 ?_
  refine J.aload_n C dL_455 rfl 0 rfl ?_
  refine J.iload_n C dL_456 rfl 3 rfl ?_
  refine J.iconst (v := nI 2) C dL_457 rfl ?_
  refine J.iadd C dL_458 ?_
  refine J.sld C S (sc_in hi hL (by decide)) dL_459 ?_
  refine J.callV (pc := 460) C (m_X8_command e1) H0 wyX8_command tvX8_command_i tvX8_command_s tL_52 kcX8 rfl H0 [.int (xs (nI i + nI 1).toNatClampNeg), .int (xs (nI i + nI 2).toNatClampNeg)] [] rfl rfl (Nat.le_of_ble_eq_true rfl) (Nat.le_of_ble_eq_true rfl) (Nat.le_of_ble_eq_true rfl) (stk' := [.int r2]) rfl dL_460 rfl ?_
  dsimp only
  refine J.aload_n C dL_463 rfl 2 rfl ?_
  refine J.aload_n C dL_464 rfl 0 rfl ?_
  refine J.iload_n C dL_465 rfl 3 rfl ?_
  refine J.iconst (v := nI 1) C dL_466 rfl ?_
  refine J.iadd C dL_467 ?_
  refine J.sld C S (sc_in hi hL (by decide)) dL_468 ?_
  refine J.aload_n C dL_469 rfl 0 rfl ?_
  refine J.iload_n C dL_470 rfl 3 rfl ?_
  refine J.iconst (v := nI 2) C dL_471 rfl ?_
  refine J.iadd C dL_472 ?_
  refine J.sld C S (sc_in hi hL (by decide)) dL_473 ?_
  refine J.callV (pc := 474) C (m_X9_command e2) H9 wyX9_command tvX9_command_i tvX9_command_s tL_55 kcX9 rfl H9 [.int (xs (nI i + nI 1).toNatClampNeg), .int (xs (nI i + nI 2).toNatClampNeg)] [.int r2] rfl rfl (Nat.le_of_ble_eq_true rfl) (Nat.le_of_ble_eq_true rfl) (Nat.le_of_ble_eq_true rfl) (stk' := [.int r2, .int r2]) rfl dL_474 rfl ?_
  dsimp only
  refine J.icmp_eq (A := true) (B := false) (t := true) C dL_477 (tgt := 928) rfl (if_pos rfl) (fun _ => ?_) (fun h => Bool.noConfusion h)
  exact K _ hI2
theorem law_10 {X : Ctx} {σ : Mem} {b L i : Nat} {xs : Nat → Int32} {rt : Option FieldType} (C : Cx X RL code 8 rt 9 326) (S : Sx X b L xs) (H0 : Ok (Xks X) 0 8) (H9 : Ok (Xks X) 105 9) (hI : Inv σ) (hi : i + 3 < L) (hL : L ≤ 2048) (K : ∀ σ', Inv σ' → J X 928 [(0, .ref b), (1, .ref (Xad X 0)), (2, .ref (Xad X 105)), (3, .int (nI i))] [] σ') : J X 482 [(0, .ref b), (1, .ref (Xad X 0)), (2, .ref (Xad X 105)), (3, .int (nI i))] [] σ := by
  obtain ⟨⟨r, σ1⟩, e1, ⟨r2, σ2⟩, e2, hr, hI2⟩ := op_tick (n := 3000) (by decide) hI (xs (nI i + nI 1).toNatClampNeg)
  dsimp only at e2 hr hI2
  subst hr
  refine J.aload_n C dL_482 rfl 1 rfl ?_
  refine J.aload_n C dL_483 rfl 0 rfl ?_
  refine J.iload_n C dL_484 rfl 3 rfl ?_
  refine J.iconst (v := nI 1) C dL_485 rfl ?_
  refine J.iadd C dL_486 ?_
  refine J.sld C S (sc_in hi hL (by decide)) dL_487 ?_
  refine J.callV (pc := 488) C (m_X8_tick e1) H0 wyX8_tick tvX8_tick_i tvX8_tick_s tL_56 kcX8 rfl H0 [.int (xs (nI i + nI 1).toNatClampNeg)] [] rfl rfl (Nat.le_of_ble_eq_true rfl) (Nat.le_of_ble_eq_true rfl) (Nat.le_of_ble_eq_true rfl) (stk' := [.int r2]) rfl dL_488 rfl ?_
  dsimp only
  refine J.aload_n C dL_491 rfl 2 rfl ?_
  refine J.aload_n C dL_492 rfl 0 rfl ?_
  refine J.iload_n C dL_493 rfl 3 rfl ?_
  refine J.iconst (v := nI 1) C dL_494 rfl ?_
  refine J.iadd C dL_495 ?_
  refine J.sld C S (sc_in hi hL (by decide)) dL_496 ?_
  refine J.callV (pc := 497) C (m_X9_tick e2) H9 wyX9_tick tvX9_tick_i tvX9_tick_s tL_59 kcX9 rfl H9 [.int (xs (nI i + nI 1).toNatClampNeg)] [.int r2] rfl rfl (Nat.le_of_ble_eq_true rfl) (Nat.le_of_ble_eq_true rfl) (Nat.le_of_ble_eq_true rfl) (stk' := [.int r2, .int r2]) rfl dL_497 rfl ?_
  dsimp only
  refine J.icmp_eq (A := true) (B := false) (t := true) C dL_500 (tgt := 928) rfl (if_pos rfl) (fun _ => ?_) (fun h => Bool.noConfusion h)
  exact K _ hI2
theorem law_11 {X : Ctx} {σ : Mem} {b L i : Nat} {xs : Nat → Int32} {rt : Option FieldType} (C : Cx X RL code 8 rt 9 326) (S : Sx X b L xs) (H0 : Ok (Xks X) 0 8) (H9 : Ok (Xks X) 105 9) (hI : Inv σ) (hi : i + 3 < L) (hL : L ≤ 2048) (K : ∀ σ', Inv σ' → J X 928 [(0, .ref b), (1, .ref (Xad X 0)), (2, .ref (Xad X 105)), (3, .int (nI i))] [] σ') : J X 505 [(0, .ref b), (1, .ref (Xad X 0)), (2, .ref (Xad X 105)), (3, .int (nI i))] [] σ := by
  obtain ⟨⟨r, σ1⟩, e1, ⟨r2, σ2⟩, e2, hr, hI2⟩ := op_rewind (n := 3000) (by decide) hI 
  dsimp only at e2 hr hI2
  subst hr
  refine J.aload_n C dL_505 rfl 1 rfl ?_
  refine J.callV (pc := 506) C (m_X8_rewind e1) H0 wyX8_rewind tvX8_rewind_i tvX8_rewind_s tL_60 kcX8 rfl H0 [] [] rfl rfl (Nat.le_of_ble_eq_true rfl) (Nat.le_of_ble_eq_true rfl) (Nat.le_of_ble_eq_true rfl) (stk' := [.int r2]) rfl dL_506 rfl ?_
  dsimp only
  refine J.aload_n C dL_509 rfl 2 rfl ?_
  refine J.callV (pc := 510) C (m_X9_rewind e2) H9 wyX9_rewind tvX9_rewind_i tvX9_rewind_s tL_64 kcX9 rfl H9 [] [.int r2] rfl rfl (Nat.le_of_ble_eq_true rfl) (Nat.le_of_ble_eq_true rfl) (Nat.le_of_ble_eq_true rfl) (stk' := [.int r2, .int r2]) rfl dL_510 rfl ?_
  dsimp only
  refine J.icmp_eq (A := true) (B := false) (t := true) C dL_513 (tgt := 928) rfl (if_pos rfl) (fun _ => ?_) (fun h => Bool.noConfusion h)
  exact K _ hI2
theorem law_12 {X : Ctx} {σ : Mem} {b L i : Nat} {xs : Nat → Int32} {rt : Option FieldType} (C : Cx X RL code 8 rt 9 326) (S : Sx X b L xs) (H0 : Ok (Xks X) 0 8) (H9 : Ok (Xks X) 105 9) (hI : Inv σ) (hi : i + 3 < L) (hL : L ≤ 2048) (K : ∀ σ', Inv σ' → J X 928 [(0, .ref b), (1, .ref (Xad X 0)), (2, .ref (Xad X 105)), (3, .int (nI i))] [] σ') : J X 518 [(0, .ref b), (1, .ref (Xad X 0)), (2, .ref (Xad X 105)), (3, .int (nI i))] [] σ := by
  obtain ⟨r, e1, e2⟩ := op_spray hI (xs (nI i + nI 1).toNatClampNeg) (xs (nI i + nI 2).toNatClampNeg)
  refine J.aload_n C dL_518 rfl 1 rfl ?_
  refine J.aload_n C dL_519 rfl 0 rfl ?_
  refine J.iload_n C dL_520 rfl 3 rfl ?_
  refine J.iconst (v := nI 1) C dL_521 rfl ?_
  refine J.iadd C dL_522 ?_
  refine J.sld C S (sc_in hi hL (by decide)) dL_523 ?_
  refine J.aload_n C dL_524 rfl 0 rfl ?_
  refine J.iload_n C dL_525 rfl 3 rfl ?_
  refine J.iconst (v := nI 2) C dL_526 rfl ?_
  refine J.iadd C dL_527 ?_
  refine J.sld C S (sc_in hi hL (by decide)) dL_528 ?_
  refine J.callV (pc := 529) C (m_X8_spray e1) H0 wyX8_spray tvX8_spray_i tvX8_spray_s tL_65 kcX8 rfl H0 [.int (xs (nI i + nI 1).toNatClampNeg), .int (xs (nI i + nI 2).toNatClampNeg)] [] rfl rfl (Nat.le_of_ble_eq_true rfl) (Nat.le_of_ble_eq_true rfl) (Nat.le_of_ble_eq_true rfl) (stk' := [.int r]) rfl dL_529 rfl ?_
  refine J.aload_n C dL_532 rfl 2 rfl ?_
  refine J.aload_n C dL_533 rfl 0 rfl ?_
  refine J.iload_n C dL_534 rfl 3 rfl ?_
  refine J.iconst (v := nI 1) C dL_535 rfl ?_
  refine J.iadd C dL_536 ?_
  refine J.sld C S (sc_in hi hL (by decide)) dL_537 ?_
  refine J.aload_n C dL_538 rfl 0 rfl ?_
  refine J.iload_n C dL_539 rfl 3 rfl ?_
  refine J.iconst (v := nI 2) C dL_540 rfl ?_
  refine J.iadd C dL_541 ?_
  refine J.sld C S (sc_in hi hL (by decide)) dL_542 ?_
  refine J.callV (pc := 543) C (m_X9_spray e2) H9 wyX9_spray tvX9_spray_i tvX9_spray_s tL_68 kcX9 rfl H9 [.int (xs (nI i + nI 1).toNatClampNeg), .int (xs (nI i + nI 2).toNatClampNeg)] [.int r] rfl rfl (Nat.le_of_ble_eq_true rfl) (Nat.le_of_ble_eq_true rfl) (Nat.le_of_ble_eq_true rfl) (stk' := [.int r, .int r]) rfl dL_543 rfl ?_
  refine J.icmp_eq (A := true) (B := false) (t := true) C dL_546 (tgt := 928) rfl (if_pos rfl) (fun _ => ?_) (fun h => Bool.noConfusion h)
  exact K _ hI
theorem law_13 {X : Ctx} {σ : Mem} {b L i : Nat} {xs : Nat → Int32} {rt : Option FieldType} (C : Cx X RL code 8 rt 9 326) (S : Sx X b L xs) (H0 : Ok (Xks X) 0 8) (H9 : Ok (Xks X) 105 9) (hI : Inv σ) (hi : i + 3 < L) (hL : L ≤ 2048) (K : ∀ σ', Inv σ' → J X 928 [(0, .ref b), (1, .ref (Xad X 0)), (2, .ref (Xad X 105)), (3, .int (nI i))] [] σ') : J X 551 [(0, .ref b), (1, .ref (Xad X 0)), (2, .ref (Xad X 105)), (3, .int (nI i))] [] σ := by
  obtain ⟨r, e1, e2⟩ := op_pressure hI (xs (nI i + nI 1).toNatClampNeg) (xs (nI i + nI 2).toNatClampNeg)
  refine J.aload_n C dL_551 rfl 1 rfl ?_
  refine J.aload_n C dL_552 rfl 0 rfl ?_
  refine J.iload_n C dL_553 rfl 3 rfl ?_
  refine J.iconst (v := nI 1) C dL_554 rfl ?_
  refine J.iadd C dL_555 ?_
  refine J.sld C S (sc_in hi hL (by decide)) dL_556 ?_
  refine J.aload_n C dL_557 rfl 0 rfl ?_
  refine J.iload_n C dL_558 rfl 3 rfl ?_
  refine J.iconst (v := nI 2) C dL_559 rfl ?_
  refine J.iadd C dL_560 ?_
  refine J.sld C S (sc_in hi hL (by decide)) dL_561 ?_
  refine J.callV (pc := 562) C (m_X8_pressure e1) H0 wyX8_pressure tvX8_pressure_i tvX8_pressure_s tL_69 kcX8 rfl H0 [.int (xs (nI i + nI 1).toNatClampNeg), .int (xs (nI i + nI 2).toNatClampNeg)] [] rfl rfl (Nat.le_of_ble_eq_true rfl) (Nat.le_of_ble_eq_true rfl) (Nat.le_of_ble_eq_true rfl) (stk' := [.int r]) rfl dL_562 rfl ?_
  refine J.aload_n C dL_565 rfl 2 rfl ?_
  refine J.aload_n C dL_566 rfl 0 rfl ?_
  refine J.iload_n C dL_567 rfl 3 rfl ?_
  refine J.iconst (v := nI 1) C dL_568 rfl ?_
  refine J.iadd C dL_569 ?_
  refine J.sld C S (sc_in hi hL (by decide)) dL_570 ?_
  refine J.aload_n C dL_571 rfl 0 rfl ?_
  refine J.iload_n C dL_572 rfl 3 rfl ?_
  refine J.iconst (v := nI 2) C dL_573 rfl ?_
  refine J.iadd C dL_574 ?_
  refine J.sld C S (sc_in hi hL (by decide)) dL_575 ?_
  refine J.callV (pc := 576) C (m_X9_pressure e2) H9 wyX9_pressure tvX9_pressure_i tvX9_pressure_s tL_72 kcX9 rfl H9 [.int (xs (nI i + nI 1).toNatClampNeg), .int (xs (nI i + nI 2).toNatClampNeg)] [.int r] rfl rfl (Nat.le_of_ble_eq_true rfl) (Nat.le_of_ble_eq_true rfl) (Nat.le_of_ble_eq_true rfl) (stk' := [.int r, .int r]) rfl dL_576 rfl ?_
  refine J.icmp_eq (A := true) (B := false) (t := true) C dL_579 (tgt := 928) rfl (if_pos rfl) (fun _ => ?_) (fun h => Bool.noConfusion h)
  exact K _ hI
theorem law_16 {X : Ctx} {σ : Mem} {b L i : Nat} {xs : Nat → Int32} {rt : Option FieldType} (C : Cx X RL code 8 rt 9 326) (S : Sx X b L xs) (H0 : Ok (Xks X) 0 8) (H9 : Ok (Xks X) 105 9) (hI : Inv σ) (hi : i + 3 < L) (hL : L ≤ 2048) (K : ∀ σ', Inv σ' → J X 928 [(0, .ref b), (1, .ref (Xad X 0)), (2, .ref (Xad X 105)), (3, .int (nI i))] [] σ') : J X 678 [(0, .ref b), (1, .ref (Xad X 0)), (2, .ref (Xad X 105)), (3, .int (nI i))] [] σ := by
  obtain ⟨r, e1, e2⟩ := op_state (n := 3000) (by decide) hI (xs (nI i + nI 1).toNatClampNeg)
  refine J.aload_n C dL_678 rfl 1 rfl ?_
  refine J.aload_n C dL_679 rfl 0 rfl ?_
  refine J.iload_n C dL_680 rfl 3 rfl ?_
  refine J.iconst (v := nI 1) C dL_681 rfl ?_
  refine J.iadd C dL_682 ?_
  refine J.sld C S (sc_in hi hL (by decide)) dL_683 ?_
  refine J.callV (pc := 684) C (m_X8_state e1) H0 wyX8_state tvX8_state_i tvX8_state_s tL_83 kcX8 rfl H0 [.int (xs (nI i + nI 1).toNatClampNeg)] [] rfl rfl (Nat.le_of_ble_eq_true rfl) (Nat.le_of_ble_eq_true rfl) (Nat.le_of_ble_eq_true rfl) (stk' := [.int r]) rfl dL_684 rfl ?_
  refine J.aload_n C dL_687 rfl 2 rfl ?_
  refine J.aload_n C dL_688 rfl 0 rfl ?_
  refine J.iload_n C dL_689 rfl 3 rfl ?_
  refine J.iconst (v := nI 1) C dL_690 rfl ?_
  refine J.iadd C dL_691 ?_
  refine J.sld C S (sc_in hi hL (by decide)) dL_692 ?_
  refine J.callV (pc := 693) C (m_X9_state e2) H9 wyX9_state tvX9_state_i tvX9_state_s tL_86 kcX9 rfl H9 [.int (xs (nI i + nI 1).toNatClampNeg)] [.int r] rfl rfl (Nat.le_of_ble_eq_true rfl) (Nat.le_of_ble_eq_true rfl) (Nat.le_of_ble_eq_true rfl) (stk' := [.int r, .int r]) rfl dL_693 rfl ?_
  refine J.icmp_eq (A := true) (B := false) (t := true) C dL_696 (tgt := 928) rfl (if_pos rfl) (fun _ => ?_) (fun h => Bool.noConfusion h)
  exact K _ hI
theorem law_17 {X : Ctx} {σ : Mem} {b L i : Nat} {xs : Nat → Int32} {rt : Option FieldType} (C : Cx X RL code 8 rt 9 326) (S : Sx X b L xs) (H0 : Ok (Xks X) 0 8) (H9 : Ok (Xks X) 105 9) (hI : Inv σ) (hi : i + 3 < L) (hL : L ≤ 2048) (K : ∀ σ', Inv σ' → J X 928 [(0, .ref b), (1, .ref (Xad X 0)), (2, .ref (Xad X 105)), (3, .int (nI i))] [] σ') : J X 701 [(0, .ref b), (1, .ref (Xad X 0)), (2, .ref (Xad X 105)), (3, .int (nI i))] [] σ := by
  obtain ⟨⟨r, σ1⟩, e1, ⟨r2, σ2⟩, e2, hr, hI2⟩ := op_ahead (n := 3000) (by decide) hI (xs (nI i + nI 1).toNatClampNeg) (xs (nI i + nI 2).toNatClampNeg) (xs (nI i + nI 3).toNatClampNeg)
  dsimp only at e2 hr hI2
  subst hr
  refine J.aload_n C dL_701 rfl 1 rfl ?_
  refine J.aload_n C dL_702 rfl 0 rfl ?_
  refine J.iload_n C dL_703 rfl 3 rfl ?_
  refine J.iconst (v := nI 1) C dL_704 rfl ?_
  refine J.iadd C dL_705 ?_
  refine J.sld C S (sc_in hi hL (by decide)) dL_706 ?_
  refine J.aload_n C dL_707 rfl 0 rfl ?_
  refine J.iload_n C dL_708 rfl 3 rfl ?_
  refine J.iconst (v := nI 2) C dL_709 rfl ?_
  refine J.iadd C dL_710 ?_
  refine J.sld C S (sc_in hi hL (by decide)) dL_711 ?_
  refine J.aload_n C dL_712 rfl 0 rfl ?_
  refine J.iload_n C dL_713 rfl 3 rfl ?_
  refine J.iconst (v := nI 3) C dL_714 rfl ?_
  refine J.iadd C dL_715 ?_
  refine J.sld C S (sc_in hi hL (by decide)) dL_716 ?_
  refine J.callV (pc := 717) C (m_X8_ahead e1) H0 wyX8_ahead tvX8_ahead_i tvX8_ahead_s tL_87 kcX8 rfl H0 [.int (xs (nI i + nI 1).toNatClampNeg), .int (xs (nI i + nI 2).toNatClampNeg), .int (xs (nI i + nI 3).toNatClampNeg)] [] rfl rfl (Nat.le_of_ble_eq_true rfl) (Nat.le_of_ble_eq_true rfl) (Nat.le_of_ble_eq_true rfl) (stk' := [.int r2]) rfl dL_717 rfl ?_
  dsimp only
  refine J.aload_n C dL_720 rfl 2 rfl ?_
  refine J.aload_n C dL_721 rfl 0 rfl ?_
  refine J.iload_n C dL_722 rfl 3 rfl ?_
  refine J.iconst (v := nI 1) C dL_723 rfl ?_
  refine J.iadd C dL_724 ?_
  refine J.sld C S (sc_in hi hL (by decide)) dL_725 ?_
  refine J.aload_n C dL_726 rfl 0 rfl ?_
  refine J.iload_n C dL_727 rfl 3 rfl ?_
  refine J.iconst (v := nI 2) C dL_728 rfl ?_
  refine J.iadd C dL_729 ?_
  refine J.sld C S (sc_in hi hL (by decide)) dL_730 ?_
  refine J.aload_n C dL_731 rfl 0 rfl ?_
  refine J.iload_n C dL_732 rfl 3 rfl ?_
  refine J.iconst (v := nI 3) C dL_733 rfl ?_
  refine J.iadd C dL_734 ?_
  refine J.sld C S (sc_in hi hL (by decide)) dL_735 ?_
  refine J.callV (pc := 736) C (m_X9_ahead e2) H9 wyX9_ahead tvX9_ahead_i tvX9_ahead_s tL_90 kcX9 rfl H9 [.int (xs (nI i + nI 1).toNatClampNeg), .int (xs (nI i + nI 2).toNatClampNeg), .int (xs (nI i + nI 3).toNatClampNeg)] [.int r2] rfl rfl (Nat.le_of_ble_eq_true rfl) (Nat.le_of_ble_eq_true rfl) (Nat.le_of_ble_eq_true rfl) (stk' := [.int r2, .int r2]) rfl dL_736 rfl ?_
  dsimp only
  refine J.icmp_eq (A := true) (B := false) (t := true) C dL_739 (tgt := 928) rfl (if_pos rfl) (fun _ => ?_) (fun h => Bool.noConfusion h)
  exact K _ hI2
theorem law_18 {X : Ctx} {σ : Mem} {b L i : Nat} {xs : Nat → Int32} {rt : Option FieldType} (C : Cx X RL code 8 rt 9 326) (S : Sx X b L xs) (H0 : Ok (Xks X) 0 8) (H9 : Ok (Xks X) 105 9) (hI : Inv σ) (hi : i + 3 < L) (hL : L ≤ 2048) (K : ∀ σ', Inv σ' → J X 928 [(0, .ref b), (1, .ref (Xad X 0)), (2, .ref (Xad X 105)), (3, .int (nI i))] [] σ') : J X 744 [(0, .ref b), (1, .ref (Xad X 0)), (2, .ref (Xad X 105)), (3, .int (nI i))] [] σ := by
  obtain ⟨⟨r, σ1⟩, e1, ⟨r2, σ2⟩, e2, hr, hI2⟩ := op_delay (n := 3000) (by decide) hI (xs (nI i + nI 1).toNatClampNeg) (xs (nI i + nI 2).toNatClampNeg) (xs (nI i + nI 3).toNatClampNeg)
  dsimp only at e2 hr hI2
  subst hr
  refine J.aload_n C dL_744 rfl 1 rfl ?_
  refine J.aload_n C dL_745 rfl 0 rfl ?_
  refine J.iload_n C dL_746 rfl 3 rfl ?_
  refine J.iconst (v := nI 1) C dL_747 rfl ?_
  refine J.iadd C dL_748 ?_
  refine J.sld C S (sc_in hi hL (by decide)) dL_749 ?_
  refine J.aload_n C dL_750 rfl 0 rfl ?_
  refine J.iload_n C dL_751 rfl 3 rfl ?_
  refine J.iconst (v := nI 2) C dL_752 rfl ?_
  refine J.iadd C dL_753 ?_
  refine J.sld C S (sc_in hi hL (by decide)) dL_754 ?_
  refine J.aload_n C dL_755 rfl 0 rfl ?_
  refine J.iload_n C dL_756 rfl 3 rfl ?_
  refine J.iconst (v := nI 3) C dL_757 rfl ?_
  refine J.iadd C dL_758 ?_
  refine J.sld C S (sc_in hi hL (by decide)) dL_759 ?_
  refine J.callV (pc := 760) C (m_X8_delay e1) H0 wyX8_delay tvX8_delay_i tvX8_delay_s tL_91 kcX8 rfl H0 [.int (xs (nI i + nI 1).toNatClampNeg), .int (xs (nI i + nI 2).toNatClampNeg), .int (xs (nI i + nI 3).toNatClampNeg)] [] rfl rfl (Nat.le_of_ble_eq_true rfl) (Nat.le_of_ble_eq_true rfl) (Nat.le_of_ble_eq_true rfl) (stk' := [.int r2]) rfl dL_760 rfl ?_
  dsimp only
  refine J.aload_n C dL_763 rfl 2 rfl ?_
  refine J.aload_n C dL_764 rfl 0 rfl ?_
  refine J.iload_n C dL_765 rfl 3 rfl ?_
  refine J.iconst (v := nI 1) C dL_766 rfl ?_
  refine J.iadd C dL_767 ?_
  refine J.sld C S (sc_in hi hL (by decide)) dL_768 ?_
  refine J.aload_n C dL_769 rfl 0 rfl ?_
  refine J.iload_n C dL_770 rfl 3 rfl ?_
  refine J.iconst (v := nI 2) C dL_771 rfl ?_
  refine J.iadd C dL_772 ?_
  refine J.sld C S (sc_in hi hL (by decide)) dL_773 ?_
  refine J.aload_n C dL_774 rfl 0 rfl ?_
  refine J.iload_n C dL_775 rfl 3 rfl ?_
  refine J.iconst (v := nI 3) C dL_776 rfl ?_
  refine J.iadd C dL_777 ?_
  refine J.sld C S (sc_in hi hL (by decide)) dL_778 ?_
  refine J.callV (pc := 779) C (m_X9_delay e2) H9 wyX9_delay tvX9_delay_i tvX9_delay_s tL_94 kcX9 rfl H9 [.int (xs (nI i + nI 1).toNatClampNeg), .int (xs (nI i + nI 2).toNatClampNeg), .int (xs (nI i + nI 3).toNatClampNeg)] [.int r2] rfl rfl (Nat.le_of_ble_eq_true rfl) (Nat.le_of_ble_eq_true rfl) (Nat.le_of_ble_eq_true rfl) (stk' := [.int r2, .int r2]) rfl dL_779 rfl ?_
  dsimp only
  refine J.icmp_eq (A := true) (B := false) (t := true) C dL_782 (tgt := 928) rfl (if_pos rfl) (fun _ => ?_) (fun h => Bool.noConfusion h)
  exact K _ hI2
theorem law_19 {X : Ctx} {σ : Mem} {b L i : Nat} {xs : Nat → Int32} {rt : Option FieldType} (C : Cx X RL code 8 rt 9 326) (S : Sx X b L xs) (H0 : Ok (Xks X) 0 8) (H9 : Ok (Xks X) 105 9) (hI : Inv σ) (hi : i + 3 < L) (hL : L ≤ 2048) (K : ∀ σ', Inv σ' → J X 928 [(0, .ref b), (1, .ref (Xad X 0)), (2, .ref (Xad X 105)), (3, .int (nI i))] [] σ') : J X 787 [(0, .ref b), (1, .ref (Xad X 0)), (2, .ref (Xad X 105)), (3, .int (nI i))] [] σ := by
  obtain ⟨⟨r, σ1⟩, e1, ⟨r2, σ2⟩, e2, hr, hI2⟩ := op_safeCut (n := 3000) (by decide) hI (xs (nI i + nI 1).toNatClampNeg)
  dsimp only at e2 hr hI2
  subst hr
  refine J.aload_n C dL_787 rfl 1 rfl ?_
  refine J.aload_n C dL_788 rfl 0 rfl ?_
  refine J.iload_n C dL_789 rfl 3 rfl ?_
  refine J.iconst (v := nI 1) C dL_790 rfl ?_
  refine J.iadd C dL_791 ?_
  refine J.sld C S (sc_in hi hL (by decide)) dL_792 ?_
  refine J.callV (pc := 793) C (m_X8_safeCut e1) H0 wyX8_safeCut tvX8_safeCut_i tvX8_safeCut_s tL_95 kcX8 rfl H0 [.int (xs (nI i + nI 1).toNatClampNeg)] [] rfl rfl (Nat.le_of_ble_eq_true rfl) (Nat.le_of_ble_eq_true rfl) (Nat.le_of_ble_eq_true rfl) (stk' := [.int r2]) rfl dL_793 rfl ?_
  dsimp only
  refine J.aload_n C dL_796 rfl 2 rfl ?_
  refine J.aload_n C dL_797 rfl 0 rfl ?_
  refine J.iload_n C dL_798 rfl 3 rfl ?_
  refine J.iconst (v := nI 1) C dL_799 rfl ?_
  refine J.iadd C dL_800 ?_
  refine J.sld C S (sc_in hi hL (by decide)) dL_801 ?_
  refine J.callV (pc := 802) C (m_X9_safeCut e2) H9 wyX9_safeCut tvX9_safeCut_i tvX9_safeCut_s tL_98 kcX9 rfl H9 [.int (xs (nI i + nI 1).toNatClampNeg)] [.int r2] rfl rfl (Nat.le_of_ble_eq_true rfl) (Nat.le_of_ble_eq_true rfl) (Nat.le_of_ble_eq_true rfl) (stk' := [.int r2, .int r2]) rfl dL_802 rfl ?_
  dsimp only
  refine J.icmp_eq (A := true) (B := false) (t := true) C dL_805 (tgt := 928) rfl (if_pos rfl) (fun _ => ?_) (fun h => Bool.noConfusion h)
  exact K _ hI2
theorem law_20 {X : Ctx} {σ : Mem} {b L i : Nat} {xs : Nat → Int32} {rt : Option FieldType} (C : Cx X RL code 8 rt 9 326) (S : Sx X b L xs) (H0 : Ok (Xks X) 0 8) (H9 : Ok (Xks X) 105 9) (hI : Inv σ) (hi : i + 3 < L) (hL : L ≤ 2048) (K : ∀ σ', Inv σ' → J X 928 [(0, .ref b), (1, .ref (Xad X 0)), (2, .ref (Xad X 105)), (3, .int (nI i))] [] σ') : J X 810 [(0, .ref b), (1, .ref (Xad X 0)), (2, .ref (Xad X 105)), (3, .int (nI i))] [] σ := by
  obtain ⟨⟨r, σ1⟩, e1, ⟨r2, σ2⟩, e2, hr, hI2⟩ := op_say hI (xs (nI i + nI 1).toNatClampNeg)
  dsimp only at e2 hr hI2
  subst hr
  refine J.aload_n C dL_810 rfl 1 rfl ?_
  refine J.aload_n C dL_811 rfl 0 rfl ?_
  refine J.iload_n C dL_812 rfl 3 rfl ?_
  refine J.iconst (v := nI 1) C dL_813 rfl ?_
  refine J.iadd C dL_814 ?_
  refine J.sld C S (sc_in hi hL (by decide)) dL_815 ?_
  refine J.callV (pc := 816) C (m_X8_say e1) H0 wyX8_say tvX8_say_i tvX8_say_s tL_99 kcX8 rfl H0 [.int (xs (nI i + nI 1).toNatClampNeg)] [] rfl rfl (Nat.le_of_ble_eq_true rfl) (Nat.le_of_ble_eq_true rfl) (Nat.le_of_ble_eq_true rfl) (stk' := [.int r2]) rfl dL_816 rfl ?_
  dsimp only
  refine J.aload_n C dL_819 rfl 2 rfl ?_
  refine J.aload_n C dL_820 rfl 0 rfl ?_
  refine J.iload_n C dL_821 rfl 3 rfl ?_
  refine J.iconst (v := nI 1) C dL_822 rfl ?_
  refine J.iadd C dL_823 ?_
  refine J.sld C S (sc_in hi hL (by decide)) dL_824 ?_
  refine J.callV (pc := 825) C (m_X9_say e2) H9 wyX9_say tvX9_say_i tvX9_say_s tL_102 kcX9 rfl H9 [.int (xs (nI i + nI 1).toNatClampNeg)] [.int r2] rfl rfl (Nat.le_of_ble_eq_true rfl) (Nat.le_of_ble_eq_true rfl) (Nat.le_of_ble_eq_true rfl) (stk' := [.int r2, .int r2]) rfl dL_825 rfl ?_
  dsimp only
  refine J.icmp_eq (A := true) (B := false) (t := true) C dL_828 (tgt := 928) rfl (if_pos rfl) (fun _ => ?_) (fun h => Bool.noConfusion h)
  exact K _ hI2
theorem law_21 {X : Ctx} {σ : Mem} {b L i : Nat} {xs : Nat → Int32} {rt : Option FieldType} (C : Cx X RL code 8 rt 9 326) (S : Sx X b L xs) (H0 : Ok (Xks X) 0 8) (H9 : Ok (Xks X) 105 9) (hI : Inv σ) (hi : i + 3 < L) (hL : L ≤ 2048) (K : ∀ σ', Inv σ' → J X 928 [(0, .ref b), (1, .ref (Xad X 0)), (2, .ref (Xad X 105)), (3, .int (nI i))] [] σ') : J X 833 [(0, .ref b), (1, .ref (Xad X 0)), (2, .ref (Xad X 105)), (3, .int (nI i))] [] σ := by
  obtain ⟨⟨r, σ1⟩, e1, ⟨r2, σ2⟩, e2, hr, hI2⟩ := op_wipe hI 
  dsimp only at e2 hr hI2
  subst hr
  refine J.aload_n C dL_833 rfl 1 rfl ?_
  refine J.callV (pc := 834) C (m_X8_wipe e1) H0 wyX8_wipe tvX8_wipe_i tvX8_wipe_s tL_103 kcX8 rfl H0 [] [] rfl rfl (Nat.le_of_ble_eq_true rfl) (Nat.le_of_ble_eq_true rfl) (Nat.le_of_ble_eq_true rfl) (stk' := [.int r2]) rfl dL_834 rfl ?_
  dsimp only
  refine J.aload_n C dL_837 rfl 2 rfl ?_
  refine J.callV (pc := 838) C (m_X9_wipe e2) H9 wyX9_wipe tvX9_wipe_i tvX9_wipe_s tL_106 kcX9 rfl H9 [] [.int r2] rfl rfl (Nat.le_of_ble_eq_true rfl) (Nat.le_of_ble_eq_true rfl) (Nat.le_of_ble_eq_true rfl) (stk' := [.int r2, .int r2]) rfl dL_838 rfl ?_
  dsimp only
  refine J.icmp_eq (A := true) (B := false) (t := true) C dL_841 (tgt := 928) rfl (if_pos rfl) (fun _ => ?_) (fun h => Bool.noConfusion h)
  exact K _ hI2
theorem law_22 {X : Ctx} {σ : Mem} {b L i : Nat} {xs : Nat → Int32} {rt : Option FieldType} (C : Cx X RL code 8 rt 9 326) (S : Sx X b L xs) (H0 : Ok (Xks X) 0 8) (H9 : Ok (Xks X) 105 9) (hI : Inv σ) (hi : i + 3 < L) (hL : L ≤ 2048) (K : ∀ σ', Inv σ' → J X 928 [(0, .ref b), (1, .ref (Xad X 0)), (2, .ref (Xad X 105)), (3, .int (nI i))] [] σ') : J X 846 [(0, .ref b), (1, .ref (Xad X 0)), (2, .ref (Xad X 105)), (3, .int (nI i))] [] σ := by
  obtain ⟨⟨r, σ1⟩, e1, ⟨r2, σ2⟩, e2, hr, hI2⟩ := op_fault (n := 3000) (by decide) hI 
  dsimp only at e2 hr hI2
  subst hr
  refine J.aload_n C dL_846 rfl 1 rfl ?_
  refine J.callV (pc := 847) C (m_X8_fault e1) H0 wyX8_fault tvX8_fault_i tvX8_fault_s tL_107 kcX8 rfl H0 [] [] rfl rfl (Nat.le_of_ble_eq_true rfl) (Nat.le_of_ble_eq_true rfl) (Nat.le_of_ble_eq_true rfl) (stk' := [.int r2]) rfl dL_847 rfl ?_
  dsimp only
  refine J.aload_n C dL_850 rfl 2 rfl ?_
  refine J.callV (pc := 851) C (m_X9_fault e2) H9 wyX9_fault tvX9_fault_i tvX9_fault_s tL_110 kcX9 rfl H9 [] [.int r2] rfl rfl (Nat.le_of_ble_eq_true rfl) (Nat.le_of_ble_eq_true rfl) (Nat.le_of_ble_eq_true rfl) (stk' := [.int r2, .int r2]) rfl dL_851 rfl ?_
  dsimp only
  refine J.icmp_eq (A := true) (B := false) (t := true) C dL_854 (tgt := 928) rfl (if_pos rfl) (fun _ => ?_) (fun h => Bool.noConfusion h)
  exact K _ hI2
theorem law_23 {X : Ctx} {σ : Mem} {b L i : Nat} {xs : Nat → Int32} {rt : Option FieldType} (C : Cx X RL code 8 rt 9 326) (S : Sx X b L xs) (H0 : Ok (Xks X) 0 8) (H9 : Ok (Xks X) 105 9) (hI : Inv σ) (hi : i + 3 < L) (hL : L ≤ 2048) (K : ∀ σ', Inv σ' → J X 928 [(0, .ref b), (1, .ref (Xad X 0)), (2, .ref (Xad X 105)), (3, .int (nI i))] [] σ') : J X 859 [(0, .ref b), (1, .ref (Xad X 0)), (2, .ref (Xad X 105)), (3, .int (nI i))] [] σ := by
  obtain ⟨⟨r, σ1⟩, e1, ⟨r2, σ2⟩, e2, hr, hI2⟩ := op_read (n := 3000) (by decide) hI (xs (nI i + nI 1).toNatClampNeg)
  dsimp only at e2 hr hI2
  subst hr
  refine J.aload_n C dL_859 rfl 1 rfl ?_
  refine J.aload_n C dL_860 rfl 0 rfl ?_
  refine J.iload_n C dL_861 rfl 3 rfl ?_
  refine J.iconst (v := nI 1) C dL_862 rfl ?_
  refine J.iadd C dL_863 ?_
  refine J.sld C S (sc_in hi hL (by decide)) dL_864 ?_
  refine J.callV (pc := 865) C (m_X8_read e1) H0 wyX8_read tvX8_read_i tvX8_read_s tL_111 kcX8 rfl H0 [.int (xs (nI i + nI 1).toNatClampNeg)] [] rfl rfl (Nat.le_of_ble_eq_true rfl) (Nat.le_of_ble_eq_true rfl) (Nat.le_of_ble_eq_true rfl) (stk' := [.int r2]) rfl dL_865 rfl ?_
  dsimp only
  refine J.aload_n C dL_868 rfl 2 rfl ?_
  refine J.aload_n C dL_869 rfl 0 rfl ?_
  refine J.iload_n C dL_870 rfl 3 rfl ?_
  refine J.iconst (v := nI 1) C dL_871 rfl ?_
  refine J.iadd C dL_872 ?_
  refine J.sld C S (sc_in hi hL (by decide)) dL_873 ?_
  refine J.callV (pc := 874) C (m_X9_read e2) H9 wyX9_read tvX9_read_i tvX9_read_s tL_114 kcX9 rfl H9 [.int (xs (nI i + nI 1).toNatClampNeg)] [.int r2] rfl rfl (Nat.le_of_ble_eq_true rfl) (Nat.le_of_ble_eq_true rfl) (Nat.le_of_ble_eq_true rfl) (stk' := [.int r2, .int r2]) rfl dL_874 rfl ?_
  dsimp only
  refine J.icmp_eq (A := true) (B := false) (t := true) C dL_877 (tgt := 928) rfl (if_pos rfl) (fun _ => ?_) (fun h => Bool.noConfusion h)
  exact K _ hI2
theorem law_24 {X : Ctx} {σ : Mem} {b L i : Nat} {xs : Nat → Int32} {rt : Option FieldType} (C : Cx X RL code 8 rt 9 326) (S : Sx X b L xs) (H0 : Ok (Xks X) 0 8) (H9 : Ok (Xks X) 105 9) (hI : Inv σ) (hi : i + 3 < L) (hL : L ≤ 2048) (K : ∀ σ', Inv σ' → J X 928 [(0, .ref b), (1, .ref (Xad X 0)), (2, .ref (Xad X 105)), (3, .int (nI i))] [] σ') : J X 882 [(0, .ref b), (1, .ref (Xad X 0)), (2, .ref (Xad X 105)), (3, .int (nI i))] [] σ := by
  obtain ⟨⟨r, σ1⟩, e1, ⟨r2, σ2⟩, e2, hr, hI2⟩ := op_save (n := 3000) (by decide) hI (xs (nI i + nI 1).toNatClampNeg)
  dsimp only at e2 hr hI2
  subst hr
  refine J.aload_n C dL_882 rfl 1 rfl ?_
  refine J.aload_n C dL_883 rfl 0 rfl ?_
  refine J.iload_n C dL_884 rfl 3 rfl ?_
  refine J.iconst (v := nI 1) C dL_885 rfl ?_
  refine J.iadd C dL_886 ?_
  refine J.sld C S (sc_in hi hL (by decide)) dL_887 ?_
  refine J.callV (pc := 888) C (m_X8_save e1) H0 wyX8_save tvX8_save_i tvX8_save_s tL_115 kcX8 rfl H0 [.int (xs (nI i + nI 1).toNatClampNeg)] [] rfl rfl (Nat.le_of_ble_eq_true rfl) (Nat.le_of_ble_eq_true rfl) (Nat.le_of_ble_eq_true rfl) (stk' := [.int r2]) rfl dL_888 rfl ?_
  dsimp only
  refine J.aload_n C dL_891 rfl 2 rfl ?_
  refine J.aload_n C dL_892 rfl 0 rfl ?_
  refine J.iload_n C dL_893 rfl 3 rfl ?_
  refine J.iconst (v := nI 1) C dL_894 rfl ?_
  refine J.iadd C dL_895 ?_
  refine J.sld C S (sc_in hi hL (by decide)) dL_896 ?_
  refine J.callV (pc := 897) C (m_X9_save e2) H9 wyX9_save tvX9_save_i tvX9_save_s tL_118 kcX9 rfl H9 [.int (xs (nI i + nI 1).toNatClampNeg)] [.int r2] rfl rfl (Nat.le_of_ble_eq_true rfl) (Nat.le_of_ble_eq_true rfl) (Nat.le_of_ble_eq_true rfl) (stk' := [.int r2, .int r2]) rfl dL_897 rfl ?_
  dsimp only
  refine J.icmp_eq (A := true) (B := false) (t := true) C dL_900 (tgt := 928) rfl (if_pos rfl) (fun _ => ?_) (fun h => Bool.noConfusion h)
  exact K _ hI2
theorem law_25 {X : Ctx} {σ : Mem} {b L i : Nat} {xs : Nat → Int32} {rt : Option FieldType} (C : Cx X RL code 8 rt 9 326) (S : Sx X b L xs) (H0 : Ok (Xks X) 0 8) (H9 : Ok (Xks X) 105 9) (hI : Inv σ) (hi : i + 3 < L) (hL : L ≤ 2048) (K : ∀ σ', Inv σ' → J X 928 [(0, .ref b), (1, .ref (Xad X 0)), (2, .ref (Xad X 105)), (3, .int (nI i))] [] σ') : J X 905 [(0, .ref b), (1, .ref (Xad X 0)), (2, .ref (Xad X 105)), (3, .int (nI i))] [] σ := by
  obtain ⟨⟨r, σ1⟩, e1, ⟨r2, σ2⟩, e2, hr, hI2⟩ := op_restore (n := 3000) (by decide) hI (xs (nI i + nI 1).toNatClampNeg)
  dsimp only at e2 hr hI2
  subst hr
  refine J.aload_n C dL_905 rfl 1 rfl ?_
  refine J.aload_n C dL_906 rfl 0 rfl ?_
  refine J.iload_n C dL_907 rfl 3 rfl ?_
  refine J.iconst (v := nI 1) C dL_908 rfl ?_
  refine J.iadd C dL_909 ?_
  refine J.sld C S (sc_in hi hL (by decide)) dL_910 ?_
  refine J.callV (pc := 911) C (m_X8_restore e1) H0 wyX8_restore tvX8_restore_i tvX8_restore_s tL_119 kcX8 rfl H0 [.int (xs (nI i + nI 1).toNatClampNeg)] [] rfl rfl (Nat.le_of_ble_eq_true rfl) (Nat.le_of_ble_eq_true rfl) (Nat.le_of_ble_eq_true rfl) (stk' := [.int r2]) rfl dL_911 rfl ?_
  dsimp only
  refine J.aload_n C dL_914 rfl 2 rfl ?_
  refine J.aload_n C dL_915 rfl 0 rfl ?_
  refine J.iload_n C dL_916 rfl 3 rfl ?_
  refine J.iconst (v := nI 1) C dL_917 rfl ?_
  refine J.iadd C dL_918 ?_
  refine J.sld C S (sc_in hi hL (by decide)) dL_919 ?_
  refine J.callV (pc := 920) C (m_X9_restore e2) H9 wyX9_restore tvX9_restore_i tvX9_restore_s tL_122 kcX9 rfl H9 [.int (xs (nI i + nI 1).toNatClampNeg)] [.int r2] rfl rfl (Nat.le_of_ble_eq_true rfl) (Nat.le_of_ble_eq_true rfl) (Nat.le_of_ble_eq_true rfl) (stk' := [.int r2, .int r2]) rfl dL_920 rfl ?_
  dsimp only
  refine J.icmp_eq (A := true) (B := false) (t := true) C dL_923 (tgt := 928) rfl (if_pos rfl) (fun _ => ?_) (fun h => Bool.noConfusion h)
  exact K _ hI2
