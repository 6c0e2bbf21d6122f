/-! THE LAW'S CASES; made by the generator -/
abbrev kk_L_law : Kx := (RL, cL_law, 7, ret, [], false)
abbrev lwS (ω : Wd) (i : Int32) (o5 o6 : Option Value) : List (Option Value) := [some (.ref (oX ω 1)), some (.ref (zad ω 16)), some (.ref (zad ω 201)), some (.ref (zad ω 229)), some (.int i), o5, o6]
/-- from pc a case comes to the loop's end, with what both sides hold kept -/
def Cs (ω : Wd) (i : Int32) (m : Mm) (pc : Nat) : Prop := ∃ m2 : Mm, Inv m2 ∧ ∀ (α : Type) (φ : α → Zo) (t : Option α) (c0 s0 : Nat) (o5 o6 : Option Value), c0 + 8 ≤ 601024 ∧ s0 + 64 ≤ 7293033 → (∀ o5' o6' : Option Value, Sx ω true 2048 601024 7293033 kk_L_law φ (c0 + 8) (s0 + 64) m2 1979 (lwS ω i o5' o6') [] t) → Sx ω true 2048 601024 7293033 kk_L_law φ c0 s0 m pc (lwS ω i o5 o6) [] t
theorem cs_begin {ω : Wd} {i : Int32} {m : Mm} (hI : Inv m) (h1 : zIn (i + 1) (oL ω)) : Cs ω i m 176 := by
  obtain ⟨kk, mh, b, m2, e1, e2, hI2, h8, h9⟩ := hB_agree hk_A (fun e g1 g2 => ne_13 g1 g2) (b_begin hI (ox ω (zIx (i + 1))))
  refine ⟨m2, hI2, fun α φ t c0 s0 o5 o6 hc k => ?_⟩
  refine x_aload_n dL_law_176 rfl ?_
  refine x_aload_n dL_law_177 rfl ?_
  refine x_iload dL_law_178 rfl ?_
  refine x_iconst (v := 1) dL_law_180 rfl ?_
  refine x_iadd dL_law_181 ?_
  refine x_sldK h1 dL_law_182 ?_
  refine x_aload_n dL_law_183 rfl ?_
  refine x_callSK (w0 := 0) (m' := mh) (As := [.ref (zad ω 16), .int (ox ω (zIx (i + 1))), .ref (zad ω 229)]) (rest := []) e1 (c_L_begin ω (ox ω (zIx (i + 1))) m) mh_105 rfl (Nat.le_of_ble_eq_true rfl) (Nat.le_of_ble_eq_true rfl) (Nat.le_of_ble_eq_true rfl) ⟨by omega, by omega⟩ dL_law_184 ?_
  refine x_istore dL_law_187 (Nat.le_of_ble_eq_true rfl) rfl ?_
  refine x_aload_n dL_law_189 rfl ?_
  refine x_aload_n dL_law_190 rfl ?_
  refine x_iload dL_law_191 rfl ?_
  refine x_iconst (v := 1) dL_law_193 rfl ?_
  refine x_iadd dL_law_194 ?_
  refine x_sldK h1 dL_law_195 ?_
  refine x_callVK (a := 201) (m' := m2) (v := .int b) (As := [.int (ox ω (zIx (i + 1)))]) (rest := []) e2 rfl (c_Mod_begin ω (ox ω (zIx (i + 1))) mh) mv_RL_110 rfl (Or.inl rfl) rfl (Nat.le_of_ble_eq_true rfl) (Nat.le_of_ble_eq_true rfl) (Nat.le_of_ble_eq_true rfl) ⟨by omega, by omega⟩ dL_law_196 ?_
  refine x_istore dL_law_199 (Nat.le_of_ble_eq_true rfl) rfl ?_
  refine x_aload_n dL_law_201 rfl ?_
  refine x_callVK (a := 201) (m' := m2) (v := .int (zI m2 201 0)) (As := []) (rest := []) (show f_Mod_thrown m2 = some (zI m2 201 0) from rfl) (show fP m2 (zI m2 201 0) = (.inl (some (.int (zI m2 201 0))), m2) from rfl) (c_Mod_thrown ω m2) mv_RL_111 rfl (Or.inl rfl) rfl (Nat.le_of_ble_eq_true rfl) (Nat.le_of_ble_eq_true rfl) (Nat.le_of_ble_eq_true rfl) ⟨by omega, by omega⟩ dL_law_202 ?_
  refine x_iload dL_law_205 rfl ?_
  refine x_sameK (tgt := 212) h8 dL_law_207 rfl ?_
  refine x_iload dL_law_212 rfl ?_
  refine x_neK (tgt := 229) dL_law_214 rfl (fun hz => ?_) (fun _ => ?_)
  · skip
    refine x_aload_n dL_law_217 rfl ?_
    refine x_iconst (v := 0) dL_law_218 rfl ?_
    refine x_outK (Or.inl rfl) dL_law_219 ?_
    refine x_iload dL_law_220 rfl ?_
    refine x_i2l dL_law_222 ?_
    refine x_lcmpK (h9 hz) dL_law_223 ?_
    refine x_zeroK (tgt := 229) dL_law_224 rfl ?_
    refine x_goto (tgt := 1979) dL_law_229 rfl ?_
    exact x_wid (by omega) (by omega) (k _ _)
  · skip
    refine x_goto (tgt := 1979) dL_law_229 rfl ?_
    exact x_wid (by omega) (by omega) (k _ _)
theorem cs_date {ω : Wd} {i : Int32} {m : Mm} (hI : Inv m) (h1 : zIn (i + 1) (oL ω)) (h2 : zIn (i + 2) (oL ω)) : Cs ω i m 232 := by
  obtain ⟨kk, mh, b, m2, e1, e2, hI2, h8, h9⟩ := hB_agree hk_A (fun e g1 g2 => ne_13 g1 g2) (b_date hI (ox ω (zIx (i + 1))) (ox ω (zIx (i + 2))))
  refine ⟨m2, hI2, fun α φ t c0 s0 o5 o6 hc k => ?_⟩
  refine x_aload_n dL_law_232 rfl ?_
  refine x_aload_n dL_law_233 rfl ?_
  refine x_iload dL_law_234 rfl ?_
  refine x_iconst (v := 1) dL_law_236 rfl ?_
  refine x_iadd dL_law_237 ?_
  refine x_sldK h1 dL_law_238 ?_
  refine x_aload_n dL_law_239 rfl ?_
  refine x_iload dL_law_240 rfl ?_
  refine x_iconst (v := 2) dL_law_242 rfl ?_
  refine x_iadd dL_law_243 ?_
  refine x_sldK h2 dL_law_244 ?_
  refine x_aload_n dL_law_245 rfl ?_
  refine x_callSK (w0 := 0) (m' := mh) (As := [.ref (zad ω 16), .int (ox ω (zIx (i + 1))), .int (ox ω (zIx (i + 2))), .ref (zad ω 229)]) (rest := []) e1 (c_L_date ω (ox ω (zIx (i + 1))) (ox ω (zIx (i + 2))) m) mh_115 rfl (Nat.le_of_ble_eq_true rfl) (Nat.le_of_ble_eq_true rfl) (Nat.le_of_ble_eq_true rfl) ⟨by omega, by omega⟩ dL_law_246 ?_
  refine x_istore dL_law_249 (Nat.le_of_ble_eq_true rfl) rfl ?_
  refine x_aload_n dL_law_251 rfl ?_
  refine x_aload_n dL_law_252 rfl ?_
  refine x_iload dL_law_253 rfl ?_
  refine x_iconst (v := 1) dL_law_255 rfl ?_
  refine x_iadd dL_law_256 ?_
  refine x_sldK h1 dL_law_257 ?_
  refine x_aload_n dL_law_258 rfl ?_
  refine x_iload dL_law_259 rfl ?_
  refine x_iconst (v := 2) dL_law_261 rfl ?_
  refine x_iadd dL_law_262 ?_
  refine x_sldK h2 dL_law_263 ?_
  refine x_callVK (a := 201) (m' := m2) (v := .int b) (As := [.int (ox ω (zIx (i + 1))), .int (ox ω (zIx (i + 2)))]) (rest := []) e2 rfl (c_Mod_date ω (ox ω (zIx (i + 1))) (ox ω (zIx (i + 2))) mh) mv_RL_118 rfl (Or.inl rfl) rfl (Nat.le_of_ble_eq_true rfl) (Nat.le_of_ble_eq_true rfl) (Nat.le_of_ble_eq_true rfl) ⟨by omega, by omega⟩ dL_law_264 ?_
  refine x_istore dL_law_267 (Nat.le_of_ble_eq_true rfl) rfl ?_
  refine x_aload_n dL_law_269 rfl ?_
  refine x_callVK (a := 201) (m' := m2) (v := .int (zI m2 201 0)) (As := []) (rest := []) (show f_Mod_thrown m2 = some (zI m2 201 0) from rfl) (show fP m2 (zI m2 201 0) = (.inl (some (.int (zI m2 201 0))), m2) from rfl) (c_Mod_thrown ω m2) mv_RL_111 rfl (Or.inl rfl) rfl (Nat.le_of_ble_eq_true rfl) (Nat.le_of_ble_eq_true rfl) (Nat.le_of_ble_eq_true rfl) ⟨by omega, by omega⟩ dL_law_270 ?_
  refine x_iload dL_law_273 rfl ?_
  refine x_sameK (tgt := 280) h8 dL_law_275 rfl ?_
  refine x_iload dL_law_280 rfl ?_
  refine x_neK (tgt := 297) dL_law_282 rfl (fun hz => ?_) (fun _ => ?_)
  · skip
    refine x_aload_n dL_law_285 rfl ?_
    refine x_iconst (v := 0) dL_law_286 rfl ?_
    refine x_outK (Or.inl rfl) dL_law_287 ?_
    refine x_iload dL_law_288 rfl ?_
    refine x_i2l dL_law_290 ?_
    refine x_lcmpK (h9 hz) dL_law_291 ?_
    refine x_zeroK (tgt := 297) dL_law_292 rfl ?_
    refine x_goto (tgt := 1979) dL_law_297 rfl ?_
    exact x_wid (by omega) (by omega) (k _ _)
  · skip
    refine x_goto (tgt := 1979) dL_law_297 rfl ?_
    exact x_wid (by omega) (by omega) (k _ _)
theorem cs_age {ω : Wd} {i : Int32} {m : Mm} (hI : Inv m) (h1 : zIn (i + 1) (oL ω)) (h2 : zIn (i + 2) (oL ω)) : Cs ω i m 300 := by
  obtain ⟨kk, mh, b, m2, e1, e2, hI2, h8, h9⟩ := hB_agree hk_A (fun e g1 g2 => ne_13 g1 g2) (b_age hI (ox ω (zIx (i + 1))) (ox ω (zIx (i + 2))))
  refine ⟨m2, hI2, fun α φ t c0 s0 o5 o6 hc k => ?_⟩
  refine x_aload_n dL_law_300 rfl ?_
  refine x_aload_n dL_law_301 rfl ?_
  refine x_iload dL_law_302 rfl ?_
  refine x_iconst (v := 1) dL_law_304 rfl ?_
  refine x_iadd dL_law_305 ?_
  refine x_sldK h1 dL_law_306 ?_
  refine x_aload_n dL_law_307 rfl ?_
  refine x_iload dL_law_308 rfl ?_
  refine x_iconst (v := 2) dL_law_310 rfl ?_
  refine x_iadd dL_law_311 ?_
  refine x_sldK h2 dL_law_312 ?_
  refine x_aload_n dL_law_313 rfl ?_
  refine x_callSK (w0 := 0) (m' := mh) (As := [.ref (zad ω 16), .int (ox ω (zIx (i + 1))), .int (ox ω (zIx (i + 2))), .ref (zad ω 229)]) (rest := []) e1 (c_L_age ω (ox ω (zIx (i + 1))) (ox ω (zIx (i + 2))) m) mh_119 rfl (Nat.le_of_ble_eq_true rfl) (Nat.le_of_ble_eq_true rfl) (Nat.le_of_ble_eq_true rfl) ⟨by omega, by omega⟩ dL_law_314 ?_
  refine x_istore dL_law_317 (Nat.le_of_ble_eq_true rfl) rfl ?_
  refine x_aload_n dL_law_319 rfl ?_
  refine x_aload_n dL_law_320 rfl ?_
  refine x_iload dL_law_321 rfl ?_
  refine x_iconst (v := 1) dL_law_323 rfl ?_
  refine x_iadd dL_law_324 ?_
  refine x_sldK h1 dL_law_325 ?_
  refine x_aload_n dL_law_326 rfl ?_
  refine x_iload dL_law_327 rfl ?_
  refine x_iconst (v := 2) dL_law_329 rfl ?_
  refine x_iadd dL_law_330 ?_
  refine x_sldK h2 dL_law_331 ?_
  refine x_callVK (a := 201) (m' := m2) (v := .int b) (As := [.int (ox ω (zIx (i + 1))), .int (ox ω (zIx (i + 2)))]) (rest := []) e2 rfl (c_Mod_age ω (ox ω (zIx (i + 1))) (ox ω (zIx (i + 2))) mh) mv_RL_121 rfl (Or.inl rfl) rfl (Nat.le_of_ble_eq_true rfl) (Nat.le_of_ble_eq_true rfl) (Nat.le_of_ble_eq_true rfl) ⟨by omega, by omega⟩ dL_law_332 ?_
  refine x_istore dL_law_335 (Nat.le_of_ble_eq_true rfl) rfl ?_
  refine x_aload_n dL_law_337 rfl ?_
  refine x_callVK (a := 201) (m' := m2) (v := .int (zI m2 201 0)) (As := []) (rest := []) (show f_Mod_thrown m2 = some (zI m2 201 0) from rfl) (show fP m2 (zI m2 201 0) = (.inl (some (.int (zI m2 201 0))), m2) from rfl) (c_Mod_thrown ω m2) mv_RL_111 rfl (Or.inl rfl) rfl (Nat.le_of_ble_eq_true rfl) (Nat.le_of_ble_eq_true rfl) (Nat.le_of_ble_eq_true rfl) ⟨by omega, by omega⟩ dL_law_338 ?_
  refine x_iload dL_law_341 rfl ?_
  refine x_sameK (tgt := 348) h8 dL_law_343 rfl ?_
  refine x_iload dL_law_348 rfl ?_
  refine x_neK (tgt := 365) dL_law_350 rfl (fun hz => ?_) (fun _ => ?_)
  · skip
    refine x_aload_n dL_law_353 rfl ?_
    refine x_iconst (v := 0) dL_law_354 rfl ?_
    refine x_outK (Or.inl rfl) dL_law_355 ?_
    refine x_iload dL_law_356 rfl ?_
    refine x_i2l dL_law_358 ?_
    refine x_lcmpK (h9 hz) dL_law_359 ?_
    refine x_zeroK (tgt := 365) dL_law_360 rfl ?_
    refine x_goto (tgt := 1979) dL_law_365 rfl ?_
    exact x_wid (by omega) (by omega) (k _ _)
  · skip
    refine x_goto (tgt := 1979) dL_law_365 rfl ?_
    exact x_wid (by omega) (by omega) (k _ _)
theorem cs_table {ω : Wd} {i : Int32} {m : Mm} (hI : Inv m) (h1 : zIn (i + 1) (oL ω)) : Cs ω i m 368 := by
  obtain ⟨kk, mh, b, m2, e1, e2, hI2, h8, h9⟩ := hB_agree hk_A (fun e g1 g2 => ne_13 g1 g2) (b_table hI (ox ω (zIx (i + 1))))
  refine ⟨m2, hI2, fun α φ t c0 s0 o5 o6 hc k => ?_⟩
  refine x_aload_n dL_law_368 rfl ?_
  refine x_aload_n dL_law_369 rfl ?_
  refine x_iload dL_law_370 rfl ?_
  refine x_iconst (v := 1) dL_law_372 rfl ?_
  refine x_iadd dL_law_373 ?_
  refine x_sldK h1 dL_law_374 ?_
  refine x_aload_n dL_law_375 rfl ?_
  refine x_callSK (w0 := 0) (m' := mh) (As := [.ref (zad ω 16), .int (ox ω (zIx (i + 1))), .ref (zad ω 229)]) (rest := []) e1 (c_L_table ω (ox ω (zIx (i + 1))) m) mh_122 rfl (Nat.le_of_ble_eq_true rfl) (Nat.le_of_ble_eq_true rfl) (Nat.le_of_ble_eq_true rfl) ⟨by omega, by omega⟩ dL_law_376 ?_
  refine x_istore dL_law_379 (Nat.le_of_ble_eq_true rfl) rfl ?_
  refine x_aload_n dL_law_381 rfl ?_
  refine x_aload_n dL_law_382 rfl ?_
  refine x_iload dL_law_383 rfl ?_
  refine x_iconst (v := 1) dL_law_385 rfl ?_
  refine x_iadd dL_law_386 ?_
  refine x_sldK h1 dL_law_387 ?_
  refine x_callVK (a := 201) (m' := m2) (v := .int b) (As := [.int (ox ω (zIx (i + 1)))]) (rest := []) e2 rfl (c_Mod_table ω (ox ω (zIx (i + 1))) mh) mv_RL_124 rfl (Or.inl rfl) rfl (Nat.le_of_ble_eq_true rfl) (Nat.le_of_ble_eq_true rfl) (Nat.le_of_ble_eq_true rfl) ⟨by omega, by omega⟩ dL_law_388 ?_
  refine x_istore dL_law_391 (Nat.le_of_ble_eq_true rfl) rfl ?_
  refine x_aload_n dL_law_393 rfl ?_
  refine x_callVK (a := 201) (m' := m2) (v := .int (zI m2 201 0)) (As := []) (rest := []) (show f_Mod_thrown m2 = some (zI m2 201 0) from rfl) (show fP m2 (zI m2 201 0) = (.inl (some (.int (zI m2 201 0))), m2) from rfl) (c_Mod_thrown ω m2) mv_RL_111 rfl (Or.inl rfl) rfl (Nat.le_of_ble_eq_true rfl) (Nat.le_of_ble_eq_true rfl) (Nat.le_of_ble_eq_true rfl) ⟨by omega, by omega⟩ dL_law_394 ?_
  refine x_iload dL_law_397 rfl ?_
  refine x_sameK (tgt := 404) h8 dL_law_399 rfl ?_
  refine x_iload dL_law_404 rfl ?_
  refine x_neK (tgt := 421) dL_law_406 rfl (fun hz => ?_) (fun _ => ?_)
  · skip
    refine x_aload_n dL_law_409 rfl ?_
    refine x_iconst (v := 0) dL_law_410 rfl ?_
    refine x_outK (Or.inl rfl) dL_law_411 ?_
    refine x_iload dL_law_412 rfl ?_
    refine x_i2l dL_law_414 ?_
    refine x_lcmpK (h9 hz) dL_law_415 ?_
    refine x_zeroK (tgt := 421) dL_law_416 rfl ?_
    refine x_goto (tgt := 1979) dL_law_421 rfl ?_
    exact x_wid (by omega) (by omega) (k _ _)
  · skip
    refine x_goto (tgt := 1979) dL_law_421 rfl ?_
    exact x_wid (by omega) (by omega) (k _ _)
theorem cs_type {ω : Wd} {i : Int32} {m : Mm} (hI : Inv m) (h1 : zIn (i + 1) (oL ω)) : Cs ω i m 424 := by
  obtain ⟨kk, mh, b, m2, e1, e2, hI2, h8, h9⟩ := hB_agree hk_AS (fun e g1 g2 => ne_13 g1 g2) (b_type hI (((ox ω (zIx (i + 1))).toUInt32 % 65536).toInt32))
  refine ⟨m2, hI2, fun α φ t c0 s0 o5 o6 hc k => ?_⟩
  refine x_aload_n dL_law_424 rfl ?_
  refine x_aload_n dL_law_425 rfl ?_
  refine x_iload dL_law_426 rfl ?_
  refine x_iconst (v := 1) dL_law_428 rfl ?_
  refine x_iadd dL_law_429 ?_
  refine x_sldK h1 dL_law_430 ?_
  refine x_i2c dL_law_431 ?_
  refine x_aload_n dL_law_432 rfl ?_
  refine x_callSK (w0 := 0) (m' := mh) (As := [.ref (zad ω 16), .int (((ox ω (zIx (i + 1))).toUInt32 % 65536).toInt32), .ref (zad ω 229)]) (rest := []) e1 (c_L_type ω (((ox ω (zIx (i + 1))).toUInt32 % 65536).toInt32) m) mh_125 rfl (Nat.le_of_ble_eq_true rfl) (Nat.le_of_ble_eq_true rfl) (Nat.le_of_ble_eq_true rfl) ⟨by omega, by omega⟩ dL_law_433 ?_
  refine x_istore dL_law_436 (Nat.le_of_ble_eq_true rfl) rfl ?_
  refine x_aload_n dL_law_438 rfl ?_
  refine x_aload_n dL_law_439 rfl ?_
  refine x_iload dL_law_440 rfl ?_
  refine x_iconst (v := 1) dL_law_442 rfl ?_
  refine x_iadd dL_law_443 ?_
  refine x_sldK h1 dL_law_444 ?_
  refine x_i2c dL_law_445 ?_
  refine x_callVK (a := 201) (m' := m2) (v := .int b) (As := [.int (((ox ω (zIx (i + 1))).toUInt32 % 65536).toInt32)]) (rest := []) e2 rfl (c_Mod_type ω (((ox ω (zIx (i + 1))).toUInt32 % 65536).toInt32) mh) mv_RL_128 rfl (Or.inl rfl) rfl (Nat.le_of_ble_eq_true rfl) (Nat.le_of_ble_eq_true rfl) (Nat.le_of_ble_eq_true rfl) ⟨by omega, by omega⟩ dL_law_446 ?_
  refine x_istore dL_law_449 (Nat.le_of_ble_eq_true rfl) rfl ?_
  refine x_aload_n dL_law_451 rfl ?_
  refine x_callVK (a := 201) (m' := m2) (v := .int (zI m2 201 0)) (As := []) (rest := []) (show f_Mod_thrown m2 = some (zI m2 201 0) from rfl) (show fP m2 (zI m2 201 0) = (.inl (some (.int (zI m2 201 0))), m2) from rfl) (c_Mod_thrown ω m2) mv_RL_111 rfl (Or.inl rfl) rfl (Nat.le_of_ble_eq_true rfl) (Nat.le_of_ble_eq_true rfl) (Nat.le_of_ble_eq_true rfl) ⟨by omega, by omega⟩ dL_law_452 ?_
  refine x_iload dL_law_455 rfl ?_
  refine x_sameK (tgt := 462) h8 dL_law_457 rfl ?_
  refine x_iload dL_law_462 rfl ?_
  refine x_neK (tgt := 479) dL_law_464 rfl (fun hz => ?_) (fun _ => ?_)
  · skip
    refine x_aload_n dL_law_467 rfl ?_
    refine x_iconst (v := 0) dL_law_468 rfl ?_
    refine x_outK (Or.inl rfl) dL_law_469 ?_
    refine x_iload dL_law_470 rfl ?_
    refine x_i2l dL_law_472 ?_
    refine x_lcmpK (h9 hz) dL_law_473 ?_
    refine x_zeroK (tgt := 479) dL_law_474 rfl ?_
    refine x_goto (tgt := 1979) dL_law_479 rfl ?_
    exact x_wid (by omega) (by omega) (k _ _)
  · skip
    refine x_goto (tgt := 1979) dL_law_479 rfl ?_
    exact x_wid (by omega) (by omega) (k _ _)
theorem cs_mend {ω : Wd} {i : Int32} {m : Mm} (hI : Inv m) (h1 : zIn (i + 1) (oL ω)) : Cs ω i m 605 := by
  obtain ⟨kk, mh, b, m2, e1, e2, hI2, h8, h9⟩ := hB_agree hk_IAS (fun e g1 g2 => ne_13 g1 g2) (b_mend hI (ox ω (zIx (i + 1))))
  refine ⟨m2, hI2, fun α φ t c0 s0 o5 o6 hc k => ?_⟩
  refine x_aload_n dL_law_605 rfl ?_
  refine x_aload_n dL_law_606 rfl ?_
  refine x_iload dL_law_607 rfl ?_
  refine x_iconst (v := 1) dL_law_609 rfl ?_
  refine x_iadd dL_law_610 ?_
  refine x_sldK h1 dL_law_611 ?_
  refine x_aload_n dL_law_612 rfl ?_
  refine x_callSK (w0 := 0) (m' := mh) (As := [.ref (zad ω 16), .int (ox ω (zIx (i + 1))), .ref (zad ω 229)]) (rest := []) e1 (c_L_mend ω (ox ω (zIx (i + 1))) m) mh_145 rfl (Nat.le_of_ble_eq_true rfl) (Nat.le_of_ble_eq_true rfl) (Nat.le_of_ble_eq_true rfl) ⟨by omega, by omega⟩ dL_law_613 ?_
  refine x_istore dL_law_616 (Nat.le_of_ble_eq_true rfl) rfl ?_
  refine x_aload_n dL_law_618 rfl ?_
  refine x_aload_n dL_law_619 rfl ?_
  refine x_iload dL_law_620 rfl ?_
  refine x_iconst (v := 1) dL_law_622 rfl ?_
  refine x_iadd dL_law_623 ?_
  refine x_sldK h1 dL_law_624 ?_
  refine x_callVK (a := 201) (m' := m2) (v := .int b) (As := [.int (ox ω (zIx (i + 1)))]) (rest := []) e2 rfl (c_Mod_mend ω (ox ω (zIx (i + 1))) mh) mv_RL_147 rfl (Or.inl rfl) rfl (Nat.le_of_ble_eq_true rfl) (Nat.le_of_ble_eq_true rfl) (Nat.le_of_ble_eq_true rfl) ⟨by omega, by omega⟩ dL_law_625 ?_
  refine x_istore dL_law_628 (Nat.le_of_ble_eq_true rfl) rfl ?_
  refine x_aload_n dL_law_630 rfl ?_
  refine x_callVK (a := 201) (m' := m2) (v := .int (zI m2 201 0)) (As := []) (rest := []) (show f_Mod_thrown m2 = some (zI m2 201 0) from rfl) (show fP m2 (zI m2 201 0) = (.inl (some (.int (zI m2 201 0))), m2) from rfl) (c_Mod_thrown ω m2) mv_RL_111 rfl (Or.inl rfl) rfl (Nat.le_of_ble_eq_true rfl) (Nat.le_of_ble_eq_true rfl) (Nat.le_of_ble_eq_true rfl) ⟨by omega, by omega⟩ dL_law_631 ?_
  refine x_iload dL_law_634 rfl ?_
  refine x_sameK (tgt := 641) h8 dL_law_636 rfl ?_
  refine x_iload dL_law_641 rfl ?_
  refine x_neK (tgt := 658) dL_law_643 rfl (fun hz => ?_) (fun _ => ?_)
  · skip
    refine x_aload_n dL_law_646 rfl ?_
    refine x_iconst (v := 0) dL_law_647 rfl ?_
    refine x_outK (Or.inl rfl) dL_law_648 ?_
    refine x_iload dL_law_649 rfl ?_
    refine x_i2l dL_law_651 ?_
    refine x_lcmpK (h9 hz) dL_law_652 ?_
    refine x_zeroK (tgt := 658) dL_law_653 rfl ?_
    refine x_goto (tgt := 1979) dL_law_658 rfl ?_
    exact x_wid (by omega) (by omega) (k _ _)
  · skip
    refine x_goto (tgt := 1979) dL_law_658 rfl ?_
    exact x_wid (by omega) (by omega) (k _ _)
theorem cs_dispense {ω : Wd} {i : Int32} {m : Mm} (hI : Inv m) (h1 : zIn (i + 1) (oL ω)) (h2 : zIn (i + 2) (oL ω)) (h3 : zIn (i + 3) (oL ω)) : Cs ω i m 757 := by
  obtain ⟨kk, mh, b, m2, e1, e2, hI2, h8, h9⟩ := hB_agree hk_IAS (fun e g1 g2 => ne_13 g1 g2) (b_dispense hI (ox ω (zIx (i + 1))) (ox ω (zIx (i + 2))) (ox ω (zIx (i + 3))))
  refine ⟨m2, hI2, fun α φ t c0 s0 o5 o6 hc k => ?_⟩
  refine x_aload_n dL_law_757 rfl ?_
  refine x_aload_n dL_law_758 rfl ?_
  refine x_iload dL_law_759 rfl ?_
  refine x_iconst (v := 1) dL_law_761 rfl ?_
  refine x_iadd dL_law_762 ?_
  refine x_sldK h1 dL_law_763 ?_
  refine x_aload_n dL_law_764 rfl ?_
  refine x_iload dL_law_765 rfl ?_
  refine x_iconst (v := 2) dL_law_767 rfl ?_
  refine x_iadd dL_law_768 ?_
  refine x_sldK h2 dL_law_769 ?_
  refine x_aload_n dL_law_770 rfl ?_
  refine x_iload dL_law_771 rfl ?_
  refine x_iconst (v := 3) dL_law_773 rfl ?_
  refine x_iadd dL_law_774 ?_
  refine x_sldK h3 dL_law_775 ?_
  refine x_aload_n dL_law_776 rfl ?_
  refine x_callSK (w0 := 0) (m' := mh) (As := [.ref (zad ω 16), .int (ox ω (zIx (i + 1))), .int (ox ω (zIx (i + 2))), .int (ox ω (zIx (i + 3))), .ref (zad ω 229)]) (rest := []) e1 (c_L_dispense ω (ox ω (zIx (i + 1))) (ox ω (zIx (i + 2))) (ox ω (zIx (i + 3))) m) mh_152 rfl (Nat.le_of_ble_eq_true rfl) (Nat.le_of_ble_eq_true rfl) (Nat.le_of_ble_eq_true rfl) ⟨by omega, by omega⟩ dL_law_777 ?_
  refine x_istore dL_law_780 (Nat.le_of_ble_eq_true rfl) rfl ?_
  refine x_aload_n dL_law_782 rfl ?_
  refine x_aload_n dL_law_783 rfl ?_
  refine x_iload dL_law_784 rfl ?_
  refine x_iconst (v := 1) dL_law_786 rfl ?_
  refine x_iadd dL_law_787 ?_
  refine x_sldK h1 dL_law_788 ?_
  refine x_aload_n dL_law_789 rfl ?_
  refine x_iload dL_law_790 rfl ?_
  refine x_iconst (v := 2) dL_law_792 rfl ?_
  refine x_iadd dL_law_793 ?_
  refine x_sldK h2 dL_law_794 ?_
  refine x_aload_n dL_law_795 rfl ?_
  refine x_iload dL_law_796 rfl ?_
  refine x_iconst (v := 3) dL_law_798 rfl ?_
  refine x_iadd dL_law_799 ?_
  refine x_sldK h3 dL_law_800 ?_
  refine x_callVK (a := 201) (m' := m2) (v := .int b) (As := [.int (ox ω (zIx (i + 1))), .int (ox ω (zIx (i + 2))), .int (ox ω (zIx (i + 3)))]) (rest := []) e2 rfl (c_Mod_dispense ω (ox ω (zIx (i + 1))) (ox ω (zIx (i + 2))) (ox ω (zIx (i + 3))) mh) mv_RL_155 rfl (Or.inl rfl) rfl (Nat.le_of_ble_eq_true rfl) (Nat.le_of_ble_eq_true rfl) (Nat.le_of_ble_eq_true rfl) ⟨by omega, by omega⟩ dL_law_801 ?_
  refine x_istore dL_law_804 (Nat.le_of_ble_eq_true rfl) rfl ?_
  refine x_aload_n dL_law_806 rfl ?_
  refine x_callVK (a := 201) (m' := m2) (v := .int (zI m2 201 0)) (As := []) (rest := []) (show f_Mod_thrown m2 = some (zI m2 201 0) from rfl) (show fP m2 (zI m2 201 0) = (.inl (some (.int (zI m2 201 0))), m2) from rfl) (c_Mod_thrown ω m2) mv_RL_111 rfl (Or.inl rfl) rfl (Nat.le_of_ble_eq_true rfl) (Nat.le_of_ble_eq_true rfl) (Nat.le_of_ble_eq_true rfl) ⟨by omega, by omega⟩ dL_law_807 ?_
  refine x_iload dL_law_810 rfl ?_
  refine x_sameK (tgt := 817) h8 dL_law_812 rfl ?_
  refine x_iload dL_law_817 rfl ?_
  refine x_neK (tgt := 834) dL_law_819 rfl (fun hz => ?_) (fun _ => ?_)
  · skip
    refine x_aload_n dL_law_822 rfl ?_
    refine x_iconst (v := 0) dL_law_823 rfl ?_
    refine x_outK (Or.inl rfl) dL_law_824 ?_
    refine x_iload dL_law_825 rfl ?_
    refine x_i2l dL_law_827 ?_
    refine x_lcmpK (h9 hz) dL_law_828 ?_
    refine x_zeroK (tgt := 834) dL_law_829 rfl ?_
    refine x_goto (tgt := 1979) dL_law_834 rfl ?_
    exact x_wid (by omega) (by omega) (k _ _)
  · skip
    refine x_goto (tgt := 1979) dL_law_834 rfl ?_
    exact x_wid (by omega) (by omega) (k _ _)
theorem cs_takeBack {ω : Wd} {i : Int32} {m : Mm} (hI : Inv m) (h1 : zIn (i + 1) (oL ω)) (h2 : zIn (i + 2) (oL ω)) : Cs ω i m 837 := by
  obtain ⟨kk, mh, b, m2, e1, e2, hI2, h8, h9⟩ := hB_agree hk_IAS (fun e g1 g2 => ne_13 g1 g2) (b_takeBack hI (ox ω (zIx (i + 1))) (ox ω (zIx (i + 2))))
  refine ⟨m2, hI2, fun α φ t c0 s0 o5 o6 hc k => ?_⟩
  refine x_aload_n dL_law_837 rfl ?_
  refine x_aload_n dL_law_838 rfl ?_
  refine x_iload dL_law_839 rfl ?_
  refine x_iconst (v := 1) dL_law_841 rfl ?_
  refine x_iadd dL_law_842 ?_
  refine x_sldK h1 dL_law_843 ?_
  refine x_aload_n dL_law_844 rfl ?_
  refine x_iload dL_law_845 rfl ?_
  refine x_iconst (v := 2) dL_law_847 rfl ?_
  refine x_iadd dL_law_848 ?_
  refine x_sldK h2 dL_law_849 ?_
  refine x_aload_n dL_law_850 rfl ?_
  refine x_callSK (w0 := 0) (m' := mh) (As := [.ref (zad ω 16), .int (ox ω (zIx (i + 1))), .int (ox ω (zIx (i + 2))), .ref (zad ω 229)]) (rest := []) e1 (c_L_takeBack ω (ox ω (zIx (i + 1))) (ox ω (zIx (i + 2))) m) mh_156 rfl (Nat.le_of_ble_eq_true rfl) (Nat.le_of_ble_eq_true rfl) (Nat.le_of_ble_eq_true rfl) ⟨by omega, by omega⟩ dL_law_851 ?_
  refine x_istore dL_law_854 (Nat.le_of_ble_eq_true rfl) rfl ?_
  refine x_aload_n dL_law_856 rfl ?_
  refine x_aload_n dL_law_857 rfl ?_
  refine x_iload dL_law_858 rfl ?_
  refine x_iconst (v := 1) dL_law_860 rfl ?_
  refine x_iadd dL_law_861 ?_
  refine x_sldK h1 dL_law_862 ?_
  refine x_aload_n dL_law_863 rfl ?_
  refine x_iload dL_law_864 rfl ?_
  refine x_iconst (v := 2) dL_law_866 rfl ?_
  refine x_iadd dL_law_867 ?_
  refine x_sldK h2 dL_law_868 ?_
  refine x_callVK (a := 201) (m' := m2) (v := .int b) (As := [.int (ox ω (zIx (i + 1))), .int (ox ω (zIx (i + 2)))]) (rest := []) e2 rfl (c_Mod_takeBack ω (ox ω (zIx (i + 1))) (ox ω (zIx (i + 2))) mh) mv_RL_158 rfl (Or.inl rfl) rfl (Nat.le_of_ble_eq_true rfl) (Nat.le_of_ble_eq_true rfl) (Nat.le_of_ble_eq_true rfl) ⟨by omega, by omega⟩ dL_law_869 ?_
  refine x_istore dL_law_872 (Nat.le_of_ble_eq_true rfl) rfl ?_
  refine x_aload_n dL_law_874 rfl ?_
  refine x_callVK (a := 201) (m' := m2) (v := .int (zI m2 201 0)) (As := []) (rest := []) (show f_Mod_thrown m2 = some (zI m2 201 0) from rfl) (show fP m2 (zI m2 201 0) = (.inl (some (.int (zI m2 201 0))), m2) from rfl) (c_Mod_thrown ω m2) mv_RL_111 rfl (Or.inl rfl) rfl (Nat.le_of_ble_eq_true rfl) (Nat.le_of_ble_eq_true rfl) (Nat.le_of_ble_eq_true rfl) ⟨by omega, by omega⟩ dL_law_875 ?_
  refine x_iload dL_law_878 rfl ?_
  refine x_sameK (tgt := 885) h8 dL_law_880 rfl ?_
  refine x_iload dL_law_885 rfl ?_
  refine x_neK (tgt := 902) dL_law_887 rfl (fun hz => ?_) (fun _ => ?_)
  · skip
    refine x_aload_n dL_law_890 rfl ?_
    refine x_iconst (v := 0) dL_law_891 rfl ?_
    refine x_outK (Or.inl rfl) dL_law_892 ?_
    refine x_iload dL_law_893 rfl ?_
    refine x_i2l dL_law_895 ?_
    refine x_lcmpK (h9 hz) dL_law_896 ?_
    refine x_zeroK (tgt := 902) dL_law_897 rfl ?_
    refine x_goto (tgt := 1979) dL_law_902 rfl ?_
    exact x_wid (by omega) (by omega) (k _ _)
  · skip
    refine x_goto (tgt := 1979) dL_law_902 rfl ?_
    exact x_wid (by omega) (by omega) (k _ _)
theorem cs_bent {ω : Wd} {i : Int32} {m : Mm} (hI : Inv m) (h1 : zIn (i + 1) (oL ω)) (h2 : zIn (i + 2) (oL ω)) : Cs ω i m 918 := by
  obtain ⟨kk, mh, b, m2, e1, e2, hI2, h8, h9⟩ := hB_agree hk_IA (fun e g1 g2 => ne_13 g1 g2) (b_bent hI (ox ω (zIx (i + 1))) (ox ω (zIx (i + 2))))
  refine ⟨m2, hI2, fun α φ t c0 s0 o5 o6 hc k => ?_⟩
  refine x_aload_n dL_law_918 rfl ?_
  refine x_aload_n dL_law_919 rfl ?_
  refine x_iload dL_law_920 rfl ?_
  refine x_iconst (v := 1) dL_law_922 rfl ?_
  refine x_iadd dL_law_923 ?_
  refine x_sldK h1 dL_law_924 ?_
  refine x_aload_n dL_law_925 rfl ?_
  refine x_iload dL_law_926 rfl ?_
  refine x_iconst (v := 2) dL_law_928 rfl ?_
  refine x_iadd dL_law_929 ?_
  refine x_sldK h2 dL_law_930 ?_
  refine x_aload_n dL_law_931 rfl ?_
  refine x_callSK (w0 := 0) (m' := mh) (As := [.ref (zad ω 16), .int (ox ω (zIx (i + 1))), .int (ox ω (zIx (i + 2))), .ref (zad ω 229)]) (rest := []) e1 (c_L_bent ω (ox ω (zIx (i + 1))) (ox ω (zIx (i + 2))) m) mh_163 rfl (Nat.le_of_ble_eq_true rfl) (Nat.le_of_ble_eq_true rfl) (Nat.le_of_ble_eq_true rfl) ⟨by omega, by omega⟩ dL_law_932 ?_
  refine x_istore dL_law_935 (Nat.le_of_ble_eq_true rfl) rfl ?_
  refine x_aload_n dL_law_937 rfl ?_
  refine x_aload_n dL_law_938 rfl ?_
  refine x_iload dL_law_939 rfl ?_
  refine x_iconst (v := 1) dL_law_941 rfl ?_
  refine x_iadd dL_law_942 ?_
  refine x_sldK h1 dL_law_943 ?_
  refine x_aload_n dL_law_944 rfl ?_
  refine x_iload dL_law_945 rfl ?_
  refine x_iconst (v := 2) dL_law_947 rfl ?_
  refine x_iadd dL_law_948 ?_
  refine x_sldK h2 dL_law_949 ?_
  refine x_callVK (a := 201) (m' := m2) (v := .int b) (As := [.int (ox ω (zIx (i + 1))), .int (ox ω (zIx (i + 2)))]) (rest := []) e2 rfl (c_Mod_bent ω (ox ω (zIx (i + 1))) (ox ω (zIx (i + 2))) mh) mv_RL_165 rfl (Or.inl rfl) rfl (Nat.le_of_ble_eq_true rfl) (Nat.le_of_ble_eq_true rfl) (Nat.le_of_ble_eq_true rfl) ⟨by omega, by omega⟩ dL_law_950 ?_
  refine x_istore dL_law_953 (Nat.le_of_ble_eq_true rfl) rfl ?_
  refine x_aload_n dL_law_955 rfl ?_
  refine x_callVK (a := 201) (m' := m2) (v := .int (zI m2 201 0)) (As := []) (rest := []) (show f_Mod_thrown m2 = some (zI m2 201 0) from rfl) (show fP m2 (zI m2 201 0) = (.inl (some (.int (zI m2 201 0))), m2) from rfl) (c_Mod_thrown ω m2) mv_RL_111 rfl (Or.inl rfl) rfl (Nat.le_of_ble_eq_true rfl) (Nat.le_of_ble_eq_true rfl) (Nat.le_of_ble_eq_true rfl) ⟨by omega, by omega⟩ dL_law_956 ?_
  refine x_iload dL_law_959 rfl ?_
  refine x_sameK (tgt := 966) h8 dL_law_961 rfl ?_
  refine x_iload dL_law_966 rfl ?_
  refine x_neK (tgt := 983) dL_law_968 rfl (fun hz => ?_) (fun _ => ?_)
  · skip
    refine x_aload_n dL_law_971 rfl ?_
    refine x_iconst (v := 0) dL_law_972 rfl ?_
    refine x_outK (Or.inl rfl) dL_law_973 ?_
    refine x_iload dL_law_974 rfl ?_
    refine x_i2l dL_law_976 ?_
    refine x_lcmpK (h9 hz) dL_law_977 ?_
    refine x_zeroK (tgt := 983) dL_law_978 rfl ?_
    refine x_goto (tgt := 1979) dL_law_983 rfl ?_
    exact x_wid (by omega) (by omega) (k _ _)
  · skip
    refine x_goto (tgt := 1979) dL_law_983 rfl ?_
    exact x_wid (by omega) (by omega) (k _ _)
theorem cs_day {ω : Wd} {i : Int32} {m : Mm} (hI : Inv m) (h1 : zIn (i + 1) (oL ω)) (h2 : zIn (i + 2) (oL ω)) : Cs ω i m 986 := by
  obtain ⟨kk, mh, b, m2, e1, e2, hI2, h8, h9⟩ := hB_agree hk_IA (fun e g1 g2 => ne_13 g1 g2) (b_day hI (ox ω (zIx (i + 1))) (ox ω (zIx (i + 2))))
  refine ⟨m2, hI2, fun α φ t c0 s0 o5 o6 hc k => ?_⟩
  refine x_aload_n dL_law_986 rfl ?_
  refine x_aload_n dL_law_987 rfl ?_
  refine x_iload dL_law_988 rfl ?_
  refine x_iconst (v := 1) dL_law_990 rfl ?_
  refine x_iadd dL_law_991 ?_
  refine x_sldK h1 dL_law_992 ?_
  refine x_aload_n dL_law_993 rfl ?_
  refine x_iload dL_law_994 rfl ?_
  refine x_iconst (v := 2) dL_law_996 rfl ?_
  refine x_iadd dL_law_997 ?_
  refine x_sldK h2 dL_law_998 ?_
  refine x_aload_n dL_law_999 rfl ?_
  refine x_callSK (w0 := 0) (m' := mh) (As := [.ref (zad ω 16), .int (ox ω (zIx (i + 1))), .int (ox ω (zIx (i + 2))), .ref (zad ω 229)]) (rest := []) e1 (c_L_day ω (ox ω (zIx (i + 1))) (ox ω (zIx (i + 2))) m) mh_166 rfl (Nat.le_of_ble_eq_true rfl) (Nat.le_of_ble_eq_true rfl) (Nat.le_of_ble_eq_true rfl) ⟨by omega, by omega⟩ dL_law_1000 ?_
  refine x_istore dL_law_1003 (Nat.le_of_ble_eq_true rfl) rfl ?_
  refine x_aload_n dL_law_1005 rfl ?_
  refine x_aload_n dL_law_1006 rfl ?_
  refine x_iload dL_law_1007 rfl ?_
  refine x_iconst (v := 1) dL_law_1009 rfl ?_
  refine x_iadd dL_law_1010 ?_
  refine x_sldK h1 dL_law_1011 ?_
  refine x_aload_n dL_law_1012 rfl ?_
  refine x_iload dL_law_1013 rfl ?_
  refine x_iconst (v := 2) dL_law_1015 rfl ?_
  refine x_iadd dL_law_1016 ?_
  refine x_sldK h2 dL_law_1017 ?_
  refine x_callVK (a := 201) (m' := m2) (v := .int b) (As := [.int (ox ω (zIx (i + 1))), .int (ox ω (zIx (i + 2)))]) (rest := []) e2 rfl (c_Mod_day ω (ox ω (zIx (i + 1))) (ox ω (zIx (i + 2))) mh) mv_RL_168 rfl (Or.inl rfl) rfl (Nat.le_of_ble_eq_true rfl) (Nat.le_of_ble_eq_true rfl) (Nat.le_of_ble_eq_true rfl) ⟨by omega, by omega⟩ dL_law_1018 ?_
  refine x_istore dL_law_1021 (Nat.le_of_ble_eq_true rfl) rfl ?_
  refine x_aload_n dL_law_1023 rfl ?_
  refine x_callVK (a := 201) (m' := m2) (v := .int (zI m2 201 0)) (As := []) (rest := []) (show f_Mod_thrown m2 = some (zI m2 201 0) from rfl) (show fP m2 (zI m2 201 0) = (.inl (some (.int (zI m2 201 0))), m2) from rfl) (c_Mod_thrown ω m2) mv_RL_111 rfl (Or.inl rfl) rfl (Nat.le_of_ble_eq_true rfl) (Nat.le_of_ble_eq_true rfl) (Nat.le_of_ble_eq_true rfl) ⟨by omega, by omega⟩ dL_law_1024 ?_
  refine x_iload dL_law_1027 rfl ?_
  refine x_sameK (tgt := 1034) h8 dL_law_1029 rfl ?_
  refine x_iload dL_law_1034 rfl ?_
  refine x_neK (tgt := 1051) dL_law_1036 rfl (fun hz => ?_) (fun _ => ?_)
  · skip
    refine x_aload_n dL_law_1039 rfl ?_
    refine x_iconst (v := 0) dL_law_1040 rfl ?_
    refine x_outK (Or.inl rfl) dL_law_1041 ?_
    refine x_iload dL_law_1042 rfl ?_
    refine x_i2l dL_law_1044 ?_
    refine x_lcmpK (h9 hz) dL_law_1045 ?_
    refine x_zeroK (tgt := 1051) dL_law_1046 rfl ?_
    refine x_goto (tgt := 1979) dL_law_1051 rfl ?_
    exact x_wid (by omega) (by omega) (k _ _)
  · skip
    refine x_goto (tgt := 1979) dL_law_1051 rfl ?_
    exact x_wid (by omega) (by omega) (k _ _)
theorem cs_dayByDays {ω : Wd} {i : Int32} {m : Mm} (hI : Inv m) (h1 : zIn (i + 1) (oL ω)) (h2 : zIn (i + 2) (oL ω)) : Cs ω i m 1054 := by
  obtain ⟨kk, mh, b, m2, e1, e2, hI2, h8, h9⟩ := hB_agree hk_IA (fun e g1 g2 => ne_13 g1 g2) (b_dayByDays hI (ox ω (zIx (i + 1))) (ox ω (zIx (i + 2))))
  refine ⟨m2, hI2, fun α φ t c0 s0 o5 o6 hc k => ?_⟩
  refine x_aload_n dL_law_1054 rfl ?_
  refine x_aload_n dL_law_1055 rfl ?_
  refine x_iload dL_law_1056 rfl ?_
  refine x_iconst (v := 1) dL_law_1058 rfl ?_
  refine x_iadd dL_law_1059 ?_
  refine x_sldK h1 dL_law_1060 ?_
  refine x_aload_n dL_law_1061 rfl ?_
  refine x_iload dL_law_1062 rfl ?_
  refine x_iconst (v := 2) dL_law_1064 rfl ?_
  refine x_iadd dL_law_1065 ?_
  refine x_sldK h2 dL_law_1066 ?_
  refine x_aload_n dL_law_1067 rfl ?_
  refine x_callSK (w0 := 0) (m' := mh) (As := [.ref (zad ω 16), .int (ox ω (zIx (i + 1))), .int (ox ω (zIx (i + 2))), .ref (zad ω 229)]) (rest := []) e1 (c_L_dayByDays ω (ox ω (zIx (i + 1))) (ox ω (zIx (i + 2))) m) mh_169 rfl (Nat.le_of_ble_eq_true rfl) (Nat.le_of_ble_eq_true rfl) (Nat.le_of_ble_eq_true rfl) ⟨by omega, by omega⟩ dL_law_1068 ?_
  refine x_istore dL_law_1071 (Nat.le_of_ble_eq_true rfl) rfl ?_
  refine x_aload_n dL_law_1073 rfl ?_
  refine x_aload_n dL_law_1074 rfl ?_
  refine x_iload dL_law_1075 rfl ?_
  refine x_iconst (v := 1) dL_law_1077 rfl ?_
  refine x_iadd dL_law_1078 ?_
  refine x_sldK h1 dL_law_1079 ?_
  refine x_aload_n dL_law_1080 rfl ?_
  refine x_iload dL_law_1081 rfl ?_
  refine x_iconst (v := 2) dL_law_1083 rfl ?_
  refine x_iadd dL_law_1084 ?_
  refine x_sldK h2 dL_law_1085 ?_
  refine x_callVK (a := 201) (m' := m2) (v := .int b) (As := [.int (ox ω (zIx (i + 1))), .int (ox ω (zIx (i + 2)))]) (rest := []) e2 rfl (c_Mod_dayByDays ω (ox ω (zIx (i + 1))) (ox ω (zIx (i + 2))) mh) mv_RL_171 rfl (Or.inl rfl) rfl (Nat.le_of_ble_eq_true rfl) (Nat.le_of_ble_eq_true rfl) (Nat.le_of_ble_eq_true rfl) ⟨by omega, by omega⟩ dL_law_1086 ?_
  refine x_istore dL_law_1089 (Nat.le_of_ble_eq_true rfl) rfl ?_
  refine x_aload_n dL_law_1091 rfl ?_
  refine x_callVK (a := 201) (m' := m2) (v := .int (zI m2 201 0)) (As := []) (rest := []) (show f_Mod_thrown m2 = some (zI m2 201 0) from rfl) (show fP m2 (zI m2 201 0) = (.inl (some (.int (zI m2 201 0))), m2) from rfl) (c_Mod_thrown ω m2) mv_RL_111 rfl (Or.inl rfl) rfl (Nat.le_of_ble_eq_true rfl) (Nat.le_of_ble_eq_true rfl) (Nat.le_of_ble_eq_true rfl) ⟨by omega, by omega⟩ dL_law_1092 ?_
  refine x_iload dL_law_1095 rfl ?_
  refine x_sameK (tgt := 1102) h8 dL_law_1097 rfl ?_
  refine x_iload dL_law_1102 rfl ?_
  refine x_neK (tgt := 1119) dL_law_1104 rfl (fun hz => ?_) (fun _ => ?_)
  · skip
    refine x_aload_n dL_law_1107 rfl ?_
    refine x_iconst (v := 0) dL_law_1108 rfl ?_
    refine x_outK (Or.inl rfl) dL_law_1109 ?_
    refine x_iload dL_law_1110 rfl ?_
    refine x_i2l dL_law_1112 ?_
    refine x_lcmpK (h9 hz) dL_law_1113 ?_
    refine x_zeroK (tgt := 1119) dL_law_1114 rfl ?_
    refine x_goto (tgt := 1979) dL_law_1119 rfl ?_
    exact x_wid (by omega) (by omega) (k _ _)
  · skip
    refine x_goto (tgt := 1979) dL_law_1119 rfl ?_
    exact x_wid (by omega) (by omega) (k _ _)
theorem cs_clashes {ω : Wd} {i : Int32} {m : Mm} (hI : Inv m) (h1 : zIn (i + 1) (oL ω)) : Cs ω i m 1122 := by
  obtain ⟨kk, mh, b, m2, e1, e2, hI2, h8, h9⟩ := hB_agree hk_A (fun e g1 g2 => ne_13 g1 g2) (b_clashes hI (ox ω (zIx (i + 1))))
  refine ⟨m2, hI2, fun α φ t c0 s0 o5 o6 hc k => ?_⟩
  refine x_aload_n dL_law_1122 rfl ?_
  refine x_aload_n dL_law_1123 rfl ?_
  refine x_iload dL_law_1124 rfl ?_
  refine x_iconst (v := 1) dL_law_1126 rfl ?_
  refine x_iadd dL_law_1127 ?_
  refine x_sldK h1 dL_law_1128 ?_
  refine x_aload_n dL_law_1129 rfl ?_
  refine x_callSK (w0 := 0) (m' := mh) (As := [.ref (zad ω 16), .int (ox ω (zIx (i + 1))), .ref (zad ω 229)]) (rest := []) e1 (c_L_clashes ω (ox ω (zIx (i + 1))) m) mh_172 rfl (Nat.le_of_ble_eq_true rfl) (Nat.le_of_ble_eq_true rfl) (Nat.le_of_ble_eq_true rfl) ⟨by omega, by omega⟩ dL_law_1130 ?_
  refine x_istore dL_law_1133 (Nat.le_of_ble_eq_true rfl) rfl ?_
  refine x_aload_n dL_law_1135 rfl ?_
  refine x_aload_n dL_law_1136 rfl ?_
  refine x_iload dL_law_1137 rfl ?_
  refine x_iconst (v := 1) dL_law_1139 rfl ?_
  refine x_iadd dL_law_1140 ?_
  refine x_sldK h1 dL_law_1141 ?_
  refine x_callVK (a := 201) (m' := m2) (v := .int b) (As := [.int (ox ω (zIx (i + 1)))]) (rest := []) e2 rfl (c_Mod_clashes ω (ox ω (zIx (i + 1))) mh) mv_RL_174 rfl (Or.inl rfl) rfl (Nat.le_of_ble_eq_true rfl) (Nat.le_of_ble_eq_true rfl) (Nat.le_of_ble_eq_true rfl) ⟨by omega, by omega⟩ dL_law_1142 ?_
  refine x_istore dL_law_1145 (Nat.le_of_ble_eq_true rfl) rfl ?_
  refine x_aload_n dL_law_1147 rfl ?_
  refine x_callVK (a := 201) (m' := m2) (v := .int (zI m2 201 0)) (As := []) (rest := []) (show f_Mod_thrown m2 = some (zI m2 201 0) from rfl) (show fP m2 (zI m2 201 0) = (.inl (some (.int (zI m2 201 0))), m2) from rfl) (c_Mod_thrown ω m2) mv_RL_111 rfl (Or.inl rfl) rfl (Nat.le_of_ble_eq_true rfl) (Nat.le_of_ble_eq_true rfl) (Nat.le_of_ble_eq_true rfl) ⟨by omega, by omega⟩ dL_law_1148 ?_
  refine x_iload dL_law_1151 rfl ?_
  refine x_sameK (tgt := 1158) h8 dL_law_1153 rfl ?_
  refine x_iload dL_law_1158 rfl ?_
  refine x_neK (tgt := 1175) dL_law_1160 rfl (fun hz => ?_) (fun _ => ?_)
  · skip
    refine x_aload_n dL_law_1163 rfl ?_
    refine x_iconst (v := 0) dL_law_1164 rfl ?_
    refine x_outK (Or.inl rfl) dL_law_1165 ?_
    refine x_iload dL_law_1166 rfl ?_
    refine x_i2l dL_law_1168 ?_
    refine x_lcmpK (h9 hz) dL_law_1169 ?_
    refine x_zeroK (tgt := 1175) dL_law_1170 rfl ?_
    refine x_goto (tgt := 1979) dL_law_1175 rfl ?_
    exact x_wid (by omega) (by omega) (k _ _)
  · skip
    refine x_goto (tgt := 1979) dL_law_1175 rfl ?_
    exact x_wid (by omega) (by omega) (k _ _)
theorem cs_steps {ω : Wd} {i : Int32} {m : Mm} (hI : Inv m) (h1 : zIn (i + 1) (oL ω)) : Cs ω i m 1253 := by
  obtain ⟨kk, mh, b, m2, e1, e2, hI2, h8, h9⟩ := hB_agree hk_I (fun e g1 g2 => ne_13 g1 g2) (b_steps hI (ox ω (zIx (i + 1))))
  refine ⟨m2, hI2, fun α φ t c0 s0 o5 o6 hc k => ?_⟩
  refine x_aload_n dL_law_1253 rfl ?_
  refine x_aload_n dL_law_1254 rfl ?_
  refine x_iload dL_law_1255 rfl ?_
  refine x_iconst (v := 1) dL_law_1257 rfl ?_
  refine x_iadd dL_law_1258 ?_
  refine x_sldK h1 dL_law_1259 ?_
  refine x_aload_n dL_law_1260 rfl ?_
  refine x_callSK (w0 := 0) (m' := mh) (As := [.ref (zad ω 16), .int (ox ω (zIx (i + 1))), .ref (zad ω 229)]) (rest := []) e1 (c_L_steps ω (ox ω (zIx (i + 1))) m) mh_178 rfl (Nat.le_of_ble_eq_true rfl) (Nat.le_of_ble_eq_true rfl) (Nat.le_of_ble_eq_true rfl) ⟨by omega, by omega⟩ dL_law_1261 ?_
  refine x_istore dL_law_1264 (Nat.le_of_ble_eq_true rfl) rfl ?_
  refine x_aload_n dL_law_1266 rfl ?_
  refine x_aload_n dL_law_1267 rfl ?_
  refine x_iload dL_law_1268 rfl ?_
  refine x_iconst (v := 1) dL_law_1270 rfl ?_
  refine x_iadd dL_law_1271 ?_
  refine x_sldK h1 dL_law_1272 ?_
  refine x_callVK (a := 201) (m' := m2) (v := .int b) (As := [.int (ox ω (zIx (i + 1)))]) (rest := []) e2 rfl (c_Mod_steps ω (ox ω (zIx (i + 1))) mh) mv_RL_180 rfl (Or.inl rfl) rfl (Nat.le_of_ble_eq_true rfl) (Nat.le_of_ble_eq_true rfl) (Nat.le_of_ble_eq_true rfl) ⟨by omega, by omega⟩ dL_law_1273 ?_
  refine x_istore dL_law_1276 (Nat.le_of_ble_eq_true rfl) rfl ?_
  refine x_aload_n dL_law_1278 rfl ?_
  refine x_callVK (a := 201) (m' := m2) (v := .int (zI m2 201 0)) (As := []) (rest := []) (show f_Mod_thrown m2 = some (zI m2 201 0) from rfl) (show fP m2 (zI m2 201 0) = (.inl (some (.int (zI m2 201 0))), m2) from rfl) (c_Mod_thrown ω m2) mv_RL_111 rfl (Or.inl rfl) rfl (Nat.le_of_ble_eq_true rfl) (Nat.le_of_ble_eq_true rfl) (Nat.le_of_ble_eq_true rfl) ⟨by omega, by omega⟩ dL_law_1279 ?_
  refine x_iload dL_law_1282 rfl ?_
  refine x_sameK (tgt := 1289) h8 dL_law_1284 rfl ?_
  refine x_iload dL_law_1289 rfl ?_
  refine x_neK (tgt := 1306) dL_law_1291 rfl (fun hz => ?_) (fun _ => ?_)
  · skip
    refine x_aload_n dL_law_1294 rfl ?_
    refine x_iconst (v := 0) dL_law_1295 rfl ?_
    refine x_outK (Or.inl rfl) dL_law_1296 ?_
    refine x_iload dL_law_1297 rfl ?_
    refine x_i2l dL_law_1299 ?_
    refine x_lcmpK (h9 hz) dL_law_1300 ?_
    refine x_zeroK (tgt := 1306) dL_law_1301 rfl ?_
    refine x_goto (tgt := 1979) dL_law_1306 rfl ?_
    exact x_wid (by omega) (by omega) (k _ _)
  · skip
    refine x_goto (tgt := 1979) dL_law_1306 rfl ?_
    exact x_wid (by omega) (by omega) (k _ _)
theorem cs_step {ω : Wd} {i : Int32} {m : Mm} (hI : Inv m) (h1 : zIn (i + 1) (oL ω)) (h2 : zIn (i + 2) (oL ω)) : Cs ω i m 1309 := by
  obtain ⟨kk, mh, b, m2, e1, e2, hI2, h8, h9⟩ := hB_agree hk_I (fun e g1 g2 => ne_13 g1 g2) (b_step hI (ox ω (zIx (i + 1))) (ox ω (zIx (i + 2))))
  refine ⟨m2, hI2, fun α φ t c0 s0 o5 o6 hc k => ?_⟩
  refine x_aload_n dL_law_1309 rfl ?_
  refine x_aload_n dL_law_1310 rfl ?_
  refine x_iload dL_law_1311 rfl ?_
  refine x_iconst (v := 1) dL_law_1313 rfl ?_
  refine x_iadd dL_law_1314 ?_
  refine x_sldK h1 dL_law_1315 ?_
  refine x_aload_n dL_law_1316 rfl ?_
  refine x_iload dL_law_1317 rfl ?_
  refine x_iconst (v := 2) dL_law_1319 rfl ?_
  refine x_iadd dL_law_1320 ?_
  refine x_sldK h2 dL_law_1321 ?_
  refine x_aload_n dL_law_1322 rfl ?_
  refine x_callSK (w0 := 0) (m' := mh) (As := [.ref (zad ω 16), .int (ox ω (zIx (i + 1))), .int (ox ω (zIx (i + 2))), .ref (zad ω 229)]) (rest := []) e1 (c_L_step ω (ox ω (zIx (i + 1))) (ox ω (zIx (i + 2))) m) mh_181 rfl (Nat.le_of_ble_eq_true rfl) (Nat.le_of_ble_eq_true rfl) (Nat.le_of_ble_eq_true rfl) ⟨by omega, by omega⟩ dL_law_1323 ?_
  refine x_istore dL_law_1326 (Nat.le_of_ble_eq_true rfl) rfl ?_
  refine x_aload_n dL_law_1328 rfl ?_
  refine x_aload_n dL_law_1329 rfl ?_
  refine x_iload dL_law_1330 rfl ?_
  refine x_iconst (v := 1) dL_law_1332 rfl ?_
  refine x_iadd dL_law_1333 ?_
  refine x_sldK h1 dL_law_1334 ?_
  refine x_aload_n dL_law_1335 rfl ?_
  refine x_iload dL_law_1336 rfl ?_
  refine x_iconst (v := 2) dL_law_1338 rfl ?_
  refine x_iadd dL_law_1339 ?_
  refine x_sldK h2 dL_law_1340 ?_
  refine x_callVK (a := 201) (m' := m2) (v := .int b) (As := [.int (ox ω (zIx (i + 1))), .int (ox ω (zIx (i + 2)))]) (rest := []) e2 rfl (c_Mod_step ω (ox ω (zIx (i + 1))) (ox ω (zIx (i + 2))) mh) mv_RL_183 rfl (Or.inl rfl) rfl (Nat.le_of_ble_eq_true rfl) (Nat.le_of_ble_eq_true rfl) (Nat.le_of_ble_eq_true rfl) ⟨by omega, by omega⟩ dL_law_1341 ?_
  refine x_istore dL_law_1344 (Nat.le_of_ble_eq_true rfl) rfl ?_
  refine x_aload_n dL_law_1346 rfl ?_
  refine x_callVK (a := 201) (m' := m2) (v := .int (zI m2 201 0)) (As := []) (rest := []) (show f_Mod_thrown m2 = some (zI m2 201 0) from rfl) (show fP m2 (zI m2 201 0) = (.inl (some (.int (zI m2 201 0))), m2) from rfl) (c_Mod_thrown ω m2) mv_RL_111 rfl (Or.inl rfl) rfl (Nat.le_of_ble_eq_true rfl) (Nat.le_of_ble_eq_true rfl) (Nat.le_of_ble_eq_true rfl) ⟨by omega, by omega⟩ dL_law_1347 ?_
  refine x_iload dL_law_1350 rfl ?_
  refine x_sameK (tgt := 1357) h8 dL_law_1352 rfl ?_
  refine x_iload dL_law_1357 rfl ?_
  refine x_neK (tgt := 1374) dL_law_1359 rfl (fun hz => ?_) (fun _ => ?_)
  · skip
    refine x_aload_n dL_law_1362 rfl ?_
    refine x_iconst (v := 0) dL_law_1363 rfl ?_
    refine x_outK (Or.inl rfl) dL_law_1364 ?_
    refine x_iload dL_law_1365 rfl ?_
    refine x_i2l dL_law_1367 ?_
    refine x_lcmpK (h9 hz) dL_law_1368 ?_
    refine x_zeroK (tgt := 1374) dL_law_1369 rfl ?_
    refine x_goto (tgt := 1979) dL_law_1374 rfl ?_
    exact x_wid (by omega) (by omega) (k _ _)
  · skip
    refine x_goto (tgt := 1979) dL_law_1374 rfl ?_
    exact x_wid (by omega) (by omega) (k _ _)
theorem cs_cost {ω : Wd} {i : Int32} {m : Mm} (hI : Inv m) (h1 : zIn (i + 1) (oL ω)) (h2 : zIn (i + 2) (oL ω)) : Cs ω i m 1377 := by
  obtain ⟨kk, mh, b, m2, e1, e2, hI2, h8, h9⟩ := hB_agree hk_IA (fun e g1 g2 => ne_13 g1 g2) (b_cost hI (ox ω (zIx (i + 1))) (ox ω (zIx (i + 2))))
  refine ⟨m2, hI2, fun α φ t c0 s0 o5 o6 hc k => ?_⟩
  refine x_aload_n dL_law_1377 rfl ?_
  refine x_aload_n dL_law_1378 rfl ?_
  refine x_iload dL_law_1379 rfl ?_
  refine x_iconst (v := 1) dL_law_1381 rfl ?_
  refine x_iadd dL_law_1382 ?_
  refine x_sldK h1 dL_law_1383 ?_
  refine x_aload_n dL_law_1384 rfl ?_
  refine x_iload dL_law_1385 rfl ?_
  refine x_iconst (v := 2) dL_law_1387 rfl ?_
  refine x_iadd dL_law_1388 ?_
  refine x_sldK h2 dL_law_1389 ?_
  refine x_aload_n dL_law_1390 rfl ?_
  refine x_callSK (w0 := 0) (m' := mh) (As := [.ref (zad ω 16), .int (ox ω (zIx (i + 1))), .int (ox ω (zIx (i + 2))), .ref (zad ω 229)]) (rest := []) e1 (c_L_cost ω (ox ω (zIx (i + 1))) (ox ω (zIx (i + 2))) m) mh_184 rfl (Nat.le_of_ble_eq_true rfl) (Nat.le_of_ble_eq_true rfl) (Nat.le_of_ble_eq_true rfl) ⟨by omega, by omega⟩ dL_law_1391 ?_
  refine x_istore dL_law_1394 (Nat.le_of_ble_eq_true rfl) rfl ?_
  refine x_aload_n dL_law_1396 rfl ?_
  refine x_aload_n dL_law_1397 rfl ?_
  refine x_iload dL_law_1398 rfl ?_
  refine x_iconst (v := 1) dL_law_1400 rfl ?_
  refine x_iadd dL_law_1401 ?_
  refine x_sldK h1 dL_law_1402 ?_
  refine x_aload_n dL_law_1403 rfl ?_
  refine x_iload dL_law_1404 rfl ?_
  refine x_iconst (v := 2) dL_law_1406 rfl ?_
  refine x_iadd dL_law_1407 ?_
  refine x_sldK h2 dL_law_1408 ?_
  refine x_callVK (a := 201) (m' := m2) (v := .int b) (As := [.int (ox ω (zIx (i + 1))), .int (ox ω (zIx (i + 2)))]) (rest := []) e2 rfl (c_Mod_cost ω (ox ω (zIx (i + 1))) (ox ω (zIx (i + 2))) mh) mv_RL_186 rfl (Or.inl rfl) rfl (Nat.le_of_ble_eq_true rfl) (Nat.le_of_ble_eq_true rfl) (Nat.le_of_ble_eq_true rfl) ⟨by omega, by omega⟩ dL_law_1409 ?_
  refine x_istore dL_law_1412 (Nat.le_of_ble_eq_true rfl) rfl ?_
  refine x_aload_n dL_law_1414 rfl ?_
  refine x_callVK (a := 201) (m' := m2) (v := .int (zI m2 201 0)) (As := []) (rest := []) (show f_Mod_thrown m2 = some (zI m2 201 0) from rfl) (show fP m2 (zI m2 201 0) = (.inl (some (.int (zI m2 201 0))), m2) from rfl) (c_Mod_thrown ω m2) mv_RL_111 rfl (Or.inl rfl) rfl (Nat.le_of_ble_eq_true rfl) (Nat.le_of_ble_eq_true rfl) (Nat.le_of_ble_eq_true rfl) ⟨by omega, by omega⟩ dL_law_1415 ?_
  refine x_iload dL_law_1418 rfl ?_
  refine x_sameK (tgt := 1425) h8 dL_law_1420 rfl ?_
  refine x_iload dL_law_1425 rfl ?_
  refine x_neK (tgt := 1442) dL_law_1427 rfl (fun hz => ?_) (fun _ => ?_)
  · skip
    refine x_aload_n dL_law_1430 rfl ?_
    refine x_iconst (v := 0) dL_law_1431 rfl ?_
    refine x_outK (Or.inl rfl) dL_law_1432 ?_
    refine x_iload dL_law_1433 rfl ?_
    refine x_i2l dL_law_1435 ?_
    refine x_lcmpK (h9 hz) dL_law_1436 ?_
    refine x_zeroK (tgt := 1442) dL_law_1437 rfl ?_
    refine x_goto (tgt := 1979) dL_law_1442 rfl ?_
    exact x_wid (by omega) (by omega) (k _ _)
  · skip
    refine x_goto (tgt := 1979) dL_law_1442 rfl ?_
    exact x_wid (by omega) (by omega) (k _ _)
theorem cs_yearCost {ω : Wd} {i : Int32} {m : Mm} (hI : Inv m) (h1 : zIn (i + 1) (oL ω)) : Cs ω i m 1445 := by
  obtain ⟨kk, mh, b, m2, e1, e2, hI2, h8, h9⟩ := hB_agree hk_A (fun e g1 g2 => ne_13 g1 g2) (b_yearCost hI (ox ω (zIx (i + 1))))
  refine ⟨m2, hI2, fun α φ t c0 s0 o5 o6 hc k => ?_⟩
  refine x_aload_n dL_law_1445 rfl ?_
  refine x_aload_n dL_law_1446 rfl ?_
  refine x_iload dL_law_1447 rfl ?_
  refine x_iconst (v := 1) dL_law_1449 rfl ?_
  refine x_iadd dL_law_1450 ?_
  refine x_sldK h1 dL_law_1451 ?_
  refine x_aload_n dL_law_1452 rfl ?_
  refine x_callSK (w0 := 0) (m' := mh) (As := [.ref (zad ω 16), .int (ox ω (zIx (i + 1))), .ref (zad ω 229)]) (rest := []) e1 (c_L_yearCost ω (ox ω (zIx (i + 1))) m) mh_187 rfl (Nat.le_of_ble_eq_true rfl) (Nat.le_of_ble_eq_true rfl) (Nat.le_of_ble_eq_true rfl) ⟨by omega, by omega⟩ dL_law_1453 ?_
  refine x_istore dL_law_1456 (Nat.le_of_ble_eq_true rfl) rfl ?_
  refine x_aload_n dL_law_1458 rfl ?_
  refine x_aload_n dL_law_1459 rfl ?_
  refine x_iload dL_law_1460 rfl ?_
  refine x_iconst (v := 1) dL_law_1462 rfl ?_
  refine x_iadd dL_law_1463 ?_
  refine x_sldK h1 dL_law_1464 ?_
  refine x_callVK (a := 201) (m' := m2) (v := .int b) (As := [.int (ox ω (zIx (i + 1)))]) (rest := []) e2 rfl (c_Mod_yearCost ω (ox ω (zIx (i + 1))) mh) mv_RL_189 rfl (Or.inl rfl) rfl (Nat.le_of_ble_eq_true rfl) (Nat.le_of_ble_eq_true rfl) (Nat.le_of_ble_eq_true rfl) ⟨by omega, by omega⟩ dL_law_1465 ?_
  refine x_istore dL_law_1468 (Nat.le_of_ble_eq_true rfl) rfl ?_
  refine x_aload_n dL_law_1470 rfl ?_
  refine x_callVK (a := 201) (m' := m2) (v := .int (zI m2 201 0)) (As := []) (rest := []) (show f_Mod_thrown m2 = some (zI m2 201 0) from rfl) (show fP m2 (zI m2 201 0) = (.inl (some (.int (zI m2 201 0))), m2) from rfl) (c_Mod_thrown ω m2) mv_RL_111 rfl (Or.inl rfl) rfl (Nat.le_of_ble_eq_true rfl) (Nat.le_of_ble_eq_true rfl) (Nat.le_of_ble_eq_true rfl) ⟨by omega, by omega⟩ dL_law_1471 ?_
  refine x_iload dL_law_1474 rfl ?_
  refine x_sameK (tgt := 1481) h8 dL_law_1476 rfl ?_
  refine x_iload dL_law_1481 rfl ?_
  refine x_neK (tgt := 1498) dL_law_1483 rfl (fun hz => ?_) (fun _ => ?_)
  · skip
    refine x_aload_n dL_law_1486 rfl ?_
    refine x_iconst (v := 0) dL_law_1487 rfl ?_
    refine x_outK (Or.inl rfl) dL_law_1488 ?_
    refine x_iload dL_law_1489 rfl ?_
    refine x_i2l dL_law_1491 ?_
    refine x_lcmpK (h9 hz) dL_law_1492 ?_
    refine x_zeroK (tgt := 1498) dL_law_1493 rfl ?_
    refine x_goto (tgt := 1979) dL_law_1498 rfl ?_
    exact x_wid (by omega) (by omega) (k _ _)
  · skip
    refine x_goto (tgt := 1979) dL_law_1498 rfl ?_
    exact x_wid (by omega) (by omega) (k _ _)
theorem cs_search {ω : Wd} {i : Int32} {m : Mm} (hI : Inv m) (h1 : zIn (i + 1) (oL ω)) : Cs ω i m 1501 := by
  obtain ⟨kk, mh, b, m2, e1, e2, hI2, h8, h9⟩ := hB_agree hk_AS (fun e g1 g2 => ne_13 g1 g2) (b_search hI (ox ω (zIx (i + 1))))
  refine ⟨m2, hI2, fun α φ t c0 s0 o5 o6 hc k => ?_⟩
  refine x_aload_n dL_law_1501 rfl ?_
  refine x_aload_n dL_law_1502 rfl ?_
  refine x_iload dL_law_1503 rfl ?_
  refine x_iconst (v := 1) dL_law_1505 rfl ?_
  refine x_iadd dL_law_1506 ?_
  refine x_sldK h1 dL_law_1507 ?_
  refine x_aload_n dL_law_1508 rfl ?_
  refine x_callSK (w0 := 0) (m' := mh) (As := [.ref (zad ω 16), .int (ox ω (zIx (i + 1))), .ref (zad ω 229)]) (rest := []) e1 (c_L_search ω (ox ω (zIx (i + 1))) m) mh_190 rfl (Nat.le_of_ble_eq_true rfl) (Nat.le_of_ble_eq_true rfl) (Nat.le_of_ble_eq_true rfl) ⟨by omega, by omega⟩ dL_law_1509 ?_
  refine x_istore dL_law_1512 (Nat.le_of_ble_eq_true rfl) rfl ?_
  refine x_aload_n dL_law_1514 rfl ?_
  refine x_aload_n dL_law_1515 rfl ?_
  refine x_iload dL_law_1516 rfl ?_
  refine x_iconst (v := 1) dL_law_1518 rfl ?_
  refine x_iadd dL_law_1519 ?_
  refine x_sldK h1 dL_law_1520 ?_
  refine x_callVK (a := 201) (m' := m2) (v := .int b) (As := [.int (ox ω (zIx (i + 1)))]) (rest := []) e2 rfl (c_Mod_search ω (ox ω (zIx (i + 1))) mh) mv_RL_192 rfl (Or.inl rfl) rfl (Nat.le_of_ble_eq_true rfl) (Nat.le_of_ble_eq_true rfl) (Nat.le_of_ble_eq_true rfl) ⟨by omega, by omega⟩ dL_law_1521 ?_
  refine x_istore dL_law_1524 (Nat.le_of_ble_eq_true rfl) rfl ?_
  refine x_aload_n dL_law_1526 rfl ?_
  refine x_callVK (a := 201) (m' := m2) (v := .int (zI m2 201 0)) (As := []) (rest := []) (show f_Mod_thrown m2 = some (zI m2 201 0) from rfl) (show fP m2 (zI m2 201 0) = (.inl (some (.int (zI m2 201 0))), m2) from rfl) (c_Mod_thrown ω m2) mv_RL_111 rfl (Or.inl rfl) rfl (Nat.le_of_ble_eq_true rfl) (Nat.le_of_ble_eq_true rfl) (Nat.le_of_ble_eq_true rfl) ⟨by omega, by omega⟩ dL_law_1527 ?_
  refine x_iload dL_law_1530 rfl ?_
  refine x_sameK (tgt := 1537) h8 dL_law_1532 rfl ?_
  refine x_iload dL_law_1537 rfl ?_
  refine x_neK (tgt := 1554) dL_law_1539 rfl (fun hz => ?_) (fun _ => ?_)
  · skip
    refine x_aload_n dL_law_1542 rfl ?_
    refine x_iconst (v := 0) dL_law_1543 rfl ?_
    refine x_outK (Or.inl rfl) dL_law_1544 ?_
    refine x_iload dL_law_1545 rfl ?_
    refine x_i2l dL_law_1547 ?_
    refine x_lcmpK (h9 hz) dL_law_1548 ?_
    refine x_zeroK (tgt := 1554) dL_law_1549 rfl ?_
    refine x_goto (tgt := 1979) dL_law_1554 rfl ?_
    exact x_wid (by omega) (by omega) (k _ _)
  · skip
    refine x_goto (tgt := 1979) dL_law_1554 rfl ?_
    exact x_wid (by omega) (by omega) (k _ _)
theorem cs_goOn {ω : Wd} {i : Int32} {m : Mm} (hI : Inv m) (h1 : zIn (i + 1) (oL ω)) : Cs ω i m 1557 := by
  obtain ⟨kk, mh, b, m2, e1, e2, hI2, h8, h9⟩ := hB_agree hk_AS (fun e g1 g2 => ne_13 g1 g2) (b_goOn hI (ox ω (zIx (i + 1))))
  refine ⟨m2, hI2, fun α φ t c0 s0 o5 o6 hc k => ?_⟩
  refine x_aload_n dL_law_1557 rfl ?_
  refine x_aload_n dL_law_1558 rfl ?_
  refine x_iload dL_law_1559 rfl ?_
  refine x_iconst (v := 1) dL_law_1561 rfl ?_
  refine x_iadd dL_law_1562 ?_
  refine x_sldK h1 dL_law_1563 ?_
  refine x_aload_n dL_law_1564 rfl ?_
  refine x_callSK (w0 := 0) (m' := mh) (As := [.ref (zad ω 16), .int (ox ω (zIx (i + 1))), .ref (zad ω 229)]) (rest := []) e1 (c_L_goOn ω (ox ω (zIx (i + 1))) m) mh_193 rfl (Nat.le_of_ble_eq_true rfl) (Nat.le_of_ble_eq_true rfl) (Nat.le_of_ble_eq_true rfl) ⟨by omega, by omega⟩ dL_law_1565 ?_
  refine x_istore dL_law_1568 (Nat.le_of_ble_eq_true rfl) rfl ?_
  refine x_aload_n dL_law_1570 rfl ?_
  refine x_aload_n dL_law_1571 rfl ?_
  refine x_iload dL_law_1572 rfl ?_
  refine x_iconst (v := 1) dL_law_1574 rfl ?_
  refine x_iadd dL_law_1575 ?_
  refine x_sldK h1 dL_law_1576 ?_
  refine x_callVK (a := 201) (m' := m2) (v := .int b) (As := [.int (ox ω (zIx (i + 1)))]) (rest := []) e2 rfl (c_Mod_goOn ω (ox ω (zIx (i + 1))) mh) mv_RL_195 rfl (Or.inl rfl) rfl (Nat.le_of_ble_eq_true rfl) (Nat.le_of_ble_eq_true rfl) (Nat.le_of_ble_eq_true rfl) ⟨by omega, by omega⟩ dL_law_1577 ?_
  refine x_istore dL_law_1580 (Nat.le_of_ble_eq_true rfl) rfl ?_
  refine x_aload_n dL_law_1582 rfl ?_
  refine x_callVK (a := 201) (m' := m2) (v := .int (zI m2 201 0)) (As := []) (rest := []) (show f_Mod_thrown m2 = some (zI m2 201 0) from rfl) (show fP m2 (zI m2 201 0) = (.inl (some (.int (zI m2 201 0))), m2) from rfl) (c_Mod_thrown ω m2) mv_RL_111 rfl (Or.inl rfl) rfl (Nat.le_of_ble_eq_true rfl) (Nat.le_of_ble_eq_true rfl) (Nat.le_of_ble_eq_true rfl) ⟨by omega, by omega⟩ dL_law_1583 ?_
  refine x_iload dL_law_1586 rfl ?_
  refine x_sameK (tgt := 1593) h8 dL_law_1588 rfl ?_
  refine x_iload dL_law_1593 rfl ?_
  refine x_neK (tgt := 1610) dL_law_1595 rfl (fun hz => ?_) (fun _ => ?_)
  · skip
    refine x_aload_n dL_law_1598 rfl ?_
    refine x_iconst (v := 0) dL_law_1599 rfl ?_
    refine x_outK (Or.inl rfl) dL_law_1600 ?_
    refine x_iload dL_law_1601 rfl ?_
    refine x_i2l dL_law_1603 ?_
    refine x_lcmpK (h9 hz) dL_law_1604 ?_
    refine x_zeroK (tgt := 1610) dL_law_1605 rfl ?_
    refine x_goto (tgt := 1979) dL_law_1610 rfl ?_
    exact x_wid (by omega) (by omega) (k _ _)
  · skip
    refine x_goto (tgt := 1979) dL_law_1610 rfl ?_
    exact x_wid (by omega) (by omega) (k _ _)
theorem cs_bells {ω : Wd} {i : Int32} {m : Mm} (hI : Inv m) (h1 : zIn (i + 1) (oL ω)) (h2 : zIn (i + 2) (oL ω)) : Cs ω i m 1627 := by
  obtain ⟨kk, mh, b, m2, e1, e2, hI2, h8, h9⟩ := hB_agree hk_IA (fun e g1 g2 => ne_13 g1 g2) (b_bells hI (ox ω (zIx (i + 1))) (ox ω (zIx (i + 2))))
  refine ⟨m2, hI2, fun α φ t c0 s0 o5 o6 hc k => ?_⟩
  refine x_aload_n dL_law_1627 rfl ?_
  refine x_aload_n dL_law_1628 rfl ?_
  refine x_iload dL_law_1629 rfl ?_
  refine x_iconst (v := 1) dL_law_1631 rfl ?_
  refine x_iadd dL_law_1632 ?_
  refine x_sldK h1 dL_law_1633 ?_
  refine x_aload_n dL_law_1634 rfl ?_
  refine x_iload dL_law_1635 rfl ?_
  refine x_iconst (v := 2) dL_law_1637 rfl ?_
  refine x_iadd dL_law_1638 ?_
  refine x_sldK h2 dL_law_1639 ?_
  refine x_aload_n dL_law_1640 rfl ?_
  refine x_callSK (w0 := 0) (m' := mh) (As := [.ref (zad ω 16), .int (ox ω (zIx (i + 1))), .int (ox ω (zIx (i + 2))), .ref (zad ω 229)]) (rest := []) e1 (c_L_bells ω (ox ω (zIx (i + 1))) (ox ω (zIx (i + 2))) m) mh_201 rfl (Nat.le_of_ble_eq_true rfl) (Nat.le_of_ble_eq_true rfl) (Nat.le_of_ble_eq_true rfl) ⟨by omega, by omega⟩ dL_law_1641 ?_
  refine x_istore dL_law_1644 (Nat.le_of_ble_eq_true rfl) rfl ?_
  refine x_aload_n dL_law_1646 rfl ?_
  refine x_aload_n dL_law_1647 rfl ?_
  refine x_iload dL_law_1648 rfl ?_
  refine x_iconst (v := 1) dL_law_1650 rfl ?_
  refine x_iadd dL_law_1651 ?_
  refine x_sldK h1 dL_law_1652 ?_
  refine x_aload_n dL_law_1653 rfl ?_
  refine x_iload dL_law_1654 rfl ?_
  refine x_iconst (v := 2) dL_law_1656 rfl ?_
  refine x_iadd dL_law_1657 ?_
  refine x_sldK h2 dL_law_1658 ?_
  refine x_callVK (a := 201) (m' := m2) (v := .int b) (As := [.int (ox ω (zIx (i + 1))), .int (ox ω (zIx (i + 2)))]) (rest := []) e2 rfl (c_Mod_bells ω (ox ω (zIx (i + 1))) (ox ω (zIx (i + 2))) mh) mv_RL_203 rfl (Or.inl rfl) rfl (Nat.le_of_ble_eq_true rfl) (Nat.le_of_ble_eq_true rfl) (Nat.le_of_ble_eq_true rfl) ⟨by omega, by omega⟩ dL_law_1659 ?_
  refine x_istore dL_law_1662 (Nat.le_of_ble_eq_true rfl) rfl ?_
  refine x_aload_n dL_law_1664 rfl ?_
  refine x_callVK (a := 201) (m' := m2) (v := .int (zI m2 201 0)) (As := []) (rest := []) (show f_Mod_thrown m2 = some (zI m2 201 0) from rfl) (show fP m2 (zI m2 201 0) = (.inl (some (.int (zI m2 201 0))), m2) from rfl) (c_Mod_thrown ω m2) mv_RL_111 rfl (Or.inl rfl) rfl (Nat.le_of_ble_eq_true rfl) (Nat.le_of_ble_eq_true rfl) (Nat.le_of_ble_eq_true rfl) ⟨by omega, by omega⟩ dL_law_1665 ?_
  refine x_iload dL_law_1668 rfl ?_
  refine x_sameK (tgt := 1675) h8 dL_law_1670 rfl ?_
  refine x_iload dL_law_1675 rfl ?_
  refine x_neK (tgt := 1692) dL_law_1677 rfl (fun hz => ?_) (fun _ => ?_)
  · skip
    refine x_aload_n dL_law_1680 rfl ?_
    refine x_iconst (v := 0) dL_law_1681 rfl ?_
    refine x_outK (Or.inl rfl) dL_law_1682 ?_
    refine x_iload dL_law_1683 rfl ?_
    refine x_i2l dL_law_1685 ?_
    refine x_lcmpK (h9 hz) dL_law_1686 ?_
    refine x_zeroK (tgt := 1692) dL_law_1687 rfl ?_
    refine x_goto (tgt := 1979) dL_law_1692 rfl ?_
    exact x_wid (by omega) (by omega) (k _ _)
  · skip
    refine x_goto (tgt := 1979) dL_law_1692 rfl ?_
    exact x_wid (by omega) (by omega) (k _ _)
theorem cs_ringer {ω : Wd} {i : Int32} {m : Mm} (hI : Inv m) (h1 : zIn (i + 1) (oL ω)) (h2 : zIn (i + 2) (oL ω)) : Cs ω i m 1695 := by
  obtain ⟨kk, mh, b, m2, e1, e2, hI2, h8, h9⟩ := hB_agree hk_IAS (fun e g1 g2 => ne_13 g1 g2) (b_ringer hI (ox ω (zIx (i + 1))) (ox ω (zIx (i + 2))))
  refine ⟨m2, hI2, fun α φ t c0 s0 o5 o6 hc k => ?_⟩
  refine x_aload_n dL_law_1695 rfl ?_
  refine x_aload_n dL_law_1696 rfl ?_
  refine x_iload dL_law_1697 rfl ?_
  refine x_iconst (v := 1) dL_law_1699 rfl ?_
  refine x_iadd dL_law_1700 ?_
  refine x_sldK h1 dL_law_1701 ?_
  refine x_aload_n dL_law_1702 rfl ?_
  refine x_iload dL_law_1703 rfl ?_
  refine x_iconst (v := 2) dL_law_1705 rfl ?_
  refine x_iadd dL_law_1706 ?_
  refine x_sldK h2 dL_law_1707 ?_
  refine x_aload_n dL_law_1708 rfl ?_
  refine x_callSK (w0 := 0) (m' := mh) (As := [.ref (zad ω 16), .int (ox ω (zIx (i + 1))), .int (ox ω (zIx (i + 2))), .ref (zad ω 229)]) (rest := []) e1 (c_L_ringer ω (ox ω (zIx (i + 1))) (ox ω (zIx (i + 2))) m) mh_204 rfl (Nat.le_of_ble_eq_true rfl) (Nat.le_of_ble_eq_true rfl) (Nat.le_of_ble_eq_true rfl) ⟨by omega, by omega⟩ dL_law_1709 ?_
  refine x_istore dL_law_1712 (Nat.le_of_ble_eq_true rfl) rfl ?_
  refine x_aload_n dL_law_1714 rfl ?_
  refine x_aload_n dL_law_1715 rfl ?_
  refine x_iload dL_law_1716 rfl ?_
  refine x_iconst (v := 1) dL_law_1718 rfl ?_
  refine x_iadd dL_law_1719 ?_
  refine x_sldK h1 dL_law_1720 ?_
  refine x_aload_n dL_law_1721 rfl ?_
  refine x_iload dL_law_1722 rfl ?_
  refine x_iconst (v := 2) dL_law_1724 rfl ?_
  refine x_iadd dL_law_1725 ?_
  refine x_sldK h2 dL_law_1726 ?_
  refine x_callVK (a := 201) (m' := m2) (v := .int b) (As := [.int (ox ω (zIx (i + 1))), .int (ox ω (zIx (i + 2)))]) (rest := []) e2 rfl (c_Mod_ringer ω (ox ω (zIx (i + 1))) (ox ω (zIx (i + 2))) mh) mv_RL_206 rfl (Or.inl rfl) rfl (Nat.le_of_ble_eq_true rfl) (Nat.le_of_ble_eq_true rfl) (Nat.le_of_ble_eq_true rfl) ⟨by omega, by omega⟩ dL_law_1727 ?_
  refine x_istore dL_law_1730 (Nat.le_of_ble_eq_true rfl) rfl ?_
  refine x_aload_n dL_law_1732 rfl ?_
  refine x_callVK (a := 201) (m' := m2) (v := .int (zI m2 201 0)) (As := []) (rest := []) (show f_Mod_thrown m2 = some (zI m2 201 0) from rfl) (show fP m2 (zI m2 201 0) = (.inl (some (.int (zI m2 201 0))), m2) from rfl) (c_Mod_thrown ω m2) mv_RL_111 rfl (Or.inl rfl) rfl (Nat.le_of_ble_eq_true rfl) (Nat.le_of_ble_eq_true rfl) (Nat.le_of_ble_eq_true rfl) ⟨by omega, by omega⟩ dL_law_1733 ?_
  refine x_iload dL_law_1736 rfl ?_
  refine x_sameK (tgt := 1743) h8 dL_law_1738 rfl ?_
  refine x_iload dL_law_1743 rfl ?_
  refine x_neK (tgt := 1760) dL_law_1745 rfl (fun hz => ?_) (fun _ => ?_)
  · skip
    refine x_aload_n dL_law_1748 rfl ?_
    refine x_iconst (v := 0) dL_law_1749 rfl ?_
    refine x_outK (Or.inl rfl) dL_law_1750 ?_
    refine x_iload dL_law_1751 rfl ?_
    refine x_i2l dL_law_1753 ?_
    refine x_lcmpK (h9 hz) dL_law_1754 ?_
    refine x_zeroK (tgt := 1760) dL_law_1755 rfl ?_
    refine x_goto (tgt := 1979) dL_law_1760 rfl ?_
    exact x_wid (by omega) (by omega) (k _ _)
  · skip
    refine x_goto (tgt := 1979) dL_law_1760 rfl ?_
    exact x_wid (by omega) (by omega) (k _ _)
theorem cs_rings {ω : Wd} {i : Int32} {m : Mm} (hI : Inv m) (h1 : zIn (i + 1) (oL ω)) (h2 : zIn (i + 2) (oL ω)) (h3 : zIn (i + 3) (oL ω)) (h4 : zIn (i + 4) (oL ω)) : Cs ω i m 1763 := by
  obtain ⟨kk, mh, b, m2, e1, e2, hI2, h8, h9⟩ := hB_agree hk_IA (fun e g1 g2 => ne_13 g1 g2) (b_rings hI (ox ω (zIx (i + 1))) (ox ω (zIx (i + 2))) (ox ω (zIx (i + 3))) (ox ω (zIx (i + 4))))
  refine ⟨m2, hI2, fun α φ t c0 s0 o5 o6 hc k => ?_⟩
  refine x_aload_n dL_law_1763 rfl ?_
  refine x_aload_n dL_law_1764 rfl ?_
  refine x_iload dL_law_1765 rfl ?_
  refine x_iconst (v := 1) dL_law_1767 rfl ?_
  refine x_iadd dL_law_1768 ?_
  refine x_sldK h1 dL_law_1769 ?_
  refine x_aload_n dL_law_1770 rfl ?_
  refine x_iload dL_law_1771 rfl ?_
  refine x_iconst (v := 2) dL_law_1773 rfl ?_
  refine x_iadd dL_law_1774 ?_
  refine x_sldK h2 dL_law_1775 ?_
  refine x_aload_n dL_law_1776 rfl ?_
  refine x_iload dL_law_1777 rfl ?_
  refine x_iconst (v := 3) dL_law_1779 rfl ?_
  refine x_iadd dL_law_1780 ?_
  refine x_sldK h3 dL_law_1781 ?_
  refine x_aload_n dL_law_1782 rfl ?_
  refine x_iload dL_law_1783 rfl ?_
  refine x_iconst (v := 4) dL_law_1785 rfl ?_
  refine x_iadd dL_law_1786 ?_
  refine x_sldK h4 dL_law_1787 ?_
  refine x_aload_n dL_law_1788 rfl ?_
  refine x_callSK (w0 := 0) (m' := mh) (As := [.ref (zad ω 16), .int (ox ω (zIx (i + 1))), .int (ox ω (zIx (i + 2))), .int (ox ω (zIx (i + 3))), .int (ox ω (zIx (i + 4))), .ref (zad ω 229)]) (rest := []) e1 (c_L_rings ω (ox ω (zIx (i + 1))) (ox ω (zIx (i + 2))) (ox ω (zIx (i + 3))) (ox ω (zIx (i + 4))) m) mh_207 rfl (Nat.le_of_ble_eq_true rfl) (Nat.le_of_ble_eq_true rfl) (Nat.le_of_ble_eq_true rfl) ⟨by omega, by omega⟩ dL_law_1789 ?_
  refine x_istore dL_law_1792 (Nat.le_of_ble_eq_true rfl) rfl ?_
  refine x_aload_n dL_law_1794 rfl ?_
  refine x_aload_n dL_law_1795 rfl ?_
  refine x_iload dL_law_1796 rfl ?_
  refine x_iconst (v := 1) dL_law_1798 rfl ?_
  refine x_iadd dL_law_1799 ?_
  refine x_sldK h1 dL_law_1800 ?_
  refine x_aload_n dL_law_1801 rfl ?_
  refine x_iload dL_law_1802 rfl ?_
  refine x_iconst (v := 2) dL_law_1804 rfl ?_
  refine x_iadd dL_law_1805 ?_
  refine x_sldK h2 dL_law_1806 ?_
  refine x_aload_n dL_law_1807 rfl ?_
  refine x_iload dL_law_1808 rfl ?_
  refine x_iconst (v := 3) dL_law_1810 rfl ?_
  refine x_iadd dL_law_1811 ?_
  refine x_sldK h3 dL_law_1812 ?_
  refine x_aload_n dL_law_1813 rfl ?_
  refine x_iload dL_law_1814 rfl ?_
  refine x_iconst (v := 4) dL_law_1816 rfl ?_
  refine x_iadd dL_law_1817 ?_
  refine x_sldK h4 dL_law_1818 ?_
  refine x_callVK (a := 201) (m' := m2) (v := .int b) (As := [.int (ox ω (zIx (i + 1))), .int (ox ω (zIx (i + 2))), .int (ox ω (zIx (i + 3))), .int (ox ω (zIx (i + 4)))]) (rest := []) e2 rfl (c_Mod_rings ω (ox ω (zIx (i + 1))) (ox ω (zIx (i + 2))) (ox ω (zIx (i + 3))) (ox ω (zIx (i + 4))) mh) mv_RL_210 rfl (Or.inl rfl) rfl (Nat.le_of_ble_eq_true rfl) (Nat.le_of_ble_eq_true rfl) (Nat.le_of_ble_eq_true rfl) ⟨by omega, by omega⟩ dL_law_1819 ?_
  refine x_istore dL_law_1822 (Nat.le_of_ble_eq_true rfl) rfl ?_
  refine x_aload_n dL_law_1824 rfl ?_
  refine x_callVK (a := 201) (m' := m2) (v := .int (zI m2 201 0)) (As := []) (rest := []) (show f_Mod_thrown m2 = some (zI m2 201 0) from rfl) (show fP m2 (zI m2 201 0) = (.inl (some (.int (zI m2 201 0))), m2) from rfl) (c_Mod_thrown ω m2) mv_RL_111 rfl (Or.inl rfl) rfl (Nat.le_of_ble_eq_true rfl) (Nat.le_of_ble_eq_true rfl) (Nat.le_of_ble_eq_true rfl) ⟨by omega, by omega⟩ dL_law_1825 ?_
  refine x_iload dL_law_1828 rfl ?_
  refine x_sameK (tgt := 1835) h8 dL_law_1830 rfl ?_
  refine x_iload dL_law_1835 rfl ?_
  refine x_neK (tgt := 1852) dL_law_1837 rfl (fun hz => ?_) (fun _ => ?_)
  · skip
    refine x_aload_n dL_law_1840 rfl ?_
    refine x_iconst (v := 0) dL_law_1841 rfl ?_
    refine x_outK (Or.inl rfl) dL_law_1842 ?_
    refine x_iload dL_law_1843 rfl ?_
    refine x_i2l dL_law_1845 ?_
    refine x_lcmpK (h9 hz) dL_law_1846 ?_
    refine x_zeroK (tgt := 1852) dL_law_1847 rfl ?_
    refine x_goto (tgt := 1979) dL_law_1852 rfl ?_
    exact x_wid (by omega) (by omega) (k _ _)
  · skip
    refine x_goto (tgt := 1979) dL_law_1852 rfl ?_
    exact x_wid (by omega) (by omega) (k _ _)
theorem cs_silent {ω : Wd} {i : Int32} {m : Mm} (hI : Inv m) (h1 : zIn (i + 1) (oL ω)) : Cs ω i m 1855 := by
  obtain ⟨kk, mh, b, m2, e1, e2, hI2, h8, h9⟩ := hB_agree hk_A (fun e g1 g2 => ne_13 g1 g2) (b_silent hI (ox ω (zIx (i + 1))))
  refine ⟨m2, hI2, fun α φ t c0 s0 o5 o6 hc k => ?_⟩
  refine x_aload_n dL_law_1855 rfl ?_
  refine x_aload_n dL_law_1856 rfl ?_
  refine x_iload dL_law_1857 rfl ?_
  refine x_iconst (v := 1) dL_law_1859 rfl ?_
  refine x_iadd dL_law_1860 ?_
  refine x_sldK h1 dL_law_1861 ?_
  refine x_aload_n dL_law_1862 rfl ?_
  refine x_callSK (w0 := 0) (m' := mh) (As := [.ref (zad ω 16), .int (ox ω (zIx (i + 1))), .ref (zad ω 229)]) (rest := []) e1 (c_L_silent ω (ox ω (zIx (i + 1))) m) mh_211 rfl (Nat.le_of_ble_eq_true rfl) (Nat.le_of_ble_eq_true rfl) (Nat.le_of_ble_eq_true rfl) ⟨by omega, by omega⟩ dL_law_1863 ?_
  refine x_istore dL_law_1866 (Nat.le_of_ble_eq_true rfl) rfl ?_
  refine x_aload_n dL_law_1868 rfl ?_
  refine x_aload_n dL_law_1869 rfl ?_
  refine x_iload dL_law_1870 rfl ?_
  refine x_iconst (v := 1) dL_law_1872 rfl ?_
  refine x_iadd dL_law_1873 ?_
  refine x_sldK h1 dL_law_1874 ?_
  refine x_callVK (a := 201) (m' := m2) (v := .int b) (As := [.int (ox ω (zIx (i + 1)))]) (rest := []) e2 rfl (c_Mod_silent ω (ox ω (zIx (i + 1))) mh) mv_RL_213 rfl (Or.inl rfl) rfl (Nat.le_of_ble_eq_true rfl) (Nat.le_of_ble_eq_true rfl) (Nat.le_of_ble_eq_true rfl) ⟨by omega, by omega⟩ dL_law_1875 ?_
  refine x_istore dL_law_1878 (Nat.le_of_ble_eq_true rfl) rfl ?_
  refine x_aload_n dL_law_1880 rfl ?_
  refine x_callVK (a := 201) (m' := m2) (v := .int (zI m2 201 0)) (As := []) (rest := []) (show f_Mod_thrown m2 = some (zI m2 201 0) from rfl) (show fP m2 (zI m2 201 0) = (.inl (some (.int (zI m2 201 0))), m2) from rfl) (c_Mod_thrown ω m2) mv_RL_111 rfl (Or.inl rfl) rfl (Nat.le_of_ble_eq_true rfl) (Nat.le_of_ble_eq_true rfl) (Nat.le_of_ble_eq_true rfl) ⟨by omega, by omega⟩ dL_law_1881 ?_
  refine x_iload dL_law_1884 rfl ?_
  refine x_sameK (tgt := 1891) h8 dL_law_1886 rfl ?_
  refine x_iload dL_law_1891 rfl ?_
  refine x_neK (tgt := 1908) dL_law_1893 rfl (fun hz => ?_) (fun _ => ?_)
  · skip
    refine x_aload_n dL_law_1896 rfl ?_
    refine x_iconst (v := 0) dL_law_1897 rfl ?_
    refine x_outK (Or.inl rfl) dL_law_1898 ?_
    refine x_iload dL_law_1899 rfl ?_
    refine x_i2l dL_law_1901 ?_
    refine x_lcmpK (h9 hz) dL_law_1902 ?_
    refine x_zeroK (tgt := 1908) dL_law_1903 rfl ?_
    refine x_goto (tgt := 1979) dL_law_1908 rfl ?_
    exact x_wid (by omega) (by omega) (k _ _)
  · skip
    refine x_goto (tgt := 1979) dL_law_1908 rfl ?_
    exact x_wid (by omega) (by omega) (k _ _)
theorem cs_peals {ω : Wd} {i : Int32} {m : Mm} (hI : Inv m) (h1 : zIn (i + 1) (oL ω)) (h2 : zIn (i + 2) (oL ω)) : Cs ω i m 1911 := by
  obtain ⟨kk, mh, b, m2, e1, e2, hI2, h8, h9⟩ := hB_agree hk_IA (fun e g1 g2 => ne_13 g1 g2) (b_peals hI (ox ω (zIx (i + 1))) (ox ω (zIx (i + 2))))
  refine ⟨m2, hI2, fun α φ t c0 s0 o5 o6 hc k => ?_⟩
  refine x_aload_n dL_law_1911 rfl ?_
  refine x_aload_n dL_law_1912 rfl ?_
  refine x_iload dL_law_1913 rfl ?_
  refine x_iconst (v := 1) dL_law_1915 rfl ?_
  refine x_iadd dL_law_1916 ?_
  refine x_sldK h1 dL_law_1917 ?_
  refine x_aload_n dL_law_1918 rfl ?_
  refine x_iload dL_law_1919 rfl ?_
  refine x_iconst (v := 2) dL_law_1921 rfl ?_
  refine x_iadd dL_law_1922 ?_
  refine x_sldK h2 dL_law_1923 ?_
  refine x_aload_n dL_law_1924 rfl ?_
  refine x_callSK (w0 := 0) (m' := mh) (As := [.ref (zad ω 16), .int (ox ω (zIx (i + 1))), .int (ox ω (zIx (i + 2))), .ref (zad ω 229)]) (rest := []) e1 (c_L_peals ω (ox ω (zIx (i + 1))) (ox ω (zIx (i + 2))) m) mh_214 rfl (Nat.le_of_ble_eq_true rfl) (Nat.le_of_ble_eq_true rfl) (Nat.le_of_ble_eq_true rfl) ⟨by omega, by omega⟩ dL_law_1925 ?_
  refine x_istore dL_law_1928 (Nat.le_of_ble_eq_true rfl) rfl ?_
  refine x_aload_n dL_law_1930 rfl ?_
  refine x_aload_n dL_law_1931 rfl ?_
  refine x_iload dL_law_1932 rfl ?_
  refine x_iconst (v := 1) dL_law_1934 rfl ?_
  refine x_iadd dL_law_1935 ?_
  refine x_sldK h1 dL_law_1936 ?_
  refine x_aload_n dL_law_1937 rfl ?_
  refine x_iload dL_law_1938 rfl ?_
  refine x_iconst (v := 2) dL_law_1940 rfl ?_
  refine x_iadd dL_law_1941 ?_
  refine x_sldK h2 dL_law_1942 ?_
  refine x_callVK (a := 201) (m' := m2) (v := .int b) (As := [.int (ox ω (zIx (i + 1))), .int (ox ω (zIx (i + 2)))]) (rest := []) e2 rfl (c_Mod_peals ω (ox ω (zIx (i + 1))) (ox ω (zIx (i + 2))) mh) mv_RL_216 rfl (Or.inl rfl) rfl (Nat.le_of_ble_eq_true rfl) (Nat.le_of_ble_eq_true rfl) (Nat.le_of_ble_eq_true rfl) ⟨by omega, by omega⟩ dL_law_1943 ?_
  refine x_istore dL_law_1946 (Nat.le_of_ble_eq_true rfl) rfl ?_
  refine x_aload_n dL_law_1948 rfl ?_
  refine x_callVK (a := 201) (m' := m2) (v := .int (zI m2 201 0)) (As := []) (rest := []) (show f_Mod_thrown m2 = some (zI m2 201 0) from rfl) (show fP m2 (zI m2 201 0) = (.inl (some (.int (zI m2 201 0))), m2) from rfl) (c_Mod_thrown ω m2) mv_RL_111 rfl (Or.inl rfl) rfl (Nat.le_of_ble_eq_true rfl) (Nat.le_of_ble_eq_true rfl) (Nat.le_of_ble_eq_true rfl) ⟨by omega, by omega⟩ dL_law_1949 ?_
  refine x_iload dL_law_1952 rfl ?_
  refine x_sameK (tgt := 1959) h8 dL_law_1954 rfl ?_
  refine x_iload dL_law_1959 rfl ?_
  refine x_neK (tgt := 1976) dL_law_1961 rfl (fun hz => ?_) (fun _ => ?_)
  · skip
    refine x_aload_n dL_law_1964 rfl ?_
    refine x_iconst (v := 0) dL_law_1965 rfl ?_
    refine x_outK (Or.inl rfl) dL_law_1966 ?_
    refine x_iload dL_law_1967 rfl ?_
    refine x_i2l dL_law_1969 ?_
    refine x_lcmpK (h9 hz) dL_law_1970 ?_
    refine x_zeroK (tgt := 1976) dL_law_1971 rfl ?_
    refine x_goto (tgt := 1979) dL_law_1976 rfl ?_
    exact x_wid (by omega) (by omega) (k _ _)
  · skip
    refine x_goto (tgt := 1979) dL_law_1976 rfl ?_
    exact x_wid (by omega) (by omega) (k _ _)
