/-! the law's thirty calls -/
section LC
variable {p : Program} {l : Launch} {e : Env} {s : State} {m : MethodId} {below : List Frame} {meth : Method} {c : Code} {D : va_G} {aa bb : Nat → Nat} {cI cZ cJ : ClassId} {tR tU b L : Nat} {xs : Nat → Int32} {σ τ : xSt} {i : Nat}
set_option maxHeartbeats 4000000 in
set_option maxRecDepth 100000 in
theorem law_c0 (F : LF p s m meth c D cI cZ cJ tR tU b L xs) (hL : L ≤ 2560) (hi : i + 5 ≤ L) (hR : RR σ τ) (K : ∀ σ' τ' : xSt, RR σ' τ' → GL p l e s m b below meth c D aa bb cI cZ cJ σ' τ' 1066 (lvL aa bb b i) []) : GL p l e s m b below meth c D aa bb cI cZ cJ σ τ 168 (lvL aa bb b i) [] := by
  have hts := F.2.2.2.2.1
  refine gl_al1 F dL_law_168 ?_
  refine gl_arg F hL 1 (by omega) rfl dL_law_169 dL_law_170 dL_law_171 dL_law_172 dL_law_173 ?_
  refine gl_callX (As := [.int (xI ((xs (i + 1)).toInt))]) (rest := []) F (c_X9_step l D aa cI cZ cJ tR tU ((xs (i + 1)).toInt) σ _ (op_step hR (xR_of _))) (cwV 1 hts gL_law_X9_step rfl rfl rfl hd_X9_step ⟨Nat.le_of_ble_eq_true rfl, Nat.le_of_ble_eq_true rfl⟩) rfl rfl (Nat.le_of_ble_eq_true rfl) dL_law_174 (fun r σ' h => ?_)
  refine gl_al2 F dL_law_177 ?_
  refine gl_arg F hL 1 (by omega) rfl dL_law_178 dL_law_179 dL_law_180 dL_law_181 dL_law_182 ?_
  refine gl_callM (As := [.int (xI ((xs (i + 1)).toInt))]) (rest := [.int (xI r)]) F (c_X10_step l D bb cI cZ cJ tR tU ((xs (i + 1)).toInt) τ _ h) (cwV 1 hts gL_law_X10_step rfl rfl rfl hd_X10_step ⟨Nat.le_of_ble_eq_true rfl, Nat.le_of_ble_eq_true rfl⟩) rfl rfl (Nat.le_of_ble_eq_true rfl) dL_law_183 (fun r' τ' h2 => ?_)
  obtain ⟨e2, hR2⟩ := h2
  rw [← e2]
  exact gl_eq F dL_law_186 rfl (K _ _ hR2)
set_option maxHeartbeats 4000000 in
set_option maxRecDepth 100000 in
theorem law_c1 (F : LF p s m meth c D cI cZ cJ tR tU b L xs) (hL : L ≤ 2560) (hi : i + 5 ≤ L) (hR : RR σ τ) (K : ∀ σ' τ' : xSt, RR σ' τ' → GL p l e s m b below meth c D aa bb cI cZ cJ σ' τ' 1066 (lvL aa bb b i) []) : GL p l e s m b below meth c D aa bb cI cZ cJ σ τ 191 (lvL aa bb b i) [] := by
  have hts := F.2.2.2.2.1
  refine gl_al1 F dL_law_191 ?_
  refine gl_arg F hL 1 (by omega) rfl dL_law_192 dL_law_193 dL_law_194 dL_law_195 dL_law_196 ?_
  refine gl_callX (As := [.int (xI ((xs (i + 1)).toInt))]) (rest := []) F (c_X9_back l D aa cI cZ cJ tR tU ((xs (i + 1)).toInt) σ _ (op_back hR (xR_of _))) (cwV 1 hts gL_law_X9_back rfl rfl rfl hd_X9_back ⟨Nat.le_of_ble_eq_true rfl, Nat.le_of_ble_eq_true rfl⟩) rfl rfl (Nat.le_of_ble_eq_true rfl) dL_law_197 (fun r σ' h => ?_)
  refine gl_al2 F dL_law_200 ?_
  refine gl_arg F hL 1 (by omega) rfl dL_law_201 dL_law_202 dL_law_203 dL_law_204 dL_law_205 ?_
  refine gl_callM (As := [.int (xI ((xs (i + 1)).toInt))]) (rest := [.int (xI r)]) F (c_X10_back l D bb cI cZ cJ tR tU ((xs (i + 1)).toInt) τ _ h) (cwV 1 hts gL_law_X10_back rfl rfl rfl hd_X10_back ⟨Nat.le_of_ble_eq_true rfl, Nat.le_of_ble_eq_true rfl⟩) rfl rfl (Nat.le_of_ble_eq_true rfl) dL_law_206 (fun r' τ' h2 => ?_)
  obtain ⟨e2, hR2⟩ := h2
  rw [← e2]
  exact gl_eq F dL_law_209 rfl (K _ _ hR2)
set_option maxHeartbeats 4000000 in
set_option maxRecDepth 100000 in
theorem law_c2 (F : LF p s m meth c D cI cZ cJ tR tU b L xs) (hL : L ≤ 2560) (hi : i + 5 ≤ L) (hR : RR σ τ) (K : ∀ σ' τ' : xSt, RR σ' τ' → GL p l e s m b below meth c D aa bb cI cZ cJ σ' τ' 1066 (lvL aa bb b i) []) : GL p l e s m b below meth c D aa bb cI cZ cJ σ τ 214 (lvL aa bb b i) [] := by
  have hts := F.2.2.2.2.1
  refine gl_al1 F dL_law_214 ?_
  refine gl_arg F hL 1 (by omega) rfl dL_law_215 dL_law_216 dL_law_217 dL_law_218 dL_law_219 ?_
  refine gl_callX (As := [.int (xI ((xs (i + 1)).toInt))]) (rest := []) F (c_X9_way l D aa cI cZ cJ tR tU ((xs (i + 1)).toInt) σ _ (op_way hR (xR_of _))) (cwV 1 hts gL_law_X9_way rfl rfl rfl hd_X9_way ⟨Nat.le_of_ble_eq_true rfl, Nat.le_of_ble_eq_true rfl⟩) rfl rfl (Nat.le_of_ble_eq_true rfl) dL_law_220 (fun r σ' h => ?_)
  obtain ⟨e9, h⟩ := h
  rw [e9]
  refine gl_al2 F dL_law_223 ?_
  refine gl_arg F hL 1 (by omega) rfl dL_law_224 dL_law_225 dL_law_226 dL_law_227 dL_law_228 ?_
  refine gl_callM (As := [.int (xI ((xs (i + 1)).toInt))]) (rest := [.int (xI r)]) F (c_X10_way l D bb cI cZ cJ tR tU ((xs (i + 1)).toInt) τ _ h) (cwV 1 hts gL_law_X10_way rfl rfl rfl hd_X10_way ⟨Nat.le_of_ble_eq_true rfl, Nat.le_of_ble_eq_true rfl⟩) rfl rfl (Nat.le_of_ble_eq_true rfl) dL_law_229 (fun r' τ' h2 => ?_)
  obtain ⟨e2, hR2⟩ := h2
  rw [← e2]
  exact gl_eq F dL_law_232 rfl (K _ _ hR2)
set_option maxHeartbeats 4000000 in
set_option maxRecDepth 100000 in
theorem law_c3 (F : LF p s m meth c D cI cZ cJ tR tU b L xs) (hL : L ≤ 2560) (hi : i + 5 ≤ L) (hR : RR σ τ) (K : ∀ σ' τ' : xSt, RR σ' τ' → GL p l e s m b below meth c D aa bb cI cZ cJ σ' τ' 1066 (lvL aa bb b i) []) : GL p l e s m b below meth c D aa bb cI cZ cJ σ τ 237 (lvL aa bb b i) [] := by
  have hts := F.2.2.2.2.1
  refine gl_al1 F dL_law_237 ?_
  refine gl_arg F hL 1 (by omega) rfl dL_law_238 dL_law_239 dL_law_240 dL_law_241 dL_law_242 ?_
  refine gl_arg F hL 2 (by omega) rfl dL_law_243 dL_law_244 dL_law_245 dL_law_246 dL_law_247 ?_
  refine gl_bool F (xR_of _) dL_law_248 dL_law_251 dL_law_252 dL_law_255 ?_
  refine gl_callX (As := [.int (xI ((xs (i + 1)).toInt)), .int (xI (bI ((xs (i + 2)).toInt ≠ 0)))]) (rest := []) F (c_X9_place l D aa cI cZ cJ tR tU ((xs (i + 1)).toInt) (bI ((xs (i + 2)).toInt ≠ 0)) σ _ (op_place hR (xR_of _) (bI_R _))) (cwV 2 hts gL_law_X9_place rfl rfl rfl hd_X9_place ⟨Nat.le_of_ble_eq_true rfl, Nat.le_of_ble_eq_true rfl⟩) rfl rfl (Nat.le_of_ble_eq_true rfl) dL_law_256 (fun r σ' h => ?_)
  obtain ⟨e9, h⟩ := h
  rw [e9]
  refine gl_al2 F dL_law_259 ?_
  refine gl_arg F hL 1 (by omega) rfl dL_law_260 dL_law_261 dL_law_262 dL_law_263 dL_law_264 ?_
  refine gl_arg F hL 2 (by omega) rfl dL_law_265 dL_law_266 dL_law_267 dL_law_268 dL_law_269 ?_
  refine gl_bool F (xR_of _) dL_law_270 dL_law_273 dL_law_274 dL_law_277 ?_
  refine gl_callM (As := [.int (xI ((xs (i + 1)).toInt)), .int (xI (bI ((xs (i + 2)).toInt ≠ 0)))]) (rest := [.int (xI r)]) F (c_X10_place l D bb cI cZ cJ tR tU ((xs (i + 1)).toInt) (bI ((xs (i + 2)).toInt ≠ 0)) τ _ h) (cwV 2 hts gL_law_X10_place rfl rfl rfl hd_X10_place ⟨Nat.le_of_ble_eq_true rfl, Nat.le_of_ble_eq_true rfl⟩) rfl rfl (Nat.le_of_ble_eq_true rfl) dL_law_278 (fun r' τ' h2 => ?_)
  obtain ⟨e2, hR2⟩ := h2
  rw [← e2]
  exact gl_eq F dL_law_281 rfl (K _ _ hR2)
set_option maxHeartbeats 4000000 in
set_option maxRecDepth 100000 in
theorem law_c4 (F : LF p s m meth c D cI cZ cJ tR tU b L xs) (hL : L ≤ 2560) (hi : i + 5 ≤ L) (hR : RR σ τ) (K : ∀ σ' τ' : xSt, RR σ' τ' → GL p l e s m b below meth c D aa bb cI cZ cJ σ' τ' 1066 (lvL aa bb b i) []) : GL p l e s m b below meth c D aa bb cI cZ cJ σ τ 286 (lvL aa bb b i) [] := by
  have hts := F.2.2.2.2.1
  refine gl_al1 F dL_law_286 ?_
  refine gl_arg F hL 1 (by omega) rfl dL_law_287 dL_law_288 dL_law_289 dL_law_290 dL_law_291 ?_
  refine gl_arg F hL 2 (by omega) rfl dL_law_292 dL_law_293 dL_law_294 dL_law_295 dL_law_296 ?_
  refine gl_callX (As := [.int (xI ((xs (i + 1)).toInt)), .int (xI ((xs (i + 2)).toInt))]) (rest := []) F (c_X9_draw l D aa cI cZ cJ tR tU ((xs (i + 1)).toInt) ((xs (i + 2)).toInt) σ _ (op_draw hR (xR_of _) (xR_of _))) (cwV 2 hts gL_law_X9_draw rfl rfl rfl hd_X9_draw ⟨Nat.le_of_ble_eq_true rfl, Nat.le_of_ble_eq_true rfl⟩) rfl rfl (Nat.le_of_ble_eq_true rfl) dL_law_297 (fun r σ' h => ?_)
  refine gl_al2 F dL_law_300 ?_
  refine gl_arg F hL 1 (by omega) rfl dL_law_301 dL_law_302 dL_law_303 dL_law_304 dL_law_305 ?_
  refine gl_arg F hL 2 (by omega) rfl dL_law_306 dL_law_307 dL_law_308 dL_law_309 dL_law_310 ?_
  refine gl_callM (As := [.int (xI ((xs (i + 1)).toInt)), .int (xI ((xs (i + 2)).toInt))]) (rest := [.int (xI r)]) F (c_X10_draw l D bb cI cZ cJ tR tU ((xs (i + 1)).toInt) ((xs (i + 2)).toInt) τ _ h) (cwV 2 hts gL_law_X10_draw rfl rfl rfl hd_X10_draw ⟨Nat.le_of_ble_eq_true rfl, Nat.le_of_ble_eq_true rfl⟩) rfl rfl (Nat.le_of_ble_eq_true rfl) dL_law_311 (fun r' τ' h2 => ?_)
  obtain ⟨e2, hR2⟩ := h2
  rw [← e2]
  exact gl_eq F dL_law_314 rfl (K _ _ hR2)
set_option maxHeartbeats 4000000 in
set_option maxRecDepth 100000 in
theorem law_c5 (F : LF p s m meth c D cI cZ cJ tR tU b L xs) (hL : L ≤ 2560) (hi : i + 5 ≤ L) (hR : RR σ τ) (K : ∀ σ' τ' : xSt, RR σ' τ' → GL p l e s m b below meth c D aa bb cI cZ cJ σ' τ' 1066 (lvL aa bb b i) []) : GL p l e s m b below meth c D aa bb cI cZ cJ σ τ 319 (lvL aa bb b i) [] := by
  have hts := F.2.2.2.2.1
  refine gl_al1 F dL_law_319 ?_
  refine gl_arg F hL 1 (by omega) rfl dL_law_320 dL_law_321 dL_law_322 dL_law_323 dL_law_324 ?_
  refine gl_arg F hL 2 (by omega) rfl dL_law_325 dL_law_326 dL_law_327 dL_law_328 dL_law_329 ?_
  refine gl_arg F hL 3 (by omega) rfl dL_law_330 dL_law_331 dL_law_332 dL_law_333 dL_law_334 ?_
  refine gl_callX (As := [.int (xI ((xs (i + 1)).toInt)), .int (xI ((xs (i + 2)).toInt)), .int (xI ((xs (i + 3)).toInt))]) (rest := []) F (c_X9_word l D aa cI cZ cJ tR tU ((xs (i + 1)).toInt) ((xs (i + 2)).toInt) ((xs (i + 3)).toInt) σ _ (op_word hR (xR_of _) (xR_of _) (xR_of _))) (cwV 3 hts gL_law_X9_word rfl rfl rfl hd_X9_word ⟨Nat.le_of_ble_eq_true rfl, Nat.le_of_ble_eq_true rfl⟩) rfl rfl (Nat.le_of_ble_eq_true rfl) dL_law_335 (fun r σ' h => ?_)
  obtain ⟨e9, h⟩ := h
  rw [e9]
  refine gl_al2 F dL_law_338 ?_
  refine gl_arg F hL 1 (by omega) rfl dL_law_339 dL_law_340 dL_law_341 dL_law_342 dL_law_343 ?_
  refine gl_arg F hL 2 (by omega) rfl dL_law_344 dL_law_345 dL_law_346 dL_law_347 dL_law_348 ?_
  refine gl_arg F hL 3 (by omega) rfl dL_law_349 dL_law_350 dL_law_351 dL_law_352 dL_law_353 ?_
  refine gl_callM (As := [.int (xI ((xs (i + 1)).toInt)), .int (xI ((xs (i + 2)).toInt)), .int (xI ((xs (i + 3)).toInt))]) (rest := [.int (xI r)]) F (c_X10_word l D bb cI cZ cJ tR tU ((xs (i + 1)).toInt) ((xs (i + 2)).toInt) ((xs (i + 3)).toInt) τ _ h) (cwV 3 hts gL_law_X10_word rfl rfl rfl hd_X10_word ⟨Nat.le_of_ble_eq_true rfl, Nat.le_of_ble_eq_true rfl⟩) rfl rfl (Nat.le_of_ble_eq_true rfl) dL_law_354 (fun r' τ' h2 => ?_)
  obtain ⟨e2, hR2⟩ := h2
  rw [← e2]
  exact gl_eq F dL_law_357 rfl (K _ _ hR2)
set_option maxHeartbeats 4000000 in
set_option maxRecDepth 100000 in
theorem law_c6 (F : LF p s m meth c D cI cZ cJ tR tU b L xs) (hL : L ≤ 2560) (hi : i + 5 ≤ L) (hR : RR σ τ) (K : ∀ σ' τ' : xSt, RR σ' τ' → GL p l e s m b below meth c D aa bb cI cZ cJ σ' τ' 1066 (lvL aa bb b i) []) : GL p l e s m b below meth c D aa bb cI cZ cJ σ τ 362 (lvL aa bb b i) [] := by
  have hts := F.2.2.2.2.1
  refine gl_al1 F dL_law_362 ?_
  refine gl_arg F hL 1 (by omega) rfl dL_law_363 dL_law_364 dL_law_365 dL_law_366 dL_law_367 ?_
  refine gl_arg F hL 2 (by omega) rfl dL_law_368 dL_law_369 dL_law_370 dL_law_371 dL_law_372 ?_
  refine gl_callX (As := [.int (xI ((xs (i + 1)).toInt)), .int (xI ((xs (i + 2)).toInt))]) (rest := []) F (c_X9_straight l D aa cI cZ cJ tR tU ((xs (i + 1)).toInt) ((xs (i + 2)).toInt) σ _ (op_straight hR (xR_of _) (xR_of _))) (cwV 2 hts gL_law_X9_straight rfl rfl rfl hd_X9_straight ⟨Nat.le_of_ble_eq_true rfl, Nat.le_of_ble_eq_true rfl⟩) rfl rfl (Nat.le_of_ble_eq_true rfl) dL_law_373 (fun r σ' h => ?_)
  refine gl_al2 F dL_law_376 ?_
  refine gl_arg F hL 1 (by omega) rfl dL_law_377 dL_law_378 dL_law_379 dL_law_380 dL_law_381 ?_
  refine gl_arg F hL 2 (by omega) rfl dL_law_382 dL_law_383 dL_law_384 dL_law_385 dL_law_386 ?_
  refine gl_callM (As := [.int (xI ((xs (i + 1)).toInt)), .int (xI ((xs (i + 2)).toInt))]) (rest := [.int (xI r)]) F (c_X10_straight l D bb cI cZ cJ tR tU ((xs (i + 1)).toInt) ((xs (i + 2)).toInt) τ _ h) (cwV 2 hts gL_law_X10_straight rfl rfl rfl hd_X10_straight ⟨Nat.le_of_ble_eq_true rfl, Nat.le_of_ble_eq_true rfl⟩) rfl rfl (Nat.le_of_ble_eq_true rfl) dL_law_387 (fun r' τ' h2 => ?_)
  obtain ⟨e2, hR2⟩ := h2
  rw [← e2]
  exact gl_eq F dL_law_390 rfl (K _ _ hR2)
set_option maxHeartbeats 4000000 in
set_option maxRecDepth 100000 in
theorem law_c7 (F : LF p s m meth c D cI cZ cJ tR tU b L xs) (hL : L ≤ 2560) (hi : i + 5 ≤ L) (hR : RR σ τ) (K : ∀ σ' τ' : xSt, RR σ' τ' → GL p l e s m b below meth c D aa bb cI cZ cJ σ' τ' 1066 (lvL aa bb b i) []) : GL p l e s m b below meth c D aa bb cI cZ cJ σ τ 395 (lvL aa bb b i) [] := by
  have hts := F.2.2.2.2.1
  refine gl_al1 F dL_law_395 ?_
  refine gl_arg F hL 1 (by omega) rfl dL_law_396 dL_law_397 dL_law_398 dL_law_399 dL_law_400 ?_
  refine gl_arg F hL 2 (by omega) rfl dL_law_401 dL_law_402 dL_law_403 dL_law_404 dL_law_405 ?_
  refine gl_arg F hL 3 (by omega) rfl dL_law_406 dL_law_407 dL_law_408 dL_law_409 dL_law_410 ?_
  refine gl_bool F (xR_of _) dL_law_411 dL_law_414 dL_law_415 dL_law_418 ?_
  refine gl_arg F hL 4 (by omega) rfl dL_law_419 dL_law_420 dL_law_421 dL_law_422 dL_law_423 ?_
  refine gl_bool F (xR_of _) dL_law_424 dL_law_427 dL_law_428 dL_law_431 ?_
  refine gl_callX (As := [.int (xI ((xs (i + 1)).toInt)), .int (xI ((xs (i + 2)).toInt)), .int (xI (bI ((xs (i + 3)).toInt ≠ 0))), .int (xI (bI ((xs (i + 4)).toInt ≠ 0)))]) (rest := []) F (c_X9_span l D aa cI cZ cJ tR tU ((xs (i + 1)).toInt) ((xs (i + 2)).toInt) (bI ((xs (i + 3)).toInt ≠ 0)) (bI ((xs (i + 4)).toInt ≠ 0)) σ _ (op_span hR (xR_of _) (xR_of _) (bI_R _) (bI_R _))) (cwV 4 hts gL_law_X9_span rfl rfl rfl hd_X9_span ⟨Nat.le_of_ble_eq_true rfl, Nat.le_of_ble_eq_true rfl⟩) rfl rfl (Nat.le_of_ble_eq_true rfl) dL_law_432 (fun r σ' h => ?_)
  refine gl_al2 F dL_law_435 ?_
  refine gl_arg F hL 1 (by omega) rfl dL_law_436 dL_law_437 dL_law_438 dL_law_439 dL_law_440 ?_
  refine gl_arg F hL 2 (by omega) rfl dL_law_441 dL_law_442 dL_law_443 dL_law_444 dL_law_445 ?_
  refine gl_arg F hL 3 (by omega) rfl dL_law_446 dL_law_447 dL_law_448 dL_law_449 dL_law_450 ?_
  refine gl_bool F (xR_of _) dL_law_451 dL_law_454 dL_law_455 dL_law_458 ?_
  refine gl_arg F hL 4 (by omega) rfl dL_law_459 dL_law_460 dL_law_461 dL_law_462 dL_law_463 ?_
  refine gl_bool F (xR_of _) dL_law_464 dL_law_467 dL_law_468 dL_law_471 ?_
  refine gl_callM (As := [.int (xI ((xs (i + 1)).toInt)), .int (xI ((xs (i + 2)).toInt)), .int (xI (bI ((xs (i + 3)).toInt ≠ 0))), .int (xI (bI ((xs (i + 4)).toInt ≠ 0)))]) (rest := [.int (xI r)]) F (c_X10_span l D bb cI cZ cJ tR tU ((xs (i + 1)).toInt) ((xs (i + 2)).toInt) (bI ((xs (i + 3)).toInt ≠ 0)) (bI ((xs (i + 4)).toInt ≠ 0)) τ _ h) (cwV 4 hts gL_law_X10_span rfl rfl rfl hd_X10_span ⟨Nat.le_of_ble_eq_true rfl, Nat.le_of_ble_eq_true rfl⟩) rfl rfl (Nat.le_of_ble_eq_true rfl) dL_law_472 (fun r' τ' h2 => ?_)
  obtain ⟨e2, hR2⟩ := h2
  rw [← e2]
  exact gl_eq F dL_law_475 rfl (K _ _ hR2)
set_option maxHeartbeats 4000000 in
set_option maxRecDepth 100000 in
theorem law_c8 (F : LF p s m meth c D cI cZ cJ tR tU b L xs) (hL : L ≤ 2560) (hi : i + 5 ≤ L) (hR : RR σ τ) (K : ∀ σ' τ' : xSt, RR σ' τ' → GL p l e s m b below meth c D aa bb cI cZ cJ σ' τ' 1066 (lvL aa bb b i) []) : GL p l e s m b below meth c D aa bb cI cZ cJ σ τ 480 (lvL aa bb b i) [] := by
  have hts := F.2.2.2.2.1
  refine gl_al1 F dL_law_480 ?_
  refine gl_arg F hL 1 (by omega) rfl dL_law_481 dL_law_482 dL_law_483 dL_law_484 dL_law_485 ?_
  refine gl_arg F hL 2 (by omega) rfl dL_law_486 dL_law_487 dL_law_488 dL_law_489 dL_law_490 ?_
  refine gl_arg F hL 3 (by omega) rfl dL_law_491 dL_law_492 dL_law_493 dL_law_494 dL_law_495 ?_
  refine gl_bool F (xR_of _) dL_law_496 dL_law_499 dL_law_500 dL_law_503 ?_
  refine gl_callX (As := [.int (xI ((xs (i + 1)).toInt)), .int (xI ((xs (i + 2)).toInt)), .int (xI (bI ((xs (i + 3)).toInt ≠ 0)))]) (rest := []) F (c_X9_plain l D aa cI cZ cJ tR tU ((xs (i + 1)).toInt) ((xs (i + 2)).toInt) (bI ((xs (i + 3)).toInt ≠ 0)) σ _ (op_plain hR (xR_of _) (xR_of _) (bI_R _))) (cwV 3 hts gL_law_X9_plain rfl rfl rfl hd_X9_plain ⟨Nat.le_of_ble_eq_true rfl, Nat.le_of_ble_eq_true rfl⟩) rfl rfl (Nat.le_of_ble_eq_true rfl) dL_law_504 (fun r σ' h => ?_)
  refine gl_al2 F dL_law_507 ?_
  refine gl_arg F hL 1 (by omega) rfl dL_law_508 dL_law_509 dL_law_510 dL_law_511 dL_law_512 ?_
  refine gl_arg F hL 2 (by omega) rfl dL_law_513 dL_law_514 dL_law_515 dL_law_516 dL_law_517 ?_
  refine gl_arg F hL 3 (by omega) rfl dL_law_518 dL_law_519 dL_law_520 dL_law_521 dL_law_522 ?_
  refine gl_bool F (xR_of _) dL_law_523 dL_law_526 dL_law_527 dL_law_530 ?_
  refine gl_callM (As := [.int (xI ((xs (i + 1)).toInt)), .int (xI ((xs (i + 2)).toInt)), .int (xI (bI ((xs (i + 3)).toInt ≠ 0)))]) (rest := [.int (xI r)]) F (c_X10_plain l D bb cI cZ cJ tR tU ((xs (i + 1)).toInt) ((xs (i + 2)).toInt) (bI ((xs (i + 3)).toInt ≠ 0)) τ _ h) (cwV 3 hts gL_law_X10_plain rfl rfl rfl hd_X10_plain ⟨Nat.le_of_ble_eq_true rfl, Nat.le_of_ble_eq_true rfl⟩) rfl rfl (Nat.le_of_ble_eq_true rfl) dL_law_531 (fun r' τ' h2 => ?_)
  obtain ⟨e2, hR2⟩ := h2
  rw [← e2]
  exact gl_eq F dL_law_534 rfl (K _ _ hR2)
set_option maxHeartbeats 4000000 in
set_option maxRecDepth 100000 in
theorem law_c9 (F : LF p s m meth c D cI cZ cJ tR tU b L xs) (hL : L ≤ 2560) (hi : i + 5 ≤ L) (hR : RR σ τ) (K : ∀ σ' τ' : xSt, RR σ' τ' → GL p l e s m b below meth c D aa bb cI cZ cJ σ' τ' 1066 (lvL aa bb b i) []) : GL p l e s m b below meth c D aa bb cI cZ cJ σ τ 539 (lvL aa bb b i) [] := by
  have hts := F.2.2.2.2.1
  refine gl_al1 F dL_law_539 ?_
  refine gl_arg F hL 1 (by omega) rfl dL_law_540 dL_law_541 dL_law_542 dL_law_543 dL_law_544 ?_
  refine gl_bool F (xR_of _) dL_law_545 dL_law_548 dL_law_549 dL_law_552 ?_
  refine gl_callX (As := [.int (xI (bI ((xs (i + 1)).toInt ≠ 0)))]) (rest := []) F (c_X9_longest l D aa cI cZ cJ tR tU (bI ((xs (i + 1)).toInt ≠ 0)) σ _ (op_longest hR (bI_R _))) (cwV 1 hts gL_law_X9_longest rfl rfl rfl hd_X9_longest ⟨Nat.le_of_ble_eq_true rfl, Nat.le_of_ble_eq_true rfl⟩) rfl rfl (Nat.le_of_ble_eq_true rfl) dL_law_553 (fun r σ' h => ?_)
  refine gl_al2 F dL_law_556 ?_
  refine gl_arg F hL 1 (by omega) rfl dL_law_557 dL_law_558 dL_law_559 dL_law_560 dL_law_561 ?_
  refine gl_bool F (xR_of _) dL_law_562 dL_law_565 dL_law_566 dL_law_569 ?_
  refine gl_callM (As := [.int (xI (bI ((xs (i + 1)).toInt ≠ 0)))]) (rest := [.int (xI r)]) F (c_X10_longest l D bb cI cZ cJ tR tU (bI ((xs (i + 1)).toInt ≠ 0)) τ _ h) (cwV 1 hts gL_law_X10_longest rfl rfl rfl hd_X10_longest ⟨Nat.le_of_ble_eq_true rfl, Nat.le_of_ble_eq_true rfl⟩) rfl rfl (Nat.le_of_ble_eq_true rfl) dL_law_570 (fun r' τ' h2 => ?_)
  obtain ⟨e2, hR2⟩ := h2
  rw [← e2]
  exact gl_eq F dL_law_573 rfl (K _ _ hR2)
set_option maxHeartbeats 4000000 in
set_option maxRecDepth 100000 in
theorem law_c10 (F : LF p s m meth c D cI cZ cJ tR tU b L xs) (hL : L ≤ 2560) (hi : i + 5 ≤ L) (hR : RR σ τ) (K : ∀ σ' τ' : xSt, RR σ' τ' → GL p l e s m b below meth c D aa bb cI cZ cJ σ' τ' 1066 (lvL aa bb b i) []) : GL p l e s m b below meth c D aa bb cI cZ cJ σ τ 578 (lvL aa bb b i) [] := by
  have hts := F.2.2.2.2.1
  refine gl_al1 F dL_law_578 ?_
  refine gl_callX (As := []) (rest := []) F (c_X9_pieces l D aa cI cZ cJ tR tU  σ _ (op_pieces hR )) (cwV 0 hts gL_law_X9_pieces rfl rfl rfl hd_X9_pieces ⟨Nat.le_of_ble_eq_true rfl, Nat.le_of_ble_eq_true rfl⟩) rfl rfl (Nat.le_of_ble_eq_true rfl) dL_law_579 (fun r σ' h => ?_)
  refine gl_al2 F dL_law_582 ?_
  refine gl_callM (As := []) (rest := [.int (xI r)]) F (c_X10_pieces l D bb cI cZ cJ tR tU  τ _ h) (cwV 0 hts gL_law_X10_pieces rfl rfl rfl hd_X10_pieces ⟨Nat.le_of_ble_eq_true rfl, Nat.le_of_ble_eq_true rfl⟩) rfl rfl (Nat.le_of_ble_eq_true rfl) dL_law_583 (fun r' τ' h2 => ?_)
  obtain ⟨e2, hR2⟩ := h2
  rw [← e2]
  exact gl_eq F dL_law_586 rfl (K _ _ hR2)
set_option maxHeartbeats 4000000 in
set_option maxRecDepth 100000 in
theorem law_c11 (F : LF p s m meth c D cI cZ cJ tR tU b L xs) (hL : L ≤ 2560) (hi : i + 5 ≤ L) (hR : RR σ τ) (K : ∀ σ' τ' : xSt, RR σ' τ' → GL p l e s m b below meth c D aa bb cI cZ cJ σ' τ' 1066 (lvL aa bb b i) []) : GL p l e s m b below meth c D aa bb cI cZ cJ σ τ 591 (lvL aa bb b i) [] := by
  have hts := F.2.2.2.2.1
  refine gl_al1 F dL_law_591 ?_
  refine gl_arg F hL 1 (by omega) rfl dL_law_592 dL_law_593 dL_law_594 dL_law_595 dL_law_596 ?_
  refine gl_callX (As := [.int (xI ((xs (i + 1)).toInt))]) (rest := []) F (c_X9_pieceEnd l D aa cI cZ cJ tR tU ((xs (i + 1)).toInt) σ _ (op_pieceEnd hR (xR_of _))) (cwV 1 hts gL_law_X9_pieceEnd rfl rfl rfl hd_X9_pieceEnd ⟨Nat.le_of_ble_eq_true rfl, Nat.le_of_ble_eq_true rfl⟩) rfl rfl (Nat.le_of_ble_eq_true rfl) dL_law_597 (fun r σ' h => ?_)
  refine gl_al2 F dL_law_600 ?_
  refine gl_arg F hL 1 (by omega) rfl dL_law_601 dL_law_602 dL_law_603 dL_law_604 dL_law_605 ?_
  refine gl_callM (As := [.int (xI ((xs (i + 1)).toInt))]) (rest := [.int (xI r)]) F (c_X10_pieceEnd l D bb cI cZ cJ tR tU ((xs (i + 1)).toInt) τ _ h) (cwV 1 hts gL_law_X10_pieceEnd rfl rfl rfl hd_X10_pieceEnd ⟨Nat.le_of_ble_eq_true rfl, Nat.le_of_ble_eq_true rfl⟩) rfl rfl (Nat.le_of_ble_eq_true rfl) dL_law_606 (fun r' τ' h2 => ?_)
  obtain ⟨e2, hR2⟩ := h2
  rw [← e2]
  exact gl_eq F dL_law_609 rfl (K _ _ hR2)
set_option maxHeartbeats 4000000 in
set_option maxRecDepth 100000 in
theorem law_c12 (F : LF p s m meth c D cI cZ cJ tR tU b L xs) (hL : L ≤ 2560) (hi : i + 5 ≤ L) (hR : RR σ τ) (K : ∀ σ' τ' : xSt, RR σ' τ' → GL p l e s m b below meth c D aa bb cI cZ cJ σ' τ' 1066 (lvL aa bb b i) []) : GL p l e s m b below meth c D aa bb cI cZ cJ σ τ 614 (lvL aa bb b i) [] := by
  have hts := F.2.2.2.2.1
  refine gl_al1 F dL_law_614 ?_
  refine gl_arg F hL 1 (by omega) rfl dL_law_615 dL_law_616 dL_law_617 dL_law_618 dL_law_619 ?_
  refine gl_arg F hL 2 (by omega) rfl dL_law_620 dL_law_621 dL_law_622 dL_law_623 dL_law_624 ?_
  refine gl_callX (As := [.int (xI ((xs (i + 1)).toInt)), .int (xI ((xs (i + 2)).toInt))]) (rest := []) F (c_X9_ground l D aa cI cZ cJ tR tU ((xs (i + 1)).toInt) ((xs (i + 2)).toInt) σ _ (op_ground hR (xR_of _) (xR_of _))) (cwV 2 hts gL_law_X9_ground rfl rfl rfl hd_X9_ground ⟨Nat.le_of_ble_eq_true rfl, Nat.le_of_ble_eq_true rfl⟩) rfl rfl (Nat.le_of_ble_eq_true rfl) dL_law_625 (fun r σ' h => ?_)
  refine gl_al2 F dL_law_628 ?_
  refine gl_arg F hL 1 (by omega) rfl dL_law_629 dL_law_630 dL_law_631 dL_law_632 dL_law_633 ?_
  refine gl_arg F hL 2 (by omega) rfl dL_law_634 dL_law_635 dL_law_636 dL_law_637 dL_law_638 ?_
  refine gl_callM (As := [.int (xI ((xs (i + 1)).toInt)), .int (xI ((xs (i + 2)).toInt))]) (rest := [.int (xI r)]) F (c_X10_ground l D bb cI cZ cJ tR tU ((xs (i + 1)).toInt) ((xs (i + 2)).toInt) τ _ h) (cwV 2 hts gL_law_X10_ground rfl rfl rfl hd_X10_ground ⟨Nat.le_of_ble_eq_true rfl, Nat.le_of_ble_eq_true rfl⟩) rfl rfl (Nat.le_of_ble_eq_true rfl) dL_law_639 (fun r' τ' h2 => ?_)
  obtain ⟨e2, hR2⟩ := h2
  rw [← e2]
  exact gl_eq F dL_law_642 rfl (K _ _ hR2)
set_option maxHeartbeats 4000000 in
set_option maxRecDepth 100000 in
theorem law_c13 (F : LF p s m meth c D cI cZ cJ tR tU b L xs) (hL : L ≤ 2560) (hi : i + 5 ≤ L) (hR : RR σ τ) (K : ∀ σ' τ' : xSt, RR σ' τ' → GL p l e s m b below meth c D aa bb cI cZ cJ σ' τ' 1066 (lvL aa bb b i) []) : GL p l e s m b below meth c D aa bb cI cZ cJ σ τ 647 (lvL aa bb b i) [] := by
  have hts := F.2.2.2.2.1
  refine gl_al1 F dL_law_647 ?_
  refine gl_arg F hL 1 (by omega) rfl dL_law_648 dL_law_649 dL_law_650 dL_law_651 dL_law_652 ?_
  refine gl_arg F hL 2 (by omega) rfl dL_law_653 dL_law_654 dL_law_655 dL_law_656 dL_law_657 ?_
  refine gl_bool F (xR_of _) dL_law_658 dL_law_661 dL_law_662 dL_law_665 ?_
  refine gl_callX (As := [.int (xI ((xs (i + 1)).toInt)), .int (xI (bI ((xs (i + 2)).toInt ≠ 0)))]) (rest := []) F (c_X9_set l D aa cI cZ cJ tR tU ((xs (i + 1)).toInt) (bI ((xs (i + 2)).toInt ≠ 0)) σ _ (op_set hR (xR_of _) (bI_01 _))) (cwV 2 hts gL_law_X9_set rfl rfl rfl hd_X9_set ⟨Nat.le_of_ble_eq_true rfl, Nat.le_of_ble_eq_true rfl⟩) rfl rfl (Nat.le_of_ble_eq_true rfl) dL_law_666 (fun r σ' h => ?_)
  refine gl_al2 F dL_law_669 ?_
  refine gl_arg F hL 1 (by omega) rfl dL_law_670 dL_law_671 dL_law_672 dL_law_673 dL_law_674 ?_
  refine gl_arg F hL 2 (by omega) rfl dL_law_675 dL_law_676 dL_law_677 dL_law_678 dL_law_679 ?_
  refine gl_bool F (xR_of _) dL_law_680 dL_law_683 dL_law_684 dL_law_687 ?_
  refine gl_callM (As := [.int (xI ((xs (i + 1)).toInt)), .int (xI (bI ((xs (i + 2)).toInt ≠ 0)))]) (rest := [.int (xI r)]) F (c_X10_set l D bb cI cZ cJ tR tU ((xs (i + 1)).toInt) (bI ((xs (i + 2)).toInt ≠ 0)) τ _ h) (cwV 2 hts gL_law_X10_set rfl rfl rfl hd_X10_set ⟨Nat.le_of_ble_eq_true rfl, Nat.le_of_ble_eq_true rfl⟩) rfl rfl (Nat.le_of_ble_eq_true rfl) dL_law_688 (fun r' τ' h2 => ?_)
  obtain ⟨e2, hR2⟩ := h2
  rw [← e2]
  exact gl_eq F dL_law_691 rfl (K _ _ hR2)
set_option maxHeartbeats 4000000 in
set_option maxRecDepth 100000 in
theorem law_c14 (F : LF p s m meth c D cI cZ cJ tR tU b L xs) (hL : L ≤ 2560) (hi : i + 5 ≤ L) (hR : RR σ τ) (K : ∀ σ' τ' : xSt, RR σ' τ' → GL p l e s m b below meth c D aa bb cI cZ cJ σ' τ' 1066 (lvL aa bb b i) []) : GL p l e s m b below meth c D aa bb cI cZ cJ σ τ 696 (lvL aa bb b i) [] := by
  have hts := F.2.2.2.2.1
  refine gl_al1 F dL_law_696 ?_
  refine gl_arg F hL 1 (by omega) rfl dL_law_697 dL_law_698 dL_law_699 dL_law_700 dL_law_701 ?_
  refine gl_callX (As := [.int (xI ((xs (i + 1)).toInt))]) (rest := []) F (c_X9_has l D aa cI cZ cJ tR tU ((xs (i + 1)).toInt) σ _ (op_has hR (xR_of _))) (cwV 1 hts gL_law_X9_has rfl rfl rfl hd_X9_has ⟨Nat.le_of_ble_eq_true rfl, Nat.le_of_ble_eq_true rfl⟩) rfl rfl (Nat.le_of_ble_eq_true rfl) dL_law_702 (fun r σ' h => ?_)
  obtain ⟨e9, h⟩ := h
  rw [e9]
  refine gl_al2 F dL_law_705 ?_
  refine gl_arg F hL 1 (by omega) rfl dL_law_706 dL_law_707 dL_law_708 dL_law_709 dL_law_710 ?_
  refine gl_callM (As := [.int (xI ((xs (i + 1)).toInt))]) (rest := [.int (xI r)]) F (c_X10_has l D bb cI cZ cJ tR tU ((xs (i + 1)).toInt) τ _ h) (cwV 1 hts gL_law_X10_has rfl rfl rfl hd_X10_has ⟨Nat.le_of_ble_eq_true rfl, Nat.le_of_ble_eq_true rfl⟩) rfl rfl (Nat.le_of_ble_eq_true rfl) dL_law_711 (fun r' τ' h2 => ?_)
  obtain ⟨e2, hR2⟩ := h2
  rw [← e2]
  exact gl_eq F dL_law_714 rfl (K _ _ hR2)
set_option maxHeartbeats 4000000 in
set_option maxRecDepth 100000 in
theorem law_c15 (F : LF p s m meth c D cI cZ cJ tR tU b L xs) (hL : L ≤ 2560) (hi : i + 5 ≤ L) (hR : RR σ τ) (K : ∀ σ' τ' : xSt, RR σ' τ' → GL p l e s m b below meth c D aa bb cI cZ cJ σ' τ' 1066 (lvL aa bb b i) []) : GL p l e s m b below meth c D aa bb cI cZ cJ σ τ 719 (lvL aa bb b i) [] := by
  have hts := F.2.2.2.2.1
  refine gl_al1 F dL_law_719 ?_
  refine gl_arg F hL 1 (by omega) rfl dL_law_720 dL_law_721 dL_law_722 dL_law_723 dL_law_724 ?_
  refine gl_arg F hL 2 (by omega) rfl dL_law_725 dL_law_726 dL_law_727 dL_law_728 dL_law_729 ?_
  refine gl_bool F (xR_of _) dL_law_730 dL_law_733 dL_law_734 dL_law_737 ?_
  refine gl_callX (As := [.int (xI ((xs (i + 1)).toInt)), .int (xI (bI ((xs (i + 2)).toInt ≠ 0)))]) (rest := []) F (c_X9_fill l D aa cI cZ cJ tR tU ((xs (i + 1)).toInt) (bI ((xs (i + 2)).toInt ≠ 0)) σ _ (op_fill hR (xR_of _) (bI_01 _))) (cwV 2 hts gL_law_X9_fill rfl rfl rfl hd_X9_fill ⟨Nat.le_of_ble_eq_true rfl, Nat.le_of_ble_eq_true rfl⟩) rfl rfl (Nat.le_of_ble_eq_true rfl) dL_law_738 (fun r σ' h => ?_)
  refine gl_al2 F dL_law_741 ?_
  refine gl_arg F hL 1 (by omega) rfl dL_law_742 dL_law_743 dL_law_744 dL_law_745 dL_law_746 ?_
  refine gl_arg F hL 2 (by omega) rfl dL_law_747 dL_law_748 dL_law_749 dL_law_750 dL_law_751 ?_
  refine gl_bool F (xR_of _) dL_law_752 dL_law_755 dL_law_756 dL_law_759 ?_
  refine gl_callM (As := [.int (xI ((xs (i + 1)).toInt)), .int (xI (bI ((xs (i + 2)).toInt ≠ 0)))]) (rest := [.int (xI r)]) F (c_X10_fill l D bb cI cZ cJ tR tU ((xs (i + 1)).toInt) (bI ((xs (i + 2)).toInt ≠ 0)) τ _ h) (cwV 2 hts gL_law_X10_fill rfl rfl rfl hd_X10_fill ⟨Nat.le_of_ble_eq_true rfl, Nat.le_of_ble_eq_true rfl⟩) rfl rfl (Nat.le_of_ble_eq_true rfl) dL_law_760 (fun r' τ' h2 => ?_)
  obtain ⟨e2, hR2⟩ := h2
  rw [← e2]
  exact gl_eq F dL_law_763 rfl (K _ _ hR2)
set_option maxHeartbeats 4000000 in
set_option maxRecDepth 100000 in
theorem law_c16 (F : LF p s m meth c D cI cZ cJ tR tU b L xs) (hL : L ≤ 2560) (hi : i + 5 ≤ L) (hR : RR σ τ) (K : ∀ σ' τ' : xSt, RR σ' τ' → GL p l e s m b below meth c D aa bb cI cZ cJ σ' τ' 1066 (lvL aa bb b i) []) : GL p l e s m b below meth c D aa bb cI cZ cJ σ τ 768 (lvL aa bb b i) [] := by
  have hts := F.2.2.2.2.1
  refine gl_al1 F dL_law_768 ?_
  refine gl_arg F hL 1 (by omega) rfl dL_law_769 dL_law_770 dL_law_771 dL_law_772 dL_law_773 ?_
  refine gl_callX (As := [.int (xI ((xs (i + 1)).toInt))]) (rest := []) F (c_X9_heap l D aa cI cZ cJ tR tU ((xs (i + 1)).toInt) σ _ (op_heap hR (xR_of _))) (cwV 1 hts gL_law_X9_heap rfl rfl rfl hd_X9_heap ⟨Nat.le_of_ble_eq_true rfl, Nat.le_of_ble_eq_true rfl⟩) rfl rfl (Nat.le_of_ble_eq_true rfl) dL_law_774 (fun r σ' h => ?_)
  refine gl_al2 F dL_law_777 ?_
  refine gl_arg F hL 1 (by omega) rfl dL_law_778 dL_law_779 dL_law_780 dL_law_781 dL_law_782 ?_
  refine gl_callM (As := [.int (xI ((xs (i + 1)).toInt))]) (rest := [.int (xI r)]) F (c_X10_heap l D bb cI cZ cJ tR tU ((xs (i + 1)).toInt) τ _ h) (cwV 1 hts gL_law_X10_heap rfl rfl rfl hd_X10_heap ⟨Nat.le_of_ble_eq_true rfl, Nat.le_of_ble_eq_true rfl⟩) rfl rfl (Nat.le_of_ble_eq_true rfl) dL_law_783 (fun r' τ' h2 => ?_)
  obtain ⟨e2, hR2⟩ := h2
  rw [← e2]
  exact gl_eq F dL_law_786 rfl (K _ _ hR2)
set_option maxHeartbeats 4000000 in
set_option maxRecDepth 100000 in
theorem law_c17 (F : LF p s m meth c D cI cZ cJ tR tU b L xs) (hL : L ≤ 2560) (hi : i + 5 ≤ L) (hR : RR σ τ) (K : ∀ σ' τ' : xSt, RR σ' τ' → GL p l e s m b below meth c D aa bb cI cZ cJ σ' τ' 1066 (lvL aa bb b i) []) : GL p l e s m b below meth c D aa bb cI cZ cJ σ τ 791 (lvL aa bb b i) [] := by
  have hts := F.2.2.2.2.1
  refine gl_al1 F dL_law_791 ?_
  refine gl_arg F hL 1 (by omega) rfl dL_law_792 dL_law_793 dL_law_794 dL_law_795 dL_law_796 ?_
  refine gl_callX (As := [.int (xI ((xs (i + 1)).toInt))]) (rest := []) F (c_X9_is l D aa cI cZ cJ tR tU ((xs (i + 1)).toInt) σ _ (op_is hR (xR_of _))) (cwV 1 hts gL_law_X9_is rfl rfl rfl hd_X9_is ⟨Nat.le_of_ble_eq_true rfl, Nat.le_of_ble_eq_true rfl⟩) rfl rfl (Nat.le_of_ble_eq_true rfl) dL_law_797 (fun r σ' h => ?_)
  refine gl_al2 F dL_law_800 ?_
  refine gl_arg F hL 1 (by omega) rfl dL_law_801 dL_law_802 dL_law_803 dL_law_804 dL_law_805 ?_
  refine gl_callM (As := [.int (xI ((xs (i + 1)).toInt))]) (rest := [.int (xI r)]) F (c_X10_is l D bb cI cZ cJ tR tU ((xs (i + 1)).toInt) τ _ h) (cwV 1 hts gL_law_X10_is rfl rfl rfl hd_X10_is ⟨Nat.le_of_ble_eq_true rfl, Nat.le_of_ble_eq_true rfl⟩) rfl rfl (Nat.le_of_ble_eq_true rfl) dL_law_806 (fun r' τ' h2 => ?_)
  obtain ⟨e2, hR2⟩ := h2
  rw [← e2]
  exact gl_eq F dL_law_809 rfl (K _ _ hR2)
set_option maxHeartbeats 4000000 in
set_option maxRecDepth 100000 in
theorem law_c18 (F : LF p s m meth c D cI cZ cJ tR tU b L xs) (hL : L ≤ 2560) (hi : i + 5 ≤ L) (hR : RR σ τ) (K : ∀ σ' τ' : xSt, RR σ' τ' → GL p l e s m b below meth c D aa bb cI cZ cJ σ' τ' 1066 (lvL aa bb b i) []) : GL p l e s m b below meth c D aa bb cI cZ cJ σ τ 814 (lvL aa bb b i) [] := by
  have hts := F.2.2.2.2.1
  refine gl_al1 F dL_law_814 ?_
  refine gl_arg F hL 1 (by omega) rfl dL_law_815 dL_law_816 dL_law_817 dL_law_818 dL_law_819 ?_
  refine gl_callX (As := [.int (xI ((xs (i + 1)).toInt))]) (rest := []) F (c_X9_disc l D aa cI cZ cJ tR tU ((xs (i + 1)).toInt) σ _ (op_disc hR (xR_of _))) (cwV 1 hts gL_law_X9_disc rfl rfl rfl hd_X9_disc ⟨Nat.le_of_ble_eq_true rfl, Nat.le_of_ble_eq_true rfl⟩) rfl rfl (Nat.le_of_ble_eq_true rfl) dL_law_820 (fun r σ' h => ?_)
  refine gl_al2 F dL_law_823 ?_
  refine gl_arg F hL 1 (by omega) rfl dL_law_824 dL_law_825 dL_law_826 dL_law_827 dL_law_828 ?_
  refine gl_callM (As := [.int (xI ((xs (i + 1)).toInt))]) (rest := [.int (xI r)]) F (c_X10_disc l D bb cI cZ cJ tR tU ((xs (i + 1)).toInt) τ _ h) (cwV 1 hts gL_law_X10_disc rfl rfl rfl hd_X10_disc ⟨Nat.le_of_ble_eq_true rfl, Nat.le_of_ble_eq_true rfl⟩) rfl rfl (Nat.le_of_ble_eq_true rfl) dL_law_829 (fun r' τ' h2 => ?_)
  obtain ⟨e2, hR2⟩ := h2
  rw [← e2]
  exact gl_eq F dL_law_832 rfl (K _ _ hR2)
set_option maxHeartbeats 4000000 in
set_option maxRecDepth 100000 in
theorem law_c19 (F : LF p s m meth c D cI cZ cJ tR tU b L xs) (hL : L ≤ 2560) (hi : i + 5 ≤ L) (hR : RR σ τ) (K : ∀ σ' τ' : xSt, RR σ' τ' → GL p l e s m b below meth c D aa bb cI cZ cJ σ' τ' 1066 (lvL aa bb b i) []) : GL p l e s m b below meth c D aa bb cI cZ cJ σ τ 837 (lvL aa bb b i) [] := by
  have hts := F.2.2.2.2.1
  refine gl_al1 F dL_law_837 ?_
  refine gl_arg F hL 1 (by omega) rfl dL_law_838 dL_law_839 dL_law_840 dL_law_841 dL_law_842 ?_
  refine gl_callX (As := [.int (xI ((xs (i + 1)).toInt))]) (rest := []) F (c_X9_part l D aa cI cZ cJ tR tU ((xs (i + 1)).toInt) σ _ (op_part hR (xR_of _))) (cwV 1 hts gL_law_X9_part rfl rfl rfl hd_X9_part ⟨Nat.le_of_ble_eq_true rfl, Nat.le_of_ble_eq_true rfl⟩) rfl rfl (Nat.le_of_ble_eq_true rfl) dL_law_843 (fun r σ' h => ?_)
  refine gl_al2 F dL_law_846 ?_
  refine gl_arg F hL 1 (by omega) rfl dL_law_847 dL_law_848 dL_law_849 dL_law_850 dL_law_851 ?_
  refine gl_callM (As := [.int (xI ((xs (i + 1)).toInt))]) (rest := [.int (xI r)]) F (c_X10_part l D bb cI cZ cJ tR tU ((xs (i + 1)).toInt) τ _ h) (cwV 1 hts gL_law_X10_part rfl rfl rfl hd_X10_part ⟨Nat.le_of_ble_eq_true rfl, Nat.le_of_ble_eq_true rfl⟩) rfl rfl (Nat.le_of_ble_eq_true rfl) dL_law_852 (fun r' τ' h2 => ?_)
  obtain ⟨e2, hR2⟩ := h2
  rw [← e2]
  exact gl_eq F dL_law_855 rfl (K _ _ hR2)
set_option maxHeartbeats 4000000 in
set_option maxRecDepth 100000 in
theorem law_c20 (F : LF p s m meth c D cI cZ cJ tR tU b L xs) (hL : L ≤ 2560) (hi : i + 5 ≤ L) (hR : RR σ τ) (K : ∀ σ' τ' : xSt, RR σ' τ' → GL p l e s m b below meth c D aa bb cI cZ cJ σ' τ' 1066 (lvL aa bb b i) []) : GL p l e s m b below meth c D aa bb cI cZ cJ σ τ 860 (lvL aa bb b i) [] := by
  have hts := F.2.2.2.2.1
  refine gl_al1 F dL_law_860 ?_
  refine gl_callX (As := []) (rest := []) F (c_X9_hull l D aa cI cZ cJ tR tU  σ _ (op_hull hR )) (cwV 0 hts gL_law_X9_hull rfl rfl rfl hd_X9_hull ⟨Nat.le_of_ble_eq_true rfl, Nat.le_of_ble_eq_true rfl⟩) rfl rfl (Nat.le_of_ble_eq_true rfl) dL_law_861 (fun r σ' h => ?_)
  refine gl_al2 F dL_law_864 ?_
  refine gl_callM (As := []) (rest := [.int (xI r)]) F (c_X10_hull l D bb cI cZ cJ tR tU  τ _ h) (cwV 0 hts gL_law_X10_hull rfl rfl rfl hd_X10_hull ⟨Nat.le_of_ble_eq_true rfl, Nat.le_of_ble_eq_true rfl⟩) rfl rfl (Nat.le_of_ble_eq_true rfl) dL_law_865 (fun r' τ' h2 => ?_)
  obtain ⟨e2, hR2⟩ := h2
  rw [← e2]
  exact gl_eq F dL_law_868 rfl (K _ _ hR2)
set_option maxHeartbeats 4000000 in
set_option maxRecDepth 100000 in
theorem law_c21 (F : LF p s m meth c D cI cZ cJ tR tU b L xs) (hL : L ≤ 2560) (hi : i + 5 ≤ L) (hR : RR σ τ) (K : ∀ σ' τ' : xSt, RR σ' τ' → GL p l e s m b below meth c D aa bb cI cZ cJ σ' τ' 1066 (lvL aa bb b i) []) : GL p l e s m b below meth c D aa bb cI cZ cJ σ τ 873 (lvL aa bb b i) [] := by
  have hts := F.2.2.2.2.1
  refine gl_al1 F dL_law_873 ?_
  refine gl_arg F hL 1 (by omega) rfl dL_law_874 dL_law_875 dL_law_876 dL_law_877 dL_law_878 ?_
  refine gl_callX (As := [.int (xI ((xs (i + 1)).toInt))]) (rest := []) F (c_X9_corner l D aa cI cZ cJ tR tU ((xs (i + 1)).toInt) σ _ (op_corner hR (xR_of _))) (cwV 1 hts gL_law_X9_corner rfl rfl rfl hd_X9_corner ⟨Nat.le_of_ble_eq_true rfl, Nat.le_of_ble_eq_true rfl⟩) rfl rfl (Nat.le_of_ble_eq_true rfl) dL_law_879 (fun r σ' h => ?_)
  refine gl_al2 F dL_law_882 ?_
  refine gl_arg F hL 1 (by omega) rfl dL_law_883 dL_law_884 dL_law_885 dL_law_886 dL_law_887 ?_
  refine gl_callM (As := [.int (xI ((xs (i + 1)).toInt))]) (rest := [.int (xI r)]) F (c_X10_corner l D bb cI cZ cJ tR tU ((xs (i + 1)).toInt) τ _ h) (cwV 1 hts gL_law_X10_corner rfl rfl rfl hd_X10_corner ⟨Nat.le_of_ble_eq_true rfl, Nat.le_of_ble_eq_true rfl⟩) rfl rfl (Nat.le_of_ble_eq_true rfl) dL_law_888 (fun r' τ' h2 => ?_)
  obtain ⟨e2, hR2⟩ := h2
  rw [← e2]
  exact gl_eq F dL_law_891 rfl (K _ _ hR2)
set_option maxHeartbeats 4000000 in
set_option maxRecDepth 100000 in
theorem law_c22 (F : LF p s m meth c D cI cZ cJ tR tU b L xs) (hL : L ≤ 2560) (hi : i + 5 ≤ L) (hR : RR σ τ) (K : ∀ σ' τ' : xSt, RR σ' τ' → GL p l e s m b below meth c D aa bb cI cZ cJ σ' τ' 1066 (lvL aa bb b i) []) : GL p l e s m b below meth c D aa bb cI cZ cJ σ τ 896 (lvL aa bb b i) [] := by
  have hts := F.2.2.2.2.1
  refine gl_al1 F dL_law_896 ?_
  refine gl_arg F hL 1 (by omega) rfl dL_law_897 dL_law_898 dL_law_899 dL_law_900 dL_law_901 ?_
  refine gl_callX (As := [.int (xI ((xs (i + 1)).toInt))]) (rest := []) F (c_X9_deep l D aa cI cZ cJ tR tU ((xs (i + 1)).toInt) σ _ (op_deep hR (xR_of _))) (cwV 1 hts gL_law_X9_deep rfl rfl rfl hd_X9_deep ⟨Nat.le_of_ble_eq_true rfl, Nat.le_of_ble_eq_true rfl⟩) rfl rfl (Nat.le_of_ble_eq_true rfl) dL_law_902 (fun r σ' h => ?_)
  obtain ⟨e9, h⟩ := h
  rw [e9]
  refine gl_al2 F dL_law_905 ?_
  refine gl_arg F hL 1 (by omega) rfl dL_law_906 dL_law_907 dL_law_908 dL_law_909 dL_law_910 ?_
  refine gl_callM (As := [.int (xI ((xs (i + 1)).toInt))]) (rest := [.int (xI r)]) F (c_X10_deep l D bb cI cZ cJ tR tU ((xs (i + 1)).toInt) τ _ h) (cwV 1 hts gL_law_X10_deep rfl rfl rfl hd_X10_deep ⟨Nat.le_of_ble_eq_true rfl, Nat.le_of_ble_eq_true rfl⟩) rfl rfl (Nat.le_of_ble_eq_true rfl) dL_law_911 (fun r' τ' h2 => ?_)
  obtain ⟨e2, hR2⟩ := h2
  rw [← e2]
  exact gl_eq F dL_law_914 rfl (K _ _ hR2)
set_option maxHeartbeats 4000000 in
set_option maxRecDepth 100000 in
theorem law_c23 (F : LF p s m meth c D cI cZ cJ tR tU b L xs) (hL : L ≤ 2560) (hi : i + 5 ≤ L) (hR : RR σ τ) (K : ∀ σ' τ' : xSt, RR σ' τ' → GL p l e s m b below meth c D aa bb cI cZ cJ σ' τ' 1066 (lvL aa bb b i) []) : GL p l e s m b below meth c D aa bb cI cZ cJ σ τ 919 (lvL aa bb b i) [] := by
  have hts := F.2.2.2.2.1
  refine gl_al1 F dL_law_919 ?_
  refine gl_arg F hL 1 (by omega) rfl dL_law_920 dL_law_921 dL_law_922 dL_law_923 dL_law_924 ?_
  refine gl_bool F (xR_of _) dL_law_925 dL_law_928 dL_law_929 dL_law_932 ?_
  refine gl_callX (As := [.int (xI (bI ((xs (i + 1)).toInt ≠ 0)))]) (rest := []) F (c_X9_deepest l D aa cI cZ cJ tR tU (bI ((xs (i + 1)).toInt ≠ 0)) σ _ (op_deepest hR (bI_R _))) (cwV 1 hts gL_law_X9_deepest rfl rfl rfl hd_X9_deepest ⟨Nat.le_of_ble_eq_true rfl, Nat.le_of_ble_eq_true rfl⟩) rfl rfl (Nat.le_of_ble_eq_true rfl) dL_law_933 (fun r σ' h => ?_)
  obtain ⟨e9, h⟩ := h
  rw [e9]
  refine gl_al2 F dL_law_936 ?_
  refine gl_arg F hL 1 (by omega) rfl dL_law_937 dL_law_938 dL_law_939 dL_law_940 dL_law_941 ?_
  refine gl_bool F (xR_of _) dL_law_942 dL_law_945 dL_law_946 dL_law_949 ?_
  refine gl_callM (As := [.int (xI (bI ((xs (i + 1)).toInt ≠ 0)))]) (rest := [.int (xI r)]) F (c_X10_deepest l D bb cI cZ cJ tR tU (bI ((xs (i + 1)).toInt ≠ 0)) τ _ h) (cwV 1 hts gL_law_X10_deepest rfl rfl rfl hd_X10_deepest ⟨Nat.le_of_ble_eq_true rfl, Nat.le_of_ble_eq_true rfl⟩) rfl rfl (Nat.le_of_ble_eq_true rfl) dL_law_950 (fun r' τ' h2 => ?_)
  obtain ⟨e2, hR2⟩ := h2
  rw [← e2]
  exact gl_eq F dL_law_953 rfl (K _ _ hR2)
set_option maxHeartbeats 4000000 in
set_option maxRecDepth 100000 in
theorem law_c24 (F : LF p s m meth c D cI cZ cJ tR tU b L xs) (hL : L ≤ 2560) (hi : i + 5 ≤ L) (hR : RR σ τ) (K : ∀ σ' τ' : xSt, RR σ' τ' → GL p l e s m b below meth c D aa bb cI cZ cJ σ' τ' 1066 (lvL aa bb b i) []) : GL p l e s m b below meth c D aa bb cI cZ cJ σ τ 958 (lvL aa bb b i) [] := by
  have hts := F.2.2.2.2.1
  refine gl_al1 F dL_law_958 ?_
  refine gl_arg F hL 1 (by omega) rfl dL_law_959 dL_law_960 dL_law_961 dL_law_962 dL_law_963 ?_
  refine gl_callX (As := [.int (xI ((xs (i + 1)).toInt))]) (rest := []) F (c_X9_needed l D aa cI cZ cJ tR tU ((xs (i + 1)).toInt) σ _ (op_needed hR (xR_of _))) (cwV 1 hts gL_law_X9_needed rfl rfl rfl hd_X9_needed ⟨Nat.le_of_ble_eq_true rfl, Nat.le_of_ble_eq_true rfl⟩) rfl rfl (Nat.le_of_ble_eq_true rfl) dL_law_964 (fun r σ' h => ?_)
  refine gl_al2 F dL_law_967 ?_
  refine gl_arg F hL 1 (by omega) rfl dL_law_968 dL_law_969 dL_law_970 dL_law_971 dL_law_972 ?_
  refine gl_callM (As := [.int (xI ((xs (i + 1)).toInt))]) (rest := [.int (xI r)]) F (c_X10_needed l D bb cI cZ cJ tR tU ((xs (i + 1)).toInt) τ _ h) (cwV 1 hts gL_law_X10_needed rfl rfl rfl hd_X10_needed ⟨Nat.le_of_ble_eq_true rfl, Nat.le_of_ble_eq_true rfl⟩) rfl rfl (Nat.le_of_ble_eq_true rfl) dL_law_973 (fun r' τ' h2 => ?_)
  obtain ⟨e2, hR2⟩ := h2
  rw [← e2]
  exact gl_eq F dL_law_976 rfl (K _ _ hR2)
set_option maxHeartbeats 4000000 in
set_option maxRecDepth 100000 in
theorem law_c25 (F : LF p s m meth c D cI cZ cJ tR tU b L xs) (hL : L ≤ 2560) (hi : i + 5 ≤ L) (hR : RR σ τ) (K : ∀ σ' τ' : xSt, RR σ' τ' → GL p l e s m b below meth c D aa bb cI cZ cJ σ' τ' 1066 (lvL aa bb b i) []) : GL p l e s m b below meth c D aa bb cI cZ cJ σ τ 981 (lvL aa bb b i) [] := by
  have hts := F.2.2.2.2.1
  refine gl_al1 F dL_law_981 ?_
  refine gl_callX (As := []) (rest := []) F (c_X9_balls l D aa cI cZ cJ tR tU  σ _ (op_balls hR )) (cwV 0 hts gL_law_X9_balls rfl rfl rfl hd_X9_balls ⟨Nat.le_of_ble_eq_true rfl, Nat.le_of_ble_eq_true rfl⟩) rfl rfl (Nat.le_of_ble_eq_true rfl) dL_law_982 (fun r σ' h => ?_)
  refine gl_al2 F dL_law_985 ?_
  refine gl_callM (As := []) (rest := [.int (xI r)]) F (c_X10_balls l D bb cI cZ cJ tR tU  τ _ h) (cwV 0 hts gL_law_X10_balls rfl rfl rfl hd_X10_balls ⟨Nat.le_of_ble_eq_true rfl, Nat.le_of_ble_eq_true rfl⟩) rfl rfl (Nat.le_of_ble_eq_true rfl) dL_law_986 (fun r' τ' h2 => ?_)
  obtain ⟨e2, hR2⟩ := h2
  rw [← e2]
  exact gl_eq F dL_law_989 rfl (K _ _ hR2)
set_option maxHeartbeats 4000000 in
set_option maxRecDepth 100000 in
theorem law_c26 (F : LF p s m meth c D cI cZ cJ tR tU b L xs) (hL : L ≤ 2560) (hi : i + 5 ≤ L) (hR : RR σ τ) (K : ∀ σ' τ' : xSt, RR σ' τ' → GL p l e s m b below meth c D aa bb cI cZ cJ σ' τ' 1066 (lvL aa bb b i) []) : GL p l e s m b below meth c D aa bb cI cZ cJ σ τ 994 (lvL aa bb b i) [] := by
  have hts := F.2.2.2.2.1
  refine gl_al1 F dL_law_994 ?_
  refine gl_arg F hL 1 (by omega) rfl dL_law_995 dL_law_996 dL_law_997 dL_law_998 dL_law_999 ?_
  refine gl_callX (As := [.int (xI ((xs (i + 1)).toInt))]) (rest := []) F (c_X9_loose l D aa cI cZ cJ tR tU ((xs (i + 1)).toInt) σ _ (op_loose hR (xR_of _))) (cwV 1 hts gL_law_X9_loose rfl rfl rfl hd_X9_loose ⟨Nat.le_of_ble_eq_true rfl, Nat.le_of_ble_eq_true rfl⟩) rfl rfl (Nat.le_of_ble_eq_true rfl) dL_law_1000 (fun r σ' h => ?_)
  obtain ⟨e9, h⟩ := h
  rw [e9]
  refine gl_al2 F dL_law_1003 ?_
  refine gl_arg F hL 1 (by omega) rfl dL_law_1004 dL_law_1005 dL_law_1006 dL_law_1007 dL_law_1008 ?_
  refine gl_callM (As := [.int (xI ((xs (i + 1)).toInt))]) (rest := [.int (xI r)]) F (c_X10_loose l D bb cI cZ cJ tR tU ((xs (i + 1)).toInt) τ _ h) (cwV 1 hts gL_law_X10_loose rfl rfl rfl hd_X10_loose ⟨Nat.le_of_ble_eq_true rfl, Nat.le_of_ble_eq_true rfl⟩) rfl rfl (Nat.le_of_ble_eq_true rfl) dL_law_1009 (fun r' τ' h2 => ?_)
  obtain ⟨e2, hR2⟩ := h2
  rw [← e2]
  exact gl_eq F dL_law_1012 rfl (K _ _ hR2)
set_option maxHeartbeats 4000000 in
set_option maxRecDepth 100000 in
theorem law_c27 (F : LF p s m meth c D cI cZ cJ tR tU b L xs) (hL : L ≤ 2560) (hi : i + 5 ≤ L) (hR : RR σ τ) (K : ∀ σ' τ' : xSt, RR σ' τ' → GL p l e s m b below meth c D aa bb cI cZ cJ σ' τ' 1066 (lvL aa bb b i) []) : GL p l e s m b below meth c D aa bb cI cZ cJ σ τ 1017 (lvL aa bb b i) [] := by
  have hts := F.2.2.2.2.1
  refine gl_al1 F dL_law_1017 ?_
  refine gl_callX (As := []) (rest := []) F (c_X9_thinning l D aa cI cZ cJ tR tU  σ _ (op_thinning hR )) (cwV 0 hts gL_law_X9_thinning rfl rfl rfl hd_X9_thinning ⟨Nat.le_of_ble_eq_true rfl, Nat.le_of_ble_eq_true rfl⟩) rfl rfl (Nat.le_of_ble_eq_true rfl) dL_law_1018 (fun r σ' h => ?_)
  refine gl_al2 F dL_law_1021 ?_
  refine gl_callM (As := []) (rest := [.int (xI r)]) F (c_X10_thinning l D bb cI cZ cJ tR tU  τ _ h) (cwV 0 hts gL_law_X10_thinning rfl rfl rfl hd_X10_thinning ⟨Nat.le_of_ble_eq_true rfl, Nat.le_of_ble_eq_true rfl⟩) rfl rfl (Nat.le_of_ble_eq_true rfl) dL_law_1022 (fun r' τ' h2 => ?_)
  obtain ⟨e2, hR2⟩ := h2
  rw [← e2]
  exact gl_eq F dL_law_1025 rfl (K _ _ hR2)
set_option maxHeartbeats 4000000 in
set_option maxRecDepth 100000 in
theorem law_c28 (F : LF p s m meth c D cI cZ cJ tR tU b L xs) (hL : L ≤ 2560) (hi : i + 5 ≤ L) (hR : RR σ τ) (K : ∀ σ' τ' : xSt, RR σ' τ' → GL p l e s m b below meth c D aa bb cI cZ cJ σ' τ' 1066 (lvL aa bb b i) []) : GL p l e s m b below meth c D aa bb cI cZ cJ σ τ 1030 (lvL aa bb b i) [] := by
  have hts := F.2.2.2.2.1
  refine gl_al1 F dL_law_1030 ?_
  refine gl_callX (As := []) (rest := []) F (c_X9_thin l D aa cI cZ cJ tR tU  σ _ (op_thin hR )) (cwV 0 hts gL_law_X9_thin rfl rfl rfl hd_X9_thin ⟨Nat.le_of_ble_eq_true rfl, Nat.le_of_ble_eq_true rfl⟩) rfl rfl (Nat.le_of_ble_eq_true rfl) dL_law_1031 (fun r σ' h => ?_)
  refine gl_al2 F dL_law_1034 ?_
  refine gl_callM (As := []) (rest := [.int (xI r)]) F (c_X10_thin l D bb cI cZ cJ tR tU  τ _ h) (cwV 0 hts gL_law_X10_thin rfl rfl rfl hd_X10_thin ⟨Nat.le_of_ble_eq_true rfl, Nat.le_of_ble_eq_true rfl⟩) rfl rfl (Nat.le_of_ble_eq_true rfl) dL_law_1035 (fun r' τ' h2 => ?_)
  obtain ⟨e2, hR2⟩ := h2
  rw [← e2]
  exact gl_eq F dL_law_1038 rfl (K _ _ hR2)
set_option maxHeartbeats 4000000 in
set_option maxRecDepth 100000 in
theorem law_c29 (F : LF p s m meth c D cI cZ cJ tR tU b L xs) (hL : L ≤ 2560) (hi : i + 5 ≤ L) (hR : RR σ τ) (K : ∀ σ' τ' : xSt, RR σ' τ' → GL p l e s m b below meth c D aa bb cI cZ cJ σ' τ' 1066 (lvL aa bb b i) []) : GL p l e s m b below meth c D aa bb cI cZ cJ σ τ 1043 (lvL aa bb b i) [] := by
  have hts := F.2.2.2.2.1
  refine gl_al1 F dL_law_1043 ?_
  refine gl_arg F hL 1 (by omega) rfl dL_law_1044 dL_law_1045 dL_law_1046 dL_law_1047 dL_law_1048 ?_
  refine gl_callX (As := [.int (xI ((xs (i + 1)).toInt))]) (rest := []) F (c_X9_count l D aa cI cZ cJ tR tU ((xs (i + 1)).toInt) σ _ (op_count hR (xR_of _))) (cwV 1 hts gL_law_X9_count rfl rfl rfl hd_X9_count ⟨Nat.le_of_ble_eq_true rfl, Nat.le_of_ble_eq_true rfl⟩) rfl rfl (Nat.le_of_ble_eq_true rfl) dL_law_1049 (fun r σ' h => ?_)
  obtain ⟨e9, h⟩ := h
  rw [e9]
  refine gl_al2 F dL_law_1052 ?_
  refine gl_arg F hL 1 (by omega) rfl dL_law_1053 dL_law_1054 dL_law_1055 dL_law_1056 dL_law_1057 ?_
  refine gl_callM (As := [.int (xI ((xs (i + 1)).toInt))]) (rest := [.int (xI r)]) F (c_X10_count l D bb cI cZ cJ tR tU ((xs (i + 1)).toInt) τ _ h) (cwV 1 hts gL_law_X10_count rfl rfl rfl hd_X10_count ⟨Nat.le_of_ble_eq_true rfl, Nat.le_of_ble_eq_true rfl⟩) rfl rfl (Nat.le_of_ble_eq_true rfl) dL_law_1058 (fun r' τ' h2 => ?_)
  obtain ⟨e2, hR2⟩ := h2
  rw [← e2]
  exact gl_eq F dL_law_1061 rfl (K _ _ hR2)
end LC
