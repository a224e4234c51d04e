/-! THE CASES -/
set_option maxRecDepth 20000 in
theorem lc_0 {X : Cx} {GC GM : GG} {b L : Nat} {xv : Nat → Int32} {sc sm : St} {x3 : Int32} (h : Ol X (oC GC) (oM GM) b L xv) (hi : ∀ v : Int32, (v = 1 ∨ v = 2 ∨ v = 3 ∨ v = 4 ∨ v = 5) → vp_in (x3 + v) L) (hR : RR sc sm) (kk : ∀ sc' sm', RR sc' sm' → Wl X (oC GC) (oM GM) sc' sm' 1425 (LV b (al (oC GC) 0) (al (oM GM) 0) x3) []) : Wl X (oC GC) (oM GM) sc sm 216 (LV b (al (oC GC) 0) (al (oM GM) 0) x3) [] := by
  obtain ⟨r, sc', sm', e1, e2, e3⟩ := s_row hR (xv (x3 + 1).toNatClampNeg) (xv (x3 + 2).toNatClampNeg)
  refine l_al h dL_law_216 rfl rfl 1 rfl ?_
  refine l_arg (v := 1) h dL_law_217 dL_law_218 dL_law_219 dL_law_220 dL_law_221 rfl (by decide +kernel) (hi 1 (by decide)) ?_
  refine l_arg (v := 2) h dL_law_222 dL_law_223 dL_law_224 dL_law_225 dL_law_226 rfl (by decide +kernel) (hi 2 (by decide)) ?_
  refine l_callC (As := [.int (xv (x3 + 1).toNatClampNeg), .int (xv (x3 + 2).toNatClampNeg)]) (rest := []) (rv := some (.int r)) h dL_law_227 rfl mlL_13 wcL_X5_row wiL_X5_row ⟨Nat.le_of_ble_eq_true rfl, Nat.le_of_ble_eq_true rfl⟩ bC_us rfl rfl rfl rfl (Nat.le_of_ble_eq_true rfl) (fun l => c_X5_row l _ _ sc r sc' e1) rfl ?_
  refine l_al h dL_law_230 rfl rfl 2 rfl ?_
  refine l_arg (v := 1) h dL_law_231 dL_law_232 dL_law_233 dL_law_234 dL_law_235 rfl (by decide +kernel) (hi 1 (by decide)) ?_
  refine l_arg (v := 2) h dL_law_236 dL_law_237 dL_law_238 dL_law_239 dL_law_240 rfl (by decide +kernel) (hi 2 (by decide)) ?_
  refine l_callM (As := [.int (xv (x3 + 1).toNatClampNeg), .int (xv (x3 + 2).toNatClampNeg)]) (rest := [.int r]) (rv := some (.int r)) h dL_law_241 rfl mlL_17 wcL_X6_row wiL_X6_row ⟨Nat.le_of_ble_eq_true rfl, Nat.le_of_ble_eq_true rfl⟩ bM_mo rfl rfl rfl rfl (Nat.le_of_ble_eq_true rfl) (fun l => c_X6_row l _ _ sm r sm' e2) rfl ?_
  exact l_icmpeq h dL_law_244 rfl (by decide) (fun _ => kk _ _ e3) (fun c9 => absurd rfl c9)
set_option maxRecDepth 20000 in
theorem lc_1 {X : Cx} {GC GM : GG} {b L : Nat} {xv : Nat → Int32} {sc sm : St} {x3 : Int32} (h : Ol X (oC GC) (oM GM) b L xv) (hi : ∀ v : Int32, (v = 1 ∨ v = 2 ∨ v = 3 ∨ v = 4 ∨ v = 5) → vp_in (x3 + v) L) (hR : RR sc sm) (kk : ∀ sc' sm', RR sc' sm' → Wl X (oC GC) (oM GM) sc' sm' 1425 (LV b (al (oC GC) 0) (al (oM GM) 0) x3) []) : Wl X (oC GC) (oM GM) sc sm 249 (LV b (al (oC GC) 0) (al (oM GM) 0) x3) [] := by
  obtain ⟨r, sc', sm', e1, e2, e3⟩ := s_lay hR (xv (x3 + 1).toNatClampNeg) (xv (x3 + 2).toNatClampNeg) (xv (x3 + 3).toNatClampNeg)
  refine l_al h dL_law_249 rfl rfl 1 rfl ?_
  refine l_arg (v := 1) h dL_law_250 dL_law_251 dL_law_252 dL_law_253 dL_law_254 rfl (by decide +kernel) (hi 1 (by decide)) ?_
  refine l_arg (v := 2) h dL_law_255 dL_law_256 dL_law_257 dL_law_258 dL_law_259 rfl (by decide +kernel) (hi 2 (by decide)) ?_
  refine l_arg (v := 3) h dL_law_260 dL_law_261 dL_law_262 dL_law_263 dL_law_264 rfl (by decide +kernel) (hi 3 (by decide)) ?_
  refine l_callC (As := [.int (xv (x3 + 1).toNatClampNeg), .int (xv (x3 + 2).toNatClampNeg), .int (xv (x3 + 3).toNatClampNeg)]) (rest := []) (rv := some (.int r)) h dL_law_265 rfl mlL_18 wcL_X5_lay wiL_X5_lay ⟨Nat.le_of_ble_eq_true rfl, Nat.le_of_ble_eq_true rfl⟩ bC_us rfl rfl rfl rfl (Nat.le_of_ble_eq_true rfl) (fun l => c_X5_lay l _ _ _ sc r sc' e1) rfl ?_
  refine l_al h dL_law_268 rfl rfl 2 rfl ?_
  refine l_arg (v := 1) h dL_law_269 dL_law_270 dL_law_271 dL_law_272 dL_law_273 rfl (by decide +kernel) (hi 1 (by decide)) ?_
  refine l_arg (v := 2) h dL_law_274 dL_law_275 dL_law_276 dL_law_277 dL_law_278 rfl (by decide +kernel) (hi 2 (by decide)) ?_
  refine l_arg (v := 3) h dL_law_279 dL_law_280 dL_law_281 dL_law_282 dL_law_283 rfl (by decide +kernel) (hi 3 (by decide)) ?_
  refine l_callM (As := [.int (xv (x3 + 1).toNatClampNeg), .int (xv (x3 + 2).toNatClampNeg), .int (xv (x3 + 3).toNatClampNeg)]) (rest := [.int r]) (rv := some (.int r)) h dL_law_284 rfl mlL_22 wcL_X6_lay wiL_X6_lay ⟨Nat.le_of_ble_eq_true rfl, Nat.le_of_ble_eq_true rfl⟩ bM_mo rfl rfl rfl rfl (Nat.le_of_ble_eq_true rfl) (fun l => c_X6_lay l _ _ _ sm r sm' e2) rfl ?_
  exact l_icmpeq h dL_law_287 rfl (by decide) (fun _ => kk _ _ e3) (fun c9 => absurd rfl c9)
set_option maxRecDepth 20000 in
theorem lc_2 {X : Cx} {GC GM : GG} {b L : Nat} {xv : Nat → Int32} {sc sm : St} {x3 : Int32} (h : Ol X (oC GC) (oM GM) b L xv) (hi : ∀ v : Int32, (v = 1 ∨ v = 2 ∨ v = 3 ∨ v = 4 ∨ v = 5) → vp_in (x3 + v) L) (hR : RR sc sm) (kk : ∀ sc' sm', RR sc' sm' → Wl X (oC GC) (oM GM) sc' sm' 1425 (LV b (al (oC GC) 0) (al (oM GM) 0) x3) []) : Wl X (oC GC) (oM GM) sc sm 292 (LV b (al (oC GC) 0) (al (oM GM) 0) x3) [] := by
  obtain ⟨r, sc', sm', e1, e2, e3⟩ := s_at hR (xv (x3 + 1).toNatClampNeg) (xv (x3 + 2).toNatClampNeg)
  refine l_al h dL_law_292 rfl rfl 1 rfl ?_
  refine l_arg (v := 1) h dL_law_293 dL_law_294 dL_law_295 dL_law_296 dL_law_297 rfl (by decide +kernel) (hi 1 (by decide)) ?_
  refine l_arg (v := 2) h dL_law_298 dL_law_299 dL_law_300 dL_law_301 dL_law_302 rfl (by decide +kernel) (hi 2 (by decide)) ?_
  refine l_callC (As := [.int (xv (x3 + 1).toNatClampNeg), .int (xv (x3 + 2).toNatClampNeg)]) (rest := []) (rv := some (.int r)) h dL_law_303 rfl mlL_23 wcL_X5_at wiL_X5_at ⟨Nat.le_of_ble_eq_true rfl, Nat.le_of_ble_eq_true rfl⟩ bC_us rfl rfl rfl rfl (Nat.le_of_ble_eq_true rfl) (fun l => c_X5_at l _ _ sc r sc' e1) rfl ?_
  refine l_al h dL_law_306 rfl rfl 2 rfl ?_
  refine l_arg (v := 1) h dL_law_307 dL_law_308 dL_law_309 dL_law_310 dL_law_311 rfl (by decide +kernel) (hi 1 (by decide)) ?_
  refine l_arg (v := 2) h dL_law_312 dL_law_313 dL_law_314 dL_law_315 dL_law_316 rfl (by decide +kernel) (hi 2 (by decide)) ?_
  refine l_callM (As := [.int (xv (x3 + 1).toNatClampNeg), .int (xv (x3 + 2).toNatClampNeg)]) (rest := [.int r]) (rv := some (.int r)) h dL_law_317 rfl mlL_26 wcL_X6_at wiL_X6_at ⟨Nat.le_of_ble_eq_true rfl, Nat.le_of_ble_eq_true rfl⟩ bM_mo rfl rfl rfl rfl (Nat.le_of_ble_eq_true rfl) (fun l => c_X6_at l _ _ sm r sm' e2) rfl ?_
  exact l_icmpeq h dL_law_320 rfl (by decide) (fun _ => kk _ _ e3) (fun c9 => absurd rfl c9)
set_option maxRecDepth 20000 in
theorem lc_3 {X : Cx} {GC GM : GG} {b L : Nat} {xv : Nat → Int32} {sc sm : St} {x3 : Int32} (h : Ol X (oC GC) (oM GM) b L xv) (hi : ∀ v : Int32, (v = 1 ∨ v = 2 ∨ v = 3 ∨ v = 4 ∨ v = 5) → vp_in (x3 + v) L) (hR : RR sc sm) (kk : ∀ sc' sm', RR sc' sm' → Wl X (oC GC) (oM GM) sc' sm' 1425 (LV b (al (oC GC) 0) (al (oM GM) 0) x3) []) : Wl X (oC GC) (oM GM) sc sm 325 (LV b (al (oC GC) 0) (al (oM GM) 0) x3) [] := by
  obtain ⟨r, sc', sm', e1, e2, e3⟩ := s_tear hR (xv (x3 + 1).toNatClampNeg)
  refine l_al h dL_law_325 rfl rfl 1 rfl ?_
  refine l_arg (v := 1) h dL_law_326 dL_law_327 dL_law_328 dL_law_329 dL_law_330 rfl (by decide +kernel) (hi 1 (by decide)) ?_
  refine l_callC (As := [.int (xv (x3 + 1).toNatClampNeg)]) (rest := []) (rv := some (.int r)) h dL_law_331 rfl mlL_27 wcL_X5_tear wiL_X5_tear ⟨Nat.le_of_ble_eq_true rfl, Nat.le_of_ble_eq_true rfl⟩ bC_us rfl rfl rfl rfl (Nat.le_of_ble_eq_true rfl) (fun l => c_X5_tear l _ sc r sc' e1) rfl ?_
  refine l_al h dL_law_334 rfl rfl 2 rfl ?_
  refine l_arg (v := 1) h dL_law_335 dL_law_336 dL_law_337 dL_law_338 dL_law_339 rfl (by decide +kernel) (hi 1 (by decide)) ?_
  refine l_callM (As := [.int (xv (x3 + 1).toNatClampNeg)]) (rest := [.int r]) (rv := some (.int r)) h dL_law_340 rfl mlL_31 wcL_X6_tear wiL_X6_tear ⟨Nat.le_of_ble_eq_true rfl, Nat.le_of_ble_eq_true rfl⟩ bM_mo rfl rfl rfl rfl (Nat.le_of_ble_eq_true rfl) (fun l => c_X6_tear l _ sm r sm' e2) rfl ?_
  exact l_icmpeq h dL_law_343 rfl (by decide) (fun _ => kk _ _ e3) (fun c9 => absurd rfl c9)
set_option maxRecDepth 20000 in
theorem lc_4 {X : Cx} {GC GM : GG} {b L : Nat} {xv : Nat → Int32} {sc sm : St} {x3 : Int32} (h : Ol X (oC GC) (oM GM) b L xv) (hi : ∀ v : Int32, (v = 1 ∨ v = 2 ∨ v = 3 ∨ v = 4 ∨ v = 5) → vp_in (x3 + v) L) (hR : RR sc sm) (kk : ∀ sc' sm', RR sc' sm' → Wl X (oC GC) (oM GM) sc' sm' 1425 (LV b (al (oC GC) 0) (al (oM GM) 0) x3) []) : Wl X (oC GC) (oM GM) sc sm 348 (LV b (al (oC GC) 0) (al (oM GM) 0) x3) [] := by
  obtain ⟨r, sc', sm', e1, e2, e3⟩ := s_copy hR (xv (x3 + 1).toNatClampNeg) (xv (x3 + 2).toNatClampNeg) (xv (x3 + 3).toNatClampNeg) (xv (x3 + 4).toNatClampNeg) (xv (x3 + 5).toNatClampNeg)
  refine l_al h dL_law_348 rfl rfl 1 rfl ?_
  refine l_arg (v := 1) h dL_law_349 dL_law_350 dL_law_351 dL_law_352 dL_law_353 rfl (by decide +kernel) (hi 1 (by decide)) ?_
  refine l_arg (v := 2) h dL_law_354 dL_law_355 dL_law_356 dL_law_357 dL_law_358 rfl (by decide +kernel) (hi 2 (by decide)) ?_
  refine l_arg (v := 3) h dL_law_359 dL_law_360 dL_law_361 dL_law_362 dL_law_363 rfl (by decide +kernel) (hi 3 (by decide)) ?_
  refine l_arg (v := 4) h dL_law_364 dL_law_365 dL_law_366 dL_law_367 dL_law_368 rfl (by decide +kernel) (hi 4 (by decide)) ?_
  refine l_arg (v := 5) h dL_law_369 dL_law_370 dL_law_371 dL_law_372 dL_law_373 rfl (by decide +kernel) (hi 5 (by decide)) ?_
  refine l_callC (As := [.int (xv (x3 + 1).toNatClampNeg), .int (xv (x3 + 2).toNatClampNeg), .int (xv (x3 + 3).toNatClampNeg), .int (xv (x3 + 4).toNatClampNeg), .int (xv (x3 + 5).toNatClampNeg)]) (rest := []) (rv := some (.int r)) h dL_law_374 rfl mlL_32 wcL_X5_copy wiL_X5_copy ⟨Nat.le_of_ble_eq_true rfl, Nat.le_of_ble_eq_true rfl⟩ bC_us rfl rfl rfl rfl (Nat.le_of_ble_eq_true rfl) (fun l => c_X5_copy l _ _ _ _ _ sc r sc' e1) rfl ?_
  refine l_al h dL_law_377 rfl rfl 2 rfl ?_
  refine l_arg (v := 1) h dL_law_378 dL_law_379 dL_law_380 dL_law_381 dL_law_382 rfl (by decide +kernel) (hi 1 (by decide)) ?_
  refine l_arg (v := 2) h dL_law_383 dL_law_384 dL_law_385 dL_law_386 dL_law_387 rfl (by decide +kernel) (hi 2 (by decide)) ?_
  refine l_arg (v := 3) h dL_law_388 dL_law_389 dL_law_390 dL_law_391 dL_law_392 rfl (by decide +kernel) (hi 3 (by decide)) ?_
  refine l_arg (v := 4) h dL_law_393 dL_law_394 dL_law_395 dL_law_396 dL_law_397 rfl (by decide +kernel) (hi 4 (by decide)) ?_
  refine l_arg (v := 5) h dL_law_398 dL_law_399 dL_law_400 dL_law_401 dL_law_402 rfl (by decide +kernel) (hi 5 (by decide)) ?_
  refine l_callM (As := [.int (xv (x3 + 1).toNatClampNeg), .int (xv (x3 + 2).toNatClampNeg), .int (xv (x3 + 3).toNatClampNeg), .int (xv (x3 + 4).toNatClampNeg), .int (xv (x3 + 5).toNatClampNeg)]) (rest := [.int r]) (rv := some (.int r)) h dL_law_403 rfl mlL_36 wcL_X6_copy wiL_X6_copy ⟨Nat.le_of_ble_eq_true rfl, Nat.le_of_ble_eq_true rfl⟩ bM_mo rfl rfl rfl rfl (Nat.le_of_ble_eq_true rfl) (fun l => c_X6_copy l _ _ _ _ _ sm r sm' e2) rfl ?_
  exact l_icmpeq h dL_law_406 rfl (by decide) (fun _ => kk _ _ e3) (fun c9 => absurd rfl c9)
set_option maxRecDepth 20000 in
theorem lc_5 {X : Cx} {GC GM : GG} {b L : Nat} {xv : Nat → Int32} {sc sm : St} {x3 : Int32} (h : Ol X (oC GC) (oM GM) b L xv) (hi : ∀ v : Int32, (v = 1 ∨ v = 2 ∨ v = 3 ∨ v = 4 ∨ v = 5) → vp_in (x3 + v) L) (hR : RR sc sm) (kk : ∀ sc' sm', RR sc' sm' → Wl X (oC GC) (oM GM) sc' sm' 1425 (LV b (al (oC GC) 0) (al (oM GM) 0) x3) []) : Wl X (oC GC) (oM GM) sc sm 411 (LV b (al (oC GC) 0) (al (oM GM) 0) x3) [] := by
  obtain ⟨r, sc', sm', e1, e2, e3⟩ := s_mean hR (xv (x3 + 1).toNatClampNeg)
  refine l_al h dL_law_411 rfl rfl 1 rfl ?_
  refine l_arg (v := 1) h dL_law_412 dL_law_413 dL_law_414 dL_law_415 dL_law_416 rfl (by decide +kernel) (hi 1 (by decide)) ?_
  refine l_callC (As := [.int (xv (x3 + 1).toNatClampNeg)]) (rest := []) (rv := some (.int r)) h dL_law_417 rfl mlL_37 wcL_X5_mean wiL_X5_mean ⟨Nat.le_of_ble_eq_true rfl, Nat.le_of_ble_eq_true rfl⟩ bC_us rfl rfl rfl rfl (Nat.le_of_ble_eq_true rfl) (fun l => c_X5_mean l _ sc r sc' e1) rfl ?_
  refine l_al h dL_law_420 rfl rfl 2 rfl ?_
  refine l_arg (v := 1) h dL_law_421 dL_law_422 dL_law_423 dL_law_424 dL_law_425 rfl (by decide +kernel) (hi 1 (by decide)) ?_
  refine l_callM (As := [.int (xv (x3 + 1).toNatClampNeg)]) (rest := [.int r]) (rv := some (.int r)) h dL_law_426 rfl mlL_40 wcL_X6_mean wiL_X6_mean ⟨Nat.le_of_ble_eq_true rfl, Nat.le_of_ble_eq_true rfl⟩ bM_mo rfl rfl rfl rfl (Nat.le_of_ble_eq_true rfl) (fun l => c_X6_mean l _ sm r sm' e2) rfl ?_
  exact l_icmpeq h dL_law_429 rfl (by decide) (fun _ => kk _ _ e3) (fun c9 => absurd rfl c9)
set_option maxRecDepth 20000 in
theorem lc_6 {X : Cx} {GC GM : GG} {b L : Nat} {xv : Nat → Int32} {sc sm : St} {x3 : Int32} (h : Ol X (oC GC) (oM GM) b L xv) (hi : ∀ v : Int32, (v = 1 ∨ v = 2 ∨ v = 3 ∨ v = 4 ∨ v = 5) → vp_in (x3 + v) L) (hR : RR sc sm) (kk : ∀ sc' sm', RR sc' sm' → Wl X (oC GC) (oM GM) sc' sm' 1425 (LV b (al (oC GC) 0) (al (oM GM) 0) x3) []) : Wl X (oC GC) (oM GM) sc sm 434 (LV b (al (oC GC) 0) (al (oM GM) 0) x3) [] := by
  obtain ⟨r, sc', sm', e1, e2, e3⟩ := s_text hR (xv (x3 + 1).toNatClampNeg) (xv (x3 + 2).toNatClampNeg)
  refine l_al h dL_law_434 rfl rfl 1 rfl ?_
  refine l_arg (v := 1) h dL_law_435 dL_law_436 dL_law_437 dL_law_438 dL_law_439 rfl (by decide +kernel) (hi 1 (by decide)) ?_
  refine l_arg (v := 2) h dL_law_440 dL_law_441 dL_law_442 dL_law_443 dL_law_444 rfl (by decide +kernel) (hi 2 (by decide)) ?_
  refine l_callC (As := [.int (xv (x3 + 1).toNatClampNeg), .int (xv (x3 + 2).toNatClampNeg)]) (rest := []) (rv := some (.int r)) h dL_law_445 rfl mlL_41 wcL_X5_text wiL_X5_text ⟨Nat.le_of_ble_eq_true rfl, Nat.le_of_ble_eq_true rfl⟩ bC_us rfl rfl rfl rfl (Nat.le_of_ble_eq_true rfl) (fun l => c_X5_text l _ _ sc r sc' e1) rfl ?_
  refine l_al h dL_law_448 rfl rfl 2 rfl ?_
  refine l_arg (v := 1) h dL_law_449 dL_law_450 dL_law_451 dL_law_452 dL_law_453 rfl (by decide +kernel) (hi 1 (by decide)) ?_
  refine l_arg (v := 2) h dL_law_454 dL_law_455 dL_law_456 dL_law_457 dL_law_458 rfl (by decide +kernel) (hi 2 (by decide)) ?_
  refine l_callM (As := [.int (xv (x3 + 1).toNatClampNeg), .int (xv (x3 + 2).toNatClampNeg)]) (rest := [.int r]) (rv := some (.int r)) h dL_law_459 rfl mlL_44 wcL_X6_text wiL_X6_text ⟨Nat.le_of_ble_eq_true rfl, Nat.le_of_ble_eq_true rfl⟩ bM_mo rfl rfl rfl rfl (Nat.le_of_ble_eq_true rfl) (fun l => c_X6_text l _ _ sm r sm' e2) rfl ?_
  exact l_icmpeq h dL_law_462 rfl (by decide) (fun _ => kk _ _ e3) (fun c9 => absurd rfl c9)
set_option maxRecDepth 20000 in
theorem lc_7 {X : Cx} {GC GM : GG} {b L : Nat} {xv : Nat → Int32} {sc sm : St} {x3 : Int32} (h : Ol X (oC GC) (oM GM) b L xv) (hi : ∀ v : Int32, (v = 1 ∨ v = 2 ∨ v = 3 ∨ v = 4 ∨ v = 5) → vp_in (x3 + v) L) (hR : RR sc sm) (kk : ∀ sc' sm', RR sc' sm' → Wl X (oC GC) (oM GM) sc' sm' 1425 (LV b (al (oC GC) 0) (al (oM GM) 0) x3) []) : Wl X (oC GC) (oM GM) sc sm 467 (LV b (al (oC GC) 0) (al (oM GM) 0) x3) [] := by
  obtain ⟨r, sc', sm', e1, e2, e3⟩ := s_put hR (xv (x3 + 1).toNatClampNeg) (xv (x3 + 2).toNatClampNeg) (xv (x3 + 3).toNatClampNeg)
  refine l_al h dL_law_467 rfl rfl 1 rfl ?_
  refine l_arg (v := 1) h dL_law_468 dL_law_469 dL_law_470 dL_law_471 dL_law_472 rfl (by decide +kernel) (hi 1 (by decide)) ?_
  refine l_arg (v := 2) h dL_law_473 dL_law_474 dL_law_475 dL_law_476 dL_law_477 rfl (by decide +kernel) (hi 2 (by decide)) ?_
  refine l_arg (v := 3) h dL_law_478 dL_law_479 dL_law_480 dL_law_481 dL_law_482 rfl (by decide +kernel) (hi 3 (by decide)) ?_
  refine l_callC (As := [.int (xv (x3 + 1).toNatClampNeg), .int (xv (x3 + 2).toNatClampNeg), .int (xv (x3 + 3).toNatClampNeg)]) (rest := []) (rv := some (.int r)) h dL_law_483 rfl mlL_45 wcL_X5_put wiL_X5_put ⟨Nat.le_of_ble_eq_true rfl, Nat.le_of_ble_eq_true rfl⟩ bC_us rfl rfl rfl rfl (Nat.le_of_ble_eq_true rfl) (fun l => c_X5_put l _ _ _ sc r sc' e1) rfl ?_
  refine l_al h dL_law_486 rfl rfl 2 rfl ?_
  refine l_arg (v := 1) h dL_law_487 dL_law_488 dL_law_489 dL_law_490 dL_law_491 rfl (by decide +kernel) (hi 1 (by decide)) ?_
  refine l_arg (v := 2) h dL_law_492 dL_law_493 dL_law_494 dL_law_495 dL_law_496 rfl (by decide +kernel) (hi 2 (by decide)) ?_
  refine l_arg (v := 3) h dL_law_497 dL_law_498 dL_law_499 dL_law_500 dL_law_501 rfl (by decide +kernel) (hi 3 (by decide)) ?_
  refine l_callM (As := [.int (xv (x3 + 1).toNatClampNeg), .int (xv (x3 + 2).toNatClampNeg), .int (xv (x3 + 3).toNatClampNeg)]) (rest := [.int r]) (rv := some (.int r)) h dL_law_502 rfl mlL_48 wcL_X6_put wiL_X6_put ⟨Nat.le_of_ble_eq_true rfl, Nat.le_of_ble_eq_true rfl⟩ bM_mo rfl rfl rfl rfl (Nat.le_of_ble_eq_true rfl) (fun l => c_X6_put l _ _ _ sm r sm' e2) rfl ?_
  exact l_icmpeq h dL_law_505 rfl (by decide) (fun _ => kk _ _ e3) (fun c9 => absurd rfl c9)
set_option maxRecDepth 20000 in
theorem lc_8 {X : Cx} {GC GM : GG} {b L : Nat} {xv : Nat → Int32} {sc sm : St} {x3 : Int32} (h : Ol X (oC GC) (oM GM) b L xv) (hi : ∀ v : Int32, (v = 1 ∨ v = 2 ∨ v = 3 ∨ v = 4 ∨ v = 5) → vp_in (x3 + v) L) (hR : RR sc sm) (kk : ∀ sc' sm', RR sc' sm' → Wl X (oC GC) (oM GM) sc' sm' 1425 (LV b (al (oC GC) 0) (al (oM GM) 0) x3) []) : Wl X (oC GC) (oM GM) sc sm 510 (LV b (al (oC GC) 0) (al (oM GM) 0) x3) [] := by
  obtain ⟨r, sc', sm', e1, e2, e3⟩ := s_fault hR (xv (x3 + 1).toNatClampNeg)
  refine l_al h dL_law_510 rfl rfl 1 rfl ?_
  refine l_arg (v := 1) h dL_law_511 dL_law_512 dL_law_513 dL_law_514 dL_law_515 rfl (by decide +kernel) (hi 1 (by decide)) ?_
  refine l_callC (As := [.int (xv (x3 + 1).toNatClampNeg)]) (rest := []) (rv := some (.int r)) h dL_law_516 rfl mlL_49 wcL_X5_fault wiL_X5_fault ⟨Nat.le_of_ble_eq_true rfl, Nat.le_of_ble_eq_true rfl⟩ bC_us rfl rfl rfl rfl (Nat.le_of_ble_eq_true rfl) (fun l => c_X5_fault l _ sc r sc' e1) rfl ?_
  refine l_al h dL_law_519 rfl rfl 2 rfl ?_
  refine l_arg (v := 1) h dL_law_520 dL_law_521 dL_law_522 dL_law_523 dL_law_524 rfl (by decide +kernel) (hi 1 (by decide)) ?_
  refine l_callM (As := [.int (xv (x3 + 1).toNatClampNeg)]) (rest := [.int r]) (rv := some (.int r)) h dL_law_525 rfl mlL_52 wcL_X6_fault wiL_X6_fault ⟨Nat.le_of_ble_eq_true rfl, Nat.le_of_ble_eq_true rfl⟩ bM_mo rfl rfl rfl rfl (Nat.le_of_ble_eq_true rfl) (fun l => c_X6_fault l _ sm r sm' e2) rfl ?_
  exact l_icmpeq h dL_law_528 rfl (by decide) (fun _ => kk _ _ e3) (fun c9 => absurd rfl c9)
set_option maxRecDepth 20000 in
theorem lc_9 {X : Cx} {GC GM : GG} {b L : Nat} {xv : Nat → Int32} {sc sm : St} {x3 : Int32} (h : Ol X (oC GC) (oM GM) b L xv) (hi : ∀ v : Int32, (v = 1 ∨ v = 2 ∨ v = 3 ∨ v = 4 ∨ v = 5) → vp_in (x3 + v) L) (hR : RR sc sm) (kk : ∀ sc' sm', RR sc' sm' → Wl X (oC GC) (oM GM) sc' sm' 1425 (LV b (al (oC GC) 0) (al (oM GM) 0) x3) []) : Wl X (oC GC) (oM GM) sc sm 533 (LV b (al (oC GC) 0) (al (oM GM) 0) x3) [] := by
  obtain ⟨r, sc', sm', e1, e2, e3⟩ := s_shop hR (xv (x3 + 1).toNatClampNeg)
  refine l_al h dL_law_533 rfl rfl 1 rfl ?_
  refine l_arg (v := 1) h dL_law_534 dL_law_535 dL_law_536 dL_law_537 dL_law_538 rfl (by decide +kernel) (hi 1 (by decide)) ?_
  refine l_callC (As := [.int (xv (x3 + 1).toNatClampNeg)]) (rest := []) (rv := some (.int r)) h dL_law_539 rfl mlL_53 wcL_X5_shop wiL_X5_shop ⟨Nat.le_of_ble_eq_true rfl, Nat.le_of_ble_eq_true rfl⟩ bC_us rfl rfl rfl rfl (Nat.le_of_ble_eq_true rfl) (fun l => c_X5_shop l _ sc r sc' e1) rfl ?_
  refine l_al h dL_law_542 rfl rfl 2 rfl ?_
  refine l_arg (v := 1) h dL_law_543 dL_law_544 dL_law_545 dL_law_546 dL_law_547 rfl (by decide +kernel) (hi 1 (by decide)) ?_
  refine l_callM (As := [.int (xv (x3 + 1).toNatClampNeg)]) (rest := [.int r]) (rv := some (.int r)) h dL_law_548 rfl mlL_56 wcL_X6_shop wiL_X6_shop ⟨Nat.le_of_ble_eq_true rfl, Nat.le_of_ble_eq_true rfl⟩ bM_mo rfl rfl rfl rfl (Nat.le_of_ble_eq_true rfl) (fun l => c_X6_shop l _ sm r sm' e2) rfl ?_
  exact l_icmpeq h dL_law_551 rfl (by decide) (fun _ => kk _ _ e3) (fun c9 => absurd rfl c9)
set_option maxRecDepth 20000 in
theorem lc_10 {X : Cx} {GC GM : GG} {b L : Nat} {xv : Nat → Int32} {sc sm : St} {x3 : Int32} (h : Ol X (oC GC) (oM GM) b L xv) (hi : ∀ v : Int32, (v = 1 ∨ v = 2 ∨ v = 3 ∨ v = 4 ∨ v = 5) → vp_in (x3 + v) L) (hR : RR sc sm) (kk : ∀ sc' sm', RR sc' sm' → Wl X (oC GC) (oM GM) sc' sm' 1425 (LV b (al (oC GC) 0) (al (oM GM) 0) x3) []) : Wl X (oC GC) (oM GM) sc sm 556 (LV b (al (oC GC) 0) (al (oM GM) 0) x3) [] := by
  obtain ⟨r, sc', sm', e1, e2, e3⟩ := s_regular hR (xv (x3 + 1).toNatClampNeg) (xv (x3 + 2).toNatClampNeg)
  refine l_al h dL_law_556 rfl rfl 1 rfl ?_
  refine l_arg (v := 1) h dL_law_557 dL_law_558 dL_law_559 dL_law_560 dL_law_561 rfl (by decide +kernel) (hi 1 (by decide)) ?_
  refine l_arg (v := 2) h dL_law_562 dL_law_563 dL_law_564 dL_law_565 dL_law_566 rfl (by decide +kernel) (hi 2 (by decide)) ?_
  refine l_callC (As := [.int (xv (x3 + 1).toNatClampNeg), .int (xv (x3 + 2).toNatClampNeg)]) (rest := []) (rv := some (.int r)) h dL_law_567 rfl mlL_57 wcL_X5_regular wiL_X5_regular ⟨Nat.le_of_ble_eq_true rfl, Nat.le_of_ble_eq_true rfl⟩ bC_us rfl rfl rfl rfl (Nat.le_of_ble_eq_true rfl) (fun l => c_X5_regular l _ _ sc r sc' e1) rfl ?_
  refine l_al h dL_law_570 rfl rfl 2 rfl ?_
  refine l_arg (v := 1) h dL_law_571 dL_law_572 dL_law_573 dL_law_574 dL_law_575 rfl (by decide +kernel) (hi 1 (by decide)) ?_
  refine l_arg (v := 2) h dL_law_576 dL_law_577 dL_law_578 dL_law_579 dL_law_580 rfl (by decide +kernel) (hi 2 (by decide)) ?_
  refine l_callM (As := [.int (xv (x3 + 1).toNatClampNeg), .int (xv (x3 + 2).toNatClampNeg)]) (rest := [.int r]) (rv := some (.int r)) h dL_law_581 rfl mlL_60 wcL_X6_regular wiL_X6_regular ⟨Nat.le_of_ble_eq_true rfl, Nat.le_of_ble_eq_true rfl⟩ bM_mo rfl rfl rfl rfl (Nat.le_of_ble_eq_true rfl) (fun l => c_X6_regular l _ _ sm r sm' e2) rfl ?_
  exact l_icmpeq h dL_law_584 rfl (by decide) (fun _ => kk _ _ e3) (fun c9 => absurd rfl c9)
set_option maxRecDepth 20000 in
theorem lc_11 {X : Cx} {GC GM : GG} {b L : Nat} {xv : Nat → Int32} {sc sm : St} {x3 : Int32} (h : Ol X (oC GC) (oM GM) b L xv) (hi : ∀ v : Int32, (v = 1 ∨ v = 2 ∨ v = 3 ∨ v = 4 ∨ v = 5) → vp_in (x3 + v) L) (hR : RR sc sm) (kk : ∀ sc' sm', RR sc' sm' → Wl X (oC GC) (oM GM) sc' sm' 1425 (LV b (al (oC GC) 0) (al (oM GM) 0) x3) []) : Wl X (oC GC) (oM GM) sc sm 589 (LV b (al (oC GC) 0) (al (oM GM) 0) x3) [] := by
  obtain ⟨r, sc', sm', e1, e2, e3⟩ := s_mark hR (xv (x3 + 1).toNatClampNeg) (xv (x3 + 2).toNatClampNeg)
  refine l_al h dL_law_589 rfl rfl 1 rfl ?_
  refine l_arg (v := 1) h dL_law_590 dL_law_591 dL_law_592 dL_law_593 dL_law_594 rfl (by decide +kernel) (hi 1 (by decide)) ?_
  refine l_arg (v := 2) h dL_law_595 dL_law_596 dL_law_597 dL_law_598 dL_law_599 rfl (by decide +kernel) (hi 2 (by decide)) ?_
  refine l_callC (As := [.int (xv (x3 + 1).toNatClampNeg), .int (xv (x3 + 2).toNatClampNeg)]) (rest := []) (rv := some (.int r)) h dL_law_600 rfl mlL_61 wcL_X5_mark wiL_X5_mark ⟨Nat.le_of_ble_eq_true rfl, Nat.le_of_ble_eq_true rfl⟩ bC_us rfl rfl rfl rfl (Nat.le_of_ble_eq_true rfl) (fun l => c_X5_mark l _ _ sc r sc' e1) rfl ?_
  refine l_al h dL_law_603 rfl rfl 2 rfl ?_
  refine l_arg (v := 1) h dL_law_604 dL_law_605 dL_law_606 dL_law_607 dL_law_608 rfl (by decide +kernel) (hi 1 (by decide)) ?_
  refine l_arg (v := 2) h dL_law_609 dL_law_610 dL_law_611 dL_law_612 dL_law_613 rfl (by decide +kernel) (hi 2 (by decide)) ?_
  refine l_callM (As := [.int (xv (x3 + 1).toNatClampNeg), .int (xv (x3 + 2).toNatClampNeg)]) (rest := [.int r]) (rv := some (.int r)) h dL_law_614 rfl mlL_64 wcL_X6_mark wiL_X6_mark ⟨Nat.le_of_ble_eq_true rfl, Nat.le_of_ble_eq_true rfl⟩ bM_mo rfl rfl rfl rfl (Nat.le_of_ble_eq_true rfl) (fun l => c_X6_mark l _ _ sm r sm' e2) rfl ?_
  exact l_icmpeq h dL_law_617 rfl (by decide) (fun _ => kk _ _ e3) (fun c9 => absurd rfl c9)
set_option maxRecDepth 20000 in
theorem lc_12 {X : Cx} {GC GM : GG} {b L : Nat} {xv : Nat → Int32} {sc sm : St} {x3 : Int32} (h : Ol X (oC GC) (oM GM) b L xv) (hi : ∀ v : Int32, (v = 1 ∨ v = 2 ∨ v = 3 ∨ v = 4 ∨ v = 5) → vp_in (x3 + v) L) (hR : RR sc sm) (kk : ∀ sc' sm', RR sc' sm' → Wl X (oC GC) (oM GM) sc' sm' 1425 (LV b (al (oC GC) 0) (al (oM GM) 0) x3) []) : Wl X (oC GC) (oM GM) sc sm 622 (LV b (al (oC GC) 0) (al (oM GM) 0) x3) [] := by
  obtain ⟨r, sc', sm', e1, e2, e3⟩ := s_other hR (xv (x3 + 1).toNatClampNeg) (xv (x3 + 2).toNatClampNeg)
  refine l_al h dL_law_622 rfl rfl 1 rfl ?_
  refine l_arg (v := 1) h dL_law_623 dL_law_624 dL_law_625 dL_law_626 dL_law_627 rfl (by decide +kernel) (hi 1 (by decide)) ?_
  refine l_arg (v := 2) h dL_law_628 dL_law_629 dL_law_630 dL_law_631 dL_law_632 rfl (by decide +kernel) (hi 2 (by decide)) ?_
  refine l_callC (As := [.int (xv (x3 + 1).toNatClampNeg), .int (xv (x3 + 2).toNatClampNeg)]) (rest := []) (rv := some (.int r)) h dL_law_633 rfl mlL_65 wcL_X5_other wiL_X5_other ⟨Nat.le_of_ble_eq_true rfl, Nat.le_of_ble_eq_true rfl⟩ bC_us rfl rfl rfl rfl (Nat.le_of_ble_eq_true rfl) (fun l => c_X5_other l _ _ sc r sc' e1) rfl ?_
  refine l_al h dL_law_636 rfl rfl 2 rfl ?_
  refine l_arg (v := 1) h dL_law_637 dL_law_638 dL_law_639 dL_law_640 dL_law_641 rfl (by decide +kernel) (hi 1 (by decide)) ?_
  refine l_arg (v := 2) h dL_law_642 dL_law_643 dL_law_644 dL_law_645 dL_law_646 rfl (by decide +kernel) (hi 2 (by decide)) ?_
  refine l_callM (As := [.int (xv (x3 + 1).toNatClampNeg), .int (xv (x3 + 2).toNatClampNeg)]) (rest := [.int r]) (rv := some (.int r)) h dL_law_647 rfl mlL_68 wcL_X6_other wiL_X6_other ⟨Nat.le_of_ble_eq_true rfl, Nat.le_of_ble_eq_true rfl⟩ bM_mo rfl rfl rfl rfl (Nat.le_of_ble_eq_true rfl) (fun l => c_X6_other l _ _ sm r sm' e2) rfl ?_
  exact l_icmpeq h dL_law_650 rfl (by decide) (fun _ => kk _ _ e3) (fun c9 => absurd rfl c9)
set_option maxRecDepth 20000 in
theorem lc_13 {X : Cx} {GC GM : GG} {b L : Nat} {xv : Nat → Int32} {sc sm : St} {x3 : Int32} (h : Ol X (oC GC) (oM GM) b L xv) (hi : ∀ v : Int32, (v = 1 ∨ v = 2 ∨ v = 3 ∨ v = 4 ∨ v = 5) → vp_in (x3 + v) L) (hR : RR sc sm) (kk : ∀ sc' sm', RR sc' sm' → Wl X (oC GC) (oM GM) sc' sm' 1425 (LV b (al (oC GC) 0) (al (oM GM) 0) x3) []) : Wl X (oC GC) (oM GM) sc sm 655 (LV b (al (oC GC) 0) (al (oM GM) 0) x3) [] := by
  obtain ⟨r, sc', sm', e1, e2, e3⟩ := s_serve hR (xv (x3 + 1).toNatClampNeg) (xv (x3 + 2).toNatClampNeg)
  refine l_al h dL_law_655 rfl rfl 1 rfl ?_
  refine l_arg (v := 1) h dL_law_656 dL_law_657 dL_law_658 dL_law_659 dL_law_660 rfl (by decide +kernel) (hi 1 (by decide)) ?_
  refine l_arg (v := 2) h dL_law_661 dL_law_662 dL_law_663 dL_law_664 dL_law_665 rfl (by decide +kernel) (hi 2 (by decide)) ?_
  refine l_callC (As := [.int (xv (x3 + 1).toNatClampNeg), .int (xv (x3 + 2).toNatClampNeg)]) (rest := []) (rv := some (.int r)) h dL_law_666 rfl mlL_69 wcL_X5_serve wiL_X5_serve ⟨Nat.le_of_ble_eq_true rfl, Nat.le_of_ble_eq_true rfl⟩ bC_us rfl rfl rfl rfl (Nat.le_of_ble_eq_true rfl) (fun l => c_X5_serve l _ _ sc r sc' e1) rfl ?_
  refine l_al h dL_law_669 rfl rfl 2 rfl ?_
  refine l_arg (v := 1) h dL_law_670 dL_law_671 dL_law_672 dL_law_673 dL_law_674 rfl (by decide +kernel) (hi 1 (by decide)) ?_
  refine l_arg (v := 2) h dL_law_675 dL_law_676 dL_law_677 dL_law_678 dL_law_679 rfl (by decide +kernel) (hi 2 (by decide)) ?_
  refine l_callM (As := [.int (xv (x3 + 1).toNatClampNeg), .int (xv (x3 + 2).toNatClampNeg)]) (rest := [.int r]) (rv := some (.int r)) h dL_law_680 rfl mlL_72 wcL_X6_serve wiL_X6_serve ⟨Nat.le_of_ble_eq_true rfl, Nat.le_of_ble_eq_true rfl⟩ bM_mo rfl rfl rfl rfl (Nat.le_of_ble_eq_true rfl) (fun l => c_X6_serve l _ _ sm r sm' e2) rfl ?_
  exact l_icmpeq h dL_law_683 rfl (by decide) (fun _ => kk _ _ e3) (fun c9 => absurd rfl c9)
set_option maxRecDepth 20000 in
theorem lc_14 {X : Cx} {GC GM : GG} {b L : Nat} {xv : Nat → Int32} {sc sm : St} {x3 : Int32} (h : Ol X (oC GC) (oM GM) b L xv) (hi : ∀ v : Int32, (v = 1 ∨ v = 2 ∨ v = 3 ∨ v = 4 ∨ v = 5) → vp_in (x3 + v) L) (hR : RR sc sm) (kk : ∀ sc' sm', RR sc' sm' → Wl X (oC GC) (oM GM) sc' sm' 1425 (LV b (al (oC GC) 0) (al (oM GM) 0) x3) []) : Wl X (oC GC) (oM GM) sc sm 688 (LV b (al (oC GC) 0) (al (oM GM) 0) x3) [] := by
  obtain ⟨r, sc', sm', e1, e2, e3⟩ := s_morning hR 
  refine l_al h dL_law_688 rfl rfl 1 rfl ?_
  refine l_callC (As := []) (rest := []) (rv := some (.int r)) h dL_law_689 rfl mlL_73 wcL_X5_morning wiL_X5_morning ⟨Nat.le_of_ble_eq_true rfl, Nat.le_of_ble_eq_true rfl⟩ bC_us rfl rfl rfl rfl (Nat.le_of_ble_eq_true rfl) (fun l => c_X5_morning l  sc r sc' e1) rfl ?_
  refine l_al h dL_law_692 rfl rfl 2 rfl ?_
  refine l_callM (As := []) (rest := [.int r]) (rv := some (.int r)) h dL_law_693 rfl mlL_77 wcL_X6_morning wiL_X6_morning ⟨Nat.le_of_ble_eq_true rfl, Nat.le_of_ble_eq_true rfl⟩ bM_mo rfl rfl rfl rfl (Nat.le_of_ble_eq_true rfl) (fun l => c_X6_morning l  sm r sm' e2) rfl ?_
  exact l_icmpeq h dL_law_696 rfl (by decide) (fun _ => kk _ _ e3) (fun c9 => absurd rfl c9)
set_option maxRecDepth 20000 in
theorem lc_15 {X : Cx} {GC GM : GG} {b L : Nat} {xv : Nat → Int32} {sc sm : St} {x3 : Int32} (h : Ol X (oC GC) (oM GM) b L xv) (hi : ∀ v : Int32, (v = 1 ∨ v = 2 ∨ v = 3 ∨ v = 4 ∨ v = 5) → vp_in (x3 + v) L) (hR : RR sc sm) (kk : ∀ sc' sm', RR sc' sm' → Wl X (oC GC) (oM GM) sc' sm' 1425 (LV b (al (oC GC) 0) (al (oM GM) 0) x3) []) : Wl X (oC GC) (oM GM) sc sm 701 (LV b (al (oC GC) 0) (al (oM GM) 0) x3) [] := by
  obtain ⟨r, sc', sm', e1, e2, e3⟩ := s_undo hR (xv (x3 + 1).toNatClampNeg)
  refine l_al h dL_law_701 rfl rfl 1 rfl ?_
  refine l_arg (v := 1) h dL_law_702 dL_law_703 dL_law_704 dL_law_705 dL_law_706 rfl (by decide +kernel) (hi 1 (by decide)) ?_
  refine l_callC (As := [.int (xv (x3 + 1).toNatClampNeg)]) (rest := []) (rv := some (.int r)) h dL_law_707 rfl mlL_78 wcL_X5_undo wiL_X5_undo ⟨Nat.le_of_ble_eq_true rfl, Nat.le_of_ble_eq_true rfl⟩ bC_us rfl rfl rfl rfl (Nat.le_of_ble_eq_true rfl) (fun l => c_X5_undo l _ sc r sc' e1) rfl ?_
  refine l_al h dL_law_710 rfl rfl 2 rfl ?_
  refine l_arg (v := 1) h dL_law_711 dL_law_712 dL_law_713 dL_law_714 dL_law_715 rfl (by decide +kernel) (hi 1 (by decide)) ?_
  refine l_callM (As := [.int (xv (x3 + 1).toNatClampNeg)]) (rest := [.int r]) (rv := some (.int r)) h dL_law_716 rfl mlL_81 wcL_X6_undo wiL_X6_undo ⟨Nat.le_of_ble_eq_true rfl, Nat.le_of_ble_eq_true rfl⟩ bM_mo rfl rfl rfl rfl (Nat.le_of_ble_eq_true rfl) (fun l => c_X6_undo l _ sm r sm' e2) rfl ?_
  exact l_icmpeq h dL_law_719 rfl (by decide) (fun _ => kk _ _ e3) (fun c9 => absurd rfl c9)
set_option maxRecDepth 20000 in
theorem lc_16 {X : Cx} {GC GM : GG} {b L : Nat} {xv : Nat → Int32} {sc sm : St} {x3 : Int32} (h : Ol X (oC GC) (oM GM) b L xv) (hi : ∀ v : Int32, (v = 1 ∨ v = 2 ∨ v = 3 ∨ v = 4 ∨ v = 5) → vp_in (x3 + v) L) (hR : RR sc sm) (kk : ∀ sc' sm', RR sc' sm' → Wl X (oC GC) (oM GM) sc' sm' 1425 (LV b (al (oC GC) 0) (al (oM GM) 0) x3) []) : Wl X (oC GC) (oM GM) sc sm 724 (LV b (al (oC GC) 0) (al (oM GM) 0) x3) [] := by
  obtain ⟨r, sc', sm', e1, e2, e3⟩ := s_keep hR (xv (x3 + 1).toNatClampNeg)
  refine l_al h dL_law_724 rfl rfl 1 rfl ?_
  refine l_arg (v := 1) h dL_law_725 dL_law_726 dL_law_727 dL_law_728 dL_law_729 rfl (by decide +kernel) (hi 1 (by decide)) ?_
  refine l_callC (As := [.int (xv (x3 + 1).toNatClampNeg)]) (rest := []) (rv := some (.int r)) h dL_law_730 rfl mlL_82 wcL_X5_keep wiL_X5_keep ⟨Nat.le_of_ble_eq_true rfl, Nat.le_of_ble_eq_true rfl⟩ bC_us rfl rfl rfl rfl (Nat.le_of_ble_eq_true rfl) (fun l => c_X5_keep l _ sc r sc' e1) rfl ?_
  refine l_al h dL_law_733 rfl rfl 2 rfl ?_
  refine l_arg (v := 1) h dL_law_734 dL_law_735 dL_law_736 dL_law_737 dL_law_738 rfl (by decide +kernel) (hi 1 (by decide)) ?_
  refine l_callM (As := [.int (xv (x3 + 1).toNatClampNeg)]) (rest := [.int r]) (rv := some (.int r)) h dL_law_739 rfl mlL_85 wcL_X6_keep wiL_X6_keep ⟨Nat.le_of_ble_eq_true rfl, Nat.le_of_ble_eq_true rfl⟩ bM_mo rfl rfl rfl rfl (Nat.le_of_ble_eq_true rfl) (fun l => c_X6_keep l _ sm r sm' e2) rfl ?_
  exact l_icmpeq h dL_law_742 rfl (by decide) (fun _ => kk _ _ e3) (fun c9 => absurd rfl c9)
set_option maxRecDepth 20000 in
theorem lc_17 {X : Cx} {GC GM : GG} {b L : Nat} {xv : Nat → Int32} {sc sm : St} {x3 : Int32} (h : Ol X (oC GC) (oM GM) b L xv) (hi : ∀ v : Int32, (v = 1 ∨ v = 2 ∨ v = 3 ∨ v = 4 ∨ v = 5) → vp_in (x3 + v) L) (hR : RR sc sm) (kk : ∀ sc' sm', RR sc' sm' → Wl X (oC GC) (oM GM) sc' sm' 1425 (LV b (al (oC GC) 0) (al (oM GM) 0) x3) []) : Wl X (oC GC) (oM GM) sc sm 747 (LV b (al (oC GC) 0) (al (oM GM) 0) x3) [] := by
  obtain ⟨r, sc', sm', e1, e2, e3⟩ := s_on hR (xv (x3 + 1).toNatClampNeg)
  refine l_al h dL_law_747 rfl rfl 1 rfl ?_
  refine l_arg (v := 1) h dL_law_748 dL_law_749 dL_law_750 dL_law_751 dL_law_752 rfl (by decide +kernel) (hi 1 (by decide)) ?_
  refine l_callC (As := [.int (xv (x3 + 1).toNatClampNeg)]) (rest := []) (rv := some (.int r)) h dL_law_753 rfl mlL_86 wcL_X5_on wiL_X5_on ⟨Nat.le_of_ble_eq_true rfl, Nat.le_of_ble_eq_true rfl⟩ bC_us rfl rfl rfl rfl (Nat.le_of_ble_eq_true rfl) (fun l => c_X5_on l _ sc r sc' e1) rfl ?_
  refine l_al h dL_law_756 rfl rfl 2 rfl ?_
  refine l_arg (v := 1) h dL_law_757 dL_law_758 dL_law_759 dL_law_760 dL_law_761 rfl (by decide +kernel) (hi 1 (by decide)) ?_
  refine l_callM (As := [.int (xv (x3 + 1).toNatClampNeg)]) (rest := [.int r]) (rv := some (.int r)) h dL_law_762 rfl mlL_89 wcL_X6_on wiL_X6_on ⟨Nat.le_of_ble_eq_true rfl, Nat.le_of_ble_eq_true rfl⟩ bM_mo rfl rfl rfl rfl (Nat.le_of_ble_eq_true rfl) (fun l => c_X6_on l _ sm r sm' e2) rfl ?_
  exact l_icmpeq h dL_law_765 rfl (by decide) (fun _ => kk _ _ e3) (fun c9 => absurd rfl c9)
set_option maxRecDepth 20000 in
theorem lc_18 {X : Cx} {GC GM : GG} {b L : Nat} {xv : Nat → Int32} {sc sm : St} {x3 : Int32} (h : Ol X (oC GC) (oM GM) b L xv) (hi : ∀ v : Int32, (v = 1 ∨ v = 2 ∨ v = 3 ∨ v = 4 ∨ v = 5) → vp_in (x3 + v) L) (hR : RR sc sm) (kk : ∀ sc' sm', RR sc' sm' → Wl X (oC GC) (oM GM) sc' sm' 1425 (LV b (al (oC GC) 0) (al (oM GM) 0) x3) []) : Wl X (oC GC) (oM GM) sc sm 770 (LV b (al (oC GC) 0) (al (oM GM) 0) x3) [] := by
  obtain ⟨r, sc', sm', e1, e2, e3⟩ := s_who hR (xv (x3 + 1).toNatClampNeg) (xv (x3 + 2).toNatClampNeg)
  refine l_al h dL_law_770 rfl rfl 1 rfl ?_
  refine l_arg (v := 1) h dL_law_771 dL_law_772 dL_law_773 dL_law_774 dL_law_775 rfl (by decide +kernel) (hi 1 (by decide)) ?_
  refine l_arg (v := 2) h dL_law_776 dL_law_777 dL_law_778 dL_law_779 dL_law_780 rfl (by decide +kernel) (hi 2 (by decide)) ?_
  refine l_callC (As := [.int (xv (x3 + 1).toNatClampNeg), .int (xv (x3 + 2).toNatClampNeg)]) (rest := []) (rv := some (.int r)) h dL_law_781 rfl mlL_90 wcL_X5_who wiL_X5_who ⟨Nat.le_of_ble_eq_true rfl, Nat.le_of_ble_eq_true rfl⟩ bC_us rfl rfl rfl rfl (Nat.le_of_ble_eq_true rfl) (fun l => c_X5_who l _ _ sc r sc' e1) rfl ?_
  refine l_al h dL_law_784 rfl rfl 2 rfl ?_
  refine l_arg (v := 1) h dL_law_785 dL_law_786 dL_law_787 dL_law_788 dL_law_789 rfl (by decide +kernel) (hi 1 (by decide)) ?_
  refine l_arg (v := 2) h dL_law_790 dL_law_791 dL_law_792 dL_law_793 dL_law_794 rfl (by decide +kernel) (hi 2 (by decide)) ?_
  refine l_callM (As := [.int (xv (x3 + 1).toNatClampNeg), .int (xv (x3 + 2).toNatClampNeg)]) (rest := [.int r]) (rv := some (.int r)) h dL_law_795 rfl mlL_93 wcL_X6_who wiL_X6_who ⟨Nat.le_of_ble_eq_true rfl, Nat.le_of_ble_eq_true rfl⟩ bM_mo rfl rfl rfl rfl (Nat.le_of_ble_eq_true rfl) (fun l => c_X6_who l _ _ sm r sm' e2) rfl ?_
  exact l_icmpeq h dL_law_798 rfl (by decide) (fun _ => kk _ _ e3) (fun c9 => absurd rfl c9)
set_option maxRecDepth 20000 in
theorem lc_19 {X : Cx} {GC GM : GG} {b L : Nat} {xv : Nat → Int32} {sc sm : St} {x3 : Int32} (h : Ol X (oC GC) (oM GM) b L xv) (hi : ∀ v : Int32, (v = 1 ∨ v = 2 ∨ v = 3 ∨ v = 4 ∨ v = 5) → vp_in (x3 + v) L) (hR : RR sc sm) (kk : ∀ sc' sm', RR sc' sm' → Wl X (oC GC) (oM GM) sc' sm' 1425 (LV b (al (oC GC) 0) (al (oM GM) 0) x3) []) : Wl X (oC GC) (oM GM) sc sm 803 (LV b (al (oC GC) 0) (al (oM GM) 0) x3) [] := by
  obtain ⟨r, sc', sm', e1, e2, e3⟩ := s_parts hR (xv (x3 + 1).toNatClampNeg) (xv (x3 + 2).toNatClampNeg)
  refine l_al h dL_law_803 rfl rfl 1 rfl ?_
  refine l_arg (v := 1) h dL_law_804 dL_law_805 dL_law_806 dL_law_807 dL_law_808 rfl (by decide +kernel) (hi 1 (by decide)) ?_
  refine l_arg (v := 2) h dL_law_809 dL_law_810 dL_law_811 dL_law_812 dL_law_813 rfl (by decide +kernel) (hi 2 (by decide)) ?_
  refine l_callC (As := [.int (xv (x3 + 1).toNatClampNeg), .int (xv (x3 + 2).toNatClampNeg)]) (rest := []) (rv := some (.int r)) h dL_law_814 rfl mlL_94 wcL_X5_parts wiL_X5_parts ⟨Nat.le_of_ble_eq_true rfl, Nat.le_of_ble_eq_true rfl⟩ bC_us rfl rfl rfl rfl (Nat.le_of_ble_eq_true rfl) (fun l => c_X5_parts l _ _ sc r sc' e1) rfl ?_
  refine l_al h dL_law_817 rfl rfl 2 rfl ?_
  refine l_arg (v := 1) h dL_law_818 dL_law_819 dL_law_820 dL_law_821 dL_law_822 rfl (by decide +kernel) (hi 1 (by decide)) ?_
  refine l_arg (v := 2) h dL_law_823 dL_law_824 dL_law_825 dL_law_826 dL_law_827 rfl (by decide +kernel) (hi 2 (by decide)) ?_
  refine l_callM (As := [.int (xv (x3 + 1).toNatClampNeg), .int (xv (x3 + 2).toNatClampNeg)]) (rest := [.int r]) (rv := some (.int r)) h dL_law_828 rfl mlL_97 wcL_X6_parts wiL_X6_parts ⟨Nat.le_of_ble_eq_true rfl, Nat.le_of_ble_eq_true rfl⟩ bM_mo rfl rfl rfl rfl (Nat.le_of_ble_eq_true rfl) (fun l => c_X6_parts l _ _ sm r sm' e2) rfl ?_
  exact l_icmpeq h dL_law_831 rfl (by decide) (fun _ => kk _ _ e3) (fun c9 => absurd rfl c9)
set_option maxRecDepth 20000 in
theorem lc_20 {X : Cx} {GC GM : GG} {b L : Nat} {xv : Nat → Int32} {sc sm : St} {x3 : Int32} (h : Ol X (oC GC) (oM GM) b L xv) (hi : ∀ v : Int32, (v = 1 ∨ v = 2 ∨ v = 3 ∨ v = 4 ∨ v = 5) → vp_in (x3 + v) L) (hR : RR sc sm) (kk : ∀ sc' sm', RR sc' sm' → Wl X (oC GC) (oM GM) sc' sm' 1425 (LV b (al (oC GC) 0) (al (oM GM) 0) x3) []) : Wl X (oC GC) (oM GM) sc sm 836 (LV b (al (oC GC) 0) (al (oM GM) 0) x3) [] := by
  obtain ⟨r, sc', sm', e1, e2, e3⟩ := s_wants hR (xv (x3 + 1).toNatClampNeg) (xv (x3 + 2).toNatClampNeg)
  refine l_al h dL_law_836 rfl rfl 1 rfl ?_
  refine l_arg (v := 1) h dL_law_837 dL_law_838 dL_law_839 dL_law_840 dL_law_841 rfl (by decide +kernel) (hi 1 (by decide)) ?_
  refine l_arg (v := 2) h dL_law_842 dL_law_843 dL_law_844 dL_law_845 dL_law_846 rfl (by decide +kernel) (hi 2 (by decide)) ?_
  refine l_callC (As := [.int (xv (x3 + 1).toNatClampNeg), .int (xv (x3 + 2).toNatClampNeg)]) (rest := []) (rv := some (.int r)) h dL_law_847 rfl mlL_98 wcL_X5_wants wiL_X5_wants ⟨Nat.le_of_ble_eq_true rfl, Nat.le_of_ble_eq_true rfl⟩ bC_us rfl rfl rfl rfl (Nat.le_of_ble_eq_true rfl) (fun l => c_X5_wants l _ _ sc r sc' e1) rfl ?_
  refine l_al h dL_law_850 rfl rfl 2 rfl ?_
  refine l_arg (v := 1) h dL_law_851 dL_law_852 dL_law_853 dL_law_854 dL_law_855 rfl (by decide +kernel) (hi 1 (by decide)) ?_
  refine l_arg (v := 2) h dL_law_856 dL_law_857 dL_law_858 dL_law_859 dL_law_860 rfl (by decide +kernel) (hi 2 (by decide)) ?_
  refine l_callM (As := [.int (xv (x3 + 1).toNatClampNeg), .int (xv (x3 + 2).toNatClampNeg)]) (rest := [.int r]) (rv := some (.int r)) h dL_law_861 rfl mlL_101 wcL_X6_wants wiL_X6_wants ⟨Nat.le_of_ble_eq_true rfl, Nat.le_of_ble_eq_true rfl⟩ bM_mo rfl rfl rfl rfl (Nat.le_of_ble_eq_true rfl) (fun l => c_X6_wants l _ _ sm r sm' e2) rfl ?_
  exact l_icmpeq h dL_law_864 rfl (by decide) (fun _ => kk _ _ e3) (fun c9 => absurd rfl c9)
set_option maxRecDepth 20000 in
theorem lc_21 {X : Cx} {GC GM : GG} {b L : Nat} {xv : Nat → Int32} {sc sm : St} {x3 : Int32} (h : Ol X (oC GC) (oM GM) b L xv) (hi : ∀ v : Int32, (v = 1 ∨ v = 2 ∨ v = 3 ∨ v = 4 ∨ v = 5) → vp_in (x3 + v) L) (hR : RR sc sm) (kk : ∀ sc' sm', RR sc' sm' → Wl X (oC GC) (oM GM) sc' sm' 1425 (LV b (al (oC GC) 0) (al (oM GM) 0) x3) []) : Wl X (oC GC) (oM GM) sc sm 869 (LV b (al (oC GC) 0) (al (oM GM) 0) x3) [] := by
  obtain ⟨r, sc', sm', e1, e2, e3⟩ := s_likely hR (xv (x3 + 1).toNatClampNeg) (xv (x3 + 2).toNatClampNeg) (xv (x3 + 3).toNatClampNeg)
  refine l_al h dL_law_869 rfl rfl 1 rfl ?_
  refine l_arg (v := 1) h dL_law_870 dL_law_871 dL_law_872 dL_law_873 dL_law_874 rfl (by decide +kernel) (hi 1 (by decide)) ?_
  refine l_arg (v := 2) h dL_law_875 dL_law_876 dL_law_877 dL_law_878 dL_law_879 rfl (by decide +kernel) (hi 2 (by decide)) ?_
  refine l_arg (v := 3) h dL_law_880 dL_law_881 dL_law_882 dL_law_883 dL_law_884 rfl (by decide +kernel) (hi 3 (by decide)) ?_
  refine l_callC (As := [.int (xv (x3 + 1).toNatClampNeg), .int (xv (x3 + 2).toNatClampNeg), .int (xv (x3 + 3).toNatClampNeg)]) (rest := []) (rv := some (.int r)) h dL_law_885 rfl mlL_102 wcL_X5_likely wiL_X5_likely ⟨Nat.le_of_ble_eq_true rfl, Nat.le_of_ble_eq_true rfl⟩ bC_us rfl rfl rfl rfl (Nat.le_of_ble_eq_true rfl) (fun l => c_X5_likely l _ _ _ sc r sc' e1) rfl ?_
  refine l_al h dL_law_888 rfl rfl 2 rfl ?_
  refine l_arg (v := 1) h dL_law_889 dL_law_890 dL_law_891 dL_law_892 dL_law_893 rfl (by decide +kernel) (hi 1 (by decide)) ?_
  refine l_arg (v := 2) h dL_law_894 dL_law_895 dL_law_896 dL_law_897 dL_law_898 rfl (by decide +kernel) (hi 2 (by decide)) ?_
  refine l_arg (v := 3) h dL_law_899 dL_law_900 dL_law_901 dL_law_902 dL_law_903 rfl (by decide +kernel) (hi 3 (by decide)) ?_
  refine l_callM (As := [.int (xv (x3 + 1).toNatClampNeg), .int (xv (x3 + 2).toNatClampNeg), .int (xv (x3 + 3).toNatClampNeg)]) (rest := [.int r]) (rv := some (.int r)) h dL_law_904 rfl mlL_105 wcL_X6_likely wiL_X6_likely ⟨Nat.le_of_ble_eq_true rfl, Nat.le_of_ble_eq_true rfl⟩ bM_mo rfl rfl rfl rfl (Nat.le_of_ble_eq_true rfl) (fun l => c_X6_likely l _ _ _ sm r sm' e2) rfl ?_
  exact l_icmpeq h dL_law_907 rfl (by decide) (fun _ => kk _ _ e3) (fun c9 => absurd rfl c9)
set_option maxRecDepth 20000 in
theorem lc_22 {X : Cx} {GC GM : GG} {b L : Nat} {xv : Nat → Int32} {sc sm : St} {x3 : Int32} (h : Ol X (oC GC) (oM GM) b L xv) (hi : ∀ v : Int32, (v = 1 ∨ v = 2 ∨ v = 3 ∨ v = 4 ∨ v = 5) → vp_in (x3 + v) L) (hR : RR sc sm) (kk : ∀ sc' sm', RR sc' sm' → Wl X (oC GC) (oM GM) sc' sm' 1425 (LV b (al (oC GC) 0) (al (oM GM) 0) x3) []) : Wl X (oC GC) (oM GM) sc sm 912 (LV b (al (oC GC) 0) (al (oM GM) 0) x3) [] := by
  obtain ⟨r, sc', sm', e1, e2, e3⟩ := s_takes hR (xv (x3 + 1).toNatClampNeg) (xv (x3 + 2).toNatClampNeg) (xv (x3 + 3).toNatClampNeg)
  refine l_al h dL_law_912 rfl rfl 1 rfl ?_
  refine l_arg (v := 1) h dL_law_913 dL_law_914 dL_law_915 dL_law_916 dL_law_917 rfl (by decide +kernel) (hi 1 (by decide)) ?_
  refine l_arg (v := 2) h dL_law_918 dL_law_919 dL_law_920 dL_law_921 dL_law_922 rfl (by decide +kernel) (hi 2 (by decide)) ?_
  refine l_arg (v := 3) h dL_law_923 dL_law_924 dL_law_925 dL_law_926 dL_law_927 rfl (by decide +kernel) (hi 3 (by decide)) ?_
  refine l_callC (As := [.int (xv (x3 + 1).toNatClampNeg), .int (xv (x3 + 2).toNatClampNeg), .int (xv (x3 + 3).toNatClampNeg)]) (rest := []) (rv := some (.int r)) h dL_law_928 rfl mlL_106 wcL_X5_takes wiL_X5_takes ⟨Nat.le_of_ble_eq_true rfl, Nat.le_of_ble_eq_true rfl⟩ bC_us rfl rfl rfl rfl (Nat.le_of_ble_eq_true rfl) (fun l => c_X5_takes l _ _ _ sc r sc' e1) rfl ?_
  refine l_al h dL_law_931 rfl rfl 2 rfl ?_
  refine l_arg (v := 1) h dL_law_932 dL_law_933 dL_law_934 dL_law_935 dL_law_936 rfl (by decide +kernel) (hi 1 (by decide)) ?_
  refine l_arg (v := 2) h dL_law_937 dL_law_938 dL_law_939 dL_law_940 dL_law_941 rfl (by decide +kernel) (hi 2 (by decide)) ?_
  refine l_arg (v := 3) h dL_law_942 dL_law_943 dL_law_944 dL_law_945 dL_law_946 rfl (by decide +kernel) (hi 3 (by decide)) ?_
  refine l_callM (As := [.int (xv (x3 + 1).toNatClampNeg), .int (xv (x3 + 2).toNatClampNeg), .int (xv (x3 + 3).toNatClampNeg)]) (rest := [.int r]) (rv := some (.int r)) h dL_law_947 rfl mlL_109 wcL_X6_takes wiL_X6_takes ⟨Nat.le_of_ble_eq_true rfl, Nat.le_of_ble_eq_true rfl⟩ bM_mo rfl rfl rfl rfl (Nat.le_of_ble_eq_true rfl) (fun l => c_X6_takes l _ _ _ sm r sm' e2) rfl ?_
  exact l_icmpeq h dL_law_950 rfl (by decide) (fun _ => kk _ _ e3) (fun c9 => absurd rfl c9)
set_option maxRecDepth 20000 in
theorem lc_23 {X : Cx} {GC GM : GG} {b L : Nat} {xv : Nat → Int32} {sc sm : St} {x3 : Int32} (h : Ol X (oC GC) (oM GM) b L xv) (hi : ∀ v : Int32, (v = 1 ∨ v = 2 ∨ v = 3 ∨ v = 4 ∨ v = 5) → vp_in (x3 + v) L) (hR : RR sc sm) (kk : ∀ sc' sm', RR sc' sm' → Wl X (oC GC) (oM GM) sc' sm' 1425 (LV b (al (oC GC) 0) (al (oM GM) 0) x3) []) : Wl X (oC GC) (oM GM) sc sm 955 (LV b (al (oC GC) 0) (al (oM GM) 0) x3) [] := by
  obtain ⟨r, sc', sm', e1, e2, e3⟩ := s_quickest hR (xv (x3 + 1).toNatClampNeg) (xv (x3 + 2).toNatClampNeg)
  refine l_al h dL_law_955 rfl rfl 1 rfl ?_
  refine l_arg (v := 1) h dL_law_956 dL_law_957 dL_law_958 dL_law_959 dL_law_960 rfl (by decide +kernel) (hi 1 (by decide)) ?_
  refine l_arg (v := 2) h dL_law_961 dL_law_962 dL_law_963 dL_law_964 dL_law_965 rfl (by decide +kernel) (hi 2 (by decide)) ?_
  refine l_callC (As := [.int (xv (x3 + 1).toNatClampNeg), .int (xv (x3 + 2).toNatClampNeg)]) (rest := []) (rv := some (.int r)) h dL_law_966 rfl mlL_110 wcL_X5_quickest wiL_X5_quickest ⟨Nat.le_of_ble_eq_true rfl, Nat.le_of_ble_eq_true rfl⟩ bC_us rfl rfl rfl rfl (Nat.le_of_ble_eq_true rfl) (fun l => c_X5_quickest l _ _ sc r sc' e1) rfl ?_
  refine l_al h dL_law_969 rfl rfl 2 rfl ?_
  refine l_arg (v := 1) h dL_law_970 dL_law_971 dL_law_972 dL_law_973 dL_law_974 rfl (by decide +kernel) (hi 1 (by decide)) ?_
  refine l_arg (v := 2) h dL_law_975 dL_law_976 dL_law_977 dL_law_978 dL_law_979 rfl (by decide +kernel) (hi 2 (by decide)) ?_
  refine l_callM (As := [.int (xv (x3 + 1).toNatClampNeg), .int (xv (x3 + 2).toNatClampNeg)]) (rest := [.int r]) (rv := some (.int r)) h dL_law_980 rfl mlL_113 wcL_X6_quickest wiL_X6_quickest ⟨Nat.le_of_ble_eq_true rfl, Nat.le_of_ble_eq_true rfl⟩ bM_mo rfl rfl rfl rfl (Nat.le_of_ble_eq_true rfl) (fun l => c_X6_quickest l _ _ sm r sm' e2) rfl ?_
  exact l_icmpeq h dL_law_983 rfl (by decide) (fun _ => kk _ _ e3) (fun c9 => absurd rfl c9)
set_option maxRecDepth 20000 in
theorem lc_24 {X : Cx} {GC GM : GG} {b L : Nat} {xv : Nat → Int32} {sc sm : St} {x3 : Int32} (h : Ol X (oC GC) (oM GM) b L xv) (hi : ∀ v : Int32, (v = 1 ∨ v = 2 ∨ v = 3 ∨ v = 4 ∨ v = 5) → vp_in (x3 + v) L) (hR : RR sc sm) (kk : ∀ sc' sm', RR sc' sm' → Wl X (oC GC) (oM GM) sc' sm' 1425 (LV b (al (oC GC) 0) (al (oM GM) 0) x3) []) : Wl X (oC GC) (oM GM) sc sm 988 (LV b (al (oC GC) 0) (al (oM GM) 0) x3) [] := by
  obtain ⟨r, sc', sm', e1, e2, e3⟩ := s_queue hR (xv (x3 + 1).toNatClampNeg)
  refine l_al h dL_law_988 rfl rfl 1 rfl ?_
  refine l_arg (v := 1) h dL_law_989 dL_law_990 dL_law_991 dL_law_992 dL_law_993 rfl (by decide +kernel) (hi 1 (by decide)) ?_
  refine l_callC (As := [.int (xv (x3 + 1).toNatClampNeg)]) (rest := []) (rv := some (.int r)) h dL_law_994 rfl mlL_114 wcL_X5_queue wiL_X5_queue ⟨Nat.le_of_ble_eq_true rfl, Nat.le_of_ble_eq_true rfl⟩ bC_us rfl rfl rfl rfl (Nat.le_of_ble_eq_true rfl) (fun l => c_X5_queue l _ sc r sc' e1) rfl ?_
  refine l_al h dL_law_997 rfl rfl 2 rfl ?_
  refine l_arg (v := 1) h dL_law_998 dL_law_999 dL_law_1000 dL_law_1001 dL_law_1002 rfl (by decide +kernel) (hi 1 (by decide)) ?_
  refine l_callM (As := [.int (xv (x3 + 1).toNatClampNeg)]) (rest := [.int r]) (rv := some (.int r)) h dL_law_1003 rfl mlL_117 wcL_X6_queue wiL_X6_queue ⟨Nat.le_of_ble_eq_true rfl, Nat.le_of_ble_eq_true rfl⟩ bM_mo rfl rfl rfl rfl (Nat.le_of_ble_eq_true rfl) (fun l => c_X6_queue l _ sm r sm' e2) rfl ?_
  exact l_icmpeq h dL_law_1006 rfl (by decide) (fun _ => kk _ _ e3) (fun c9 => absurd rfl c9)
set_option maxRecDepth 20000 in
theorem lc_25 {X : Cx} {GC GM : GG} {b L : Nat} {xv : Nat → Int32} {sc sm : St} {x3 : Int32} (h : Ol X (oC GC) (oM GM) b L xv) (hi : ∀ v : Int32, (v = 1 ∨ v = 2 ∨ v = 3 ∨ v = 4 ∨ v = 5) → vp_in (x3 + v) L) (hR : RR sc sm) (kk : ∀ sc' sm', RR sc' sm' → Wl X (oC GC) (oM GM) sc' sm' 1425 (LV b (al (oC GC) 0) (al (oM GM) 0) x3) []) : Wl X (oC GC) (oM GM) sc sm 1011 (LV b (al (oC GC) 0) (al (oM GM) 0) x3) [] := by
  obtain ⟨r, sc', sm', e1, e2, e3⟩ := s_by hR (xv (x3 + 1).toNatClampNeg) (xv (x3 + 2).toNatClampNeg)
  refine l_al h dL_law_1011 rfl rfl 1 rfl ?_
  refine l_arg (v := 1) h dL_law_1012 dL_law_1013 dL_law_1014 dL_law_1015 dL_law_1016 rfl (by decide +kernel) (hi 1 (by decide)) ?_
  refine l_arg (v := 2) h dL_law_1017 dL_law_1018 dL_law_1019 dL_law_1020 dL_law_1021 rfl (by decide +kernel) (hi 2 (by decide)) ?_
  refine l_callC (As := [.int (xv (x3 + 1).toNatClampNeg), .int (xv (x3 + 2).toNatClampNeg)]) (rest := []) (rv := some (.int r)) h dL_law_1022 rfl mlL_118 wcL_X5_by wiL_X5_by ⟨Nat.le_of_ble_eq_true rfl, Nat.le_of_ble_eq_true rfl⟩ bC_us rfl rfl rfl rfl (Nat.le_of_ble_eq_true rfl) (fun l => c_X5_by l _ _ sc r sc' e1) rfl ?_
  refine l_al h dL_law_1025 rfl rfl 2 rfl ?_
  refine l_arg (v := 1) h dL_law_1026 dL_law_1027 dL_law_1028 dL_law_1029 dL_law_1030 rfl (by decide +kernel) (hi 1 (by decide)) ?_
  refine l_arg (v := 2) h dL_law_1031 dL_law_1032 dL_law_1033 dL_law_1034 dL_law_1035 rfl (by decide +kernel) (hi 2 (by decide)) ?_
  refine l_callM (As := [.int (xv (x3 + 1).toNatClampNeg), .int (xv (x3 + 2).toNatClampNeg)]) (rest := [.int r]) (rv := some (.int r)) h dL_law_1036 rfl mlL_121 wcL_X6_by wiL_X6_by ⟨Nat.le_of_ble_eq_true rfl, Nat.le_of_ble_eq_true rfl⟩ bM_mo rfl rfl rfl rfl (Nat.le_of_ble_eq_true rfl) (fun l => c_X6_by l _ _ sm r sm' e2) rfl ?_
  exact l_icmpeq h dL_law_1039 rfl (by decide) (fun _ => kk _ _ e3) (fun c9 => absurd rfl c9)
set_option maxRecDepth 20000 in
theorem lc_26 {X : Cx} {GC GM : GG} {b L : Nat} {xv : Nat → Int32} {sc sm : St} {x3 : Int32} (h : Ol X (oC GC) (oM GM) b L xv) (hi : ∀ v : Int32, (v = 1 ∨ v = 2 ∨ v = 3 ∨ v = 4 ∨ v = 5) → vp_in (x3 + v) L) (hR : RR sc sm) (kk : ∀ sc' sm', RR sc' sm' → Wl X (oC GC) (oM GM) sc' sm' 1425 (LV b (al (oC GC) 0) (al (oM GM) 0) x3) []) : Wl X (oC GC) (oM GM) sc sm 1044 (LV b (al (oC GC) 0) (al (oM GM) 0) x3) [] := by
  obtain ⟨r, sc', sm', e1, e2, e3⟩ := s_order hR (xv (x3 + 1).toNatClampNeg)
  refine l_al h dL_law_1044 rfl rfl 1 rfl ?_
  refine l_arg (v := 1) h dL_law_1045 dL_law_1046 dL_law_1047 dL_law_1048 dL_law_1049 rfl (by decide +kernel) (hi 1 (by decide)) ?_
  refine l_callC (As := [.int (xv (x3 + 1).toNatClampNeg)]) (rest := []) (rv := some (.int r)) h dL_law_1050 rfl mlL_122 wcL_X5_order wiL_X5_order ⟨Nat.le_of_ble_eq_true rfl, Nat.le_of_ble_eq_true rfl⟩ bC_us rfl rfl rfl rfl (Nat.le_of_ble_eq_true rfl) (fun l => c_X5_order l _ sc r sc' e1) rfl ?_
  refine l_al h dL_law_1053 rfl rfl 2 rfl ?_
  refine l_arg (v := 1) h dL_law_1054 dL_law_1055 dL_law_1056 dL_law_1057 dL_law_1058 rfl (by decide +kernel) (hi 1 (by decide)) ?_
  refine l_callM (As := [.int (xv (x3 + 1).toNatClampNeg)]) (rest := [.int r]) (rv := some (.int r)) h dL_law_1059 rfl mlL_125 wcL_X6_order wiL_X6_order ⟨Nat.le_of_ble_eq_true rfl, Nat.le_of_ble_eq_true rfl⟩ bM_mo rfl rfl rfl rfl (Nat.le_of_ble_eq_true rfl) (fun l => c_X6_order l _ sm r sm' e2) rfl ?_
  exact l_icmpeq h dL_law_1062 rfl (by decide) (fun _ => kk _ _ e3) (fun c9 => absurd rfl c9)
set_option maxRecDepth 20000 in
theorem lc_27 {X : Cx} {GC GM : GG} {b L : Nat} {xv : Nat → Int32} {sc sm : St} {x3 : Int32} (h : Ol X (oC GC) (oM GM) b L xv) (hi : ∀ v : Int32, (v = 1 ∨ v = 2 ∨ v = 3 ∨ v = 4 ∨ v = 5) → vp_in (x3 + v) L) (hR : RR sc sm) (kk : ∀ sc' sm', RR sc' sm' → Wl X (oC GC) (oM GM) sc' sm' 1425 (LV b (al (oC GC) 0) (al (oM GM) 0) x3) []) : Wl X (oC GC) (oM GM) sc sm 1067 (LV b (al (oC GC) 0) (al (oM GM) 0) x3) [] := by
  obtain ⟨r, sc', sm', e1, e2, e3⟩ := s_learn hR (xv (x3 + 1).toNatClampNeg)
  refine l_al h dL_law_1067 rfl rfl 1 rfl ?_
  refine l_arg (v := 1) h dL_law_1068 dL_law_1069 dL_law_1070 dL_law_1071 dL_law_1072 rfl (by decide +kernel) (hi 1 (by decide)) ?_
  refine l_callC (As := [.int (xv (x3 + 1).toNatClampNeg)]) (rest := []) (rv := some (.int r)) h dL_law_1073 rfl mlL_126 wcL_X5_learn wiL_X5_learn ⟨Nat.le_of_ble_eq_true rfl, Nat.le_of_ble_eq_true rfl⟩ bC_us rfl rfl rfl rfl (Nat.le_of_ble_eq_true rfl) (fun l => c_X5_learn l _ sc r sc' e1) rfl ?_
  refine l_al h dL_law_1076 rfl rfl 2 rfl ?_
  refine l_arg (v := 1) h dL_law_1077 dL_law_1078 dL_law_1079 dL_law_1080 dL_law_1081 rfl (by decide +kernel) (hi 1 (by decide)) ?_
  refine l_callM (As := [.int (xv (x3 + 1).toNatClampNeg)]) (rest := [.int r]) (rv := some (.int r)) h dL_law_1082 rfl mlL_129 wcL_X6_learn wiL_X6_learn ⟨Nat.le_of_ble_eq_true rfl, Nat.le_of_ble_eq_true rfl⟩ bM_mo rfl rfl rfl rfl (Nat.le_of_ble_eq_true rfl) (fun l => c_X6_learn l _ sm r sm' e2) rfl ?_
  exact l_icmpeq h dL_law_1085 rfl (by decide) (fun _ => kk _ _ e3) (fun c9 => absurd rfl c9)
set_option maxRecDepth 20000 in
theorem lc_28 {X : Cx} {GC GM : GG} {b L : Nat} {xv : Nat → Int32} {sc sm : St} {x3 : Int32} (h : Ol X (oC GC) (oM GM) b L xv) (hi : ∀ v : Int32, (v = 1 ∨ v = 2 ∨ v = 3 ∨ v = 4 ∨ v = 5) → vp_in (x3 + v) L) (hR : RR sc sm) (kk : ∀ sc' sm', RR sc' sm' → Wl X (oC GC) (oM GM) sc' sm' 1425 (LV b (al (oC GC) 0) (al (oM GM) 0) x3) []) : Wl X (oC GC) (oM GM) sc sm 1090 (LV b (al (oC GC) 0) (al (oM GM) 0) x3) [] := by
  obtain ⟨r, sc', sm', e1, e2, e3⟩ := s_fits hR (xv (x3 + 1).toNatClampNeg)
  refine l_al h dL_law_1090 rfl rfl 1 rfl ?_
  refine l_arg (v := 1) h dL_law_1091 dL_law_1092 dL_law_1093 dL_law_1094 dL_law_1095 rfl (by decide +kernel) (hi 1 (by decide)) ?_
  refine l_callC (As := [.int (xv (x3 + 1).toNatClampNeg)]) (rest := []) (rv := some (.int r)) h dL_law_1096 rfl mlL_130 wcL_X5_fits wiL_X5_fits ⟨Nat.le_of_ble_eq_true rfl, Nat.le_of_ble_eq_true rfl⟩ bC_us rfl rfl rfl rfl (Nat.le_of_ble_eq_true rfl) (fun l => c_X5_fits l _ sc r sc' e1) rfl ?_
  refine l_al h dL_law_1099 rfl rfl 2 rfl ?_
  refine l_arg (v := 1) h dL_law_1100 dL_law_1101 dL_law_1102 dL_law_1103 dL_law_1104 rfl (by decide +kernel) (hi 1 (by decide)) ?_
  refine l_callM (As := [.int (xv (x3 + 1).toNatClampNeg)]) (rest := [.int r]) (rv := some (.int r)) h dL_law_1105 rfl mlL_133 wcL_X6_fits wiL_X6_fits ⟨Nat.le_of_ble_eq_true rfl, Nat.le_of_ble_eq_true rfl⟩ bM_mo rfl rfl rfl rfl (Nat.le_of_ble_eq_true rfl) (fun l => c_X6_fits l _ sm r sm' e2) rfl ?_
  exact l_icmpeq h dL_law_1108 rfl (by decide) (fun _ => kk _ _ e3) (fun c9 => absurd rfl c9)
set_option maxRecDepth 20000 in
theorem lc_29 {X : Cx} {GC GM : GG} {b L : Nat} {xv : Nat → Int32} {sc sm : St} {x3 : Int32} (h : Ol X (oC GC) (oM GM) b L xv) (hi : ∀ v : Int32, (v = 1 ∨ v = 2 ∨ v = 3 ∨ v = 4 ∨ v = 5) → vp_in (x3 + v) L) (hR : RR sc sm) (kk : ∀ sc' sm', RR sc' sm' → Wl X (oC GC) (oM GM) sc' sm' 1425 (LV b (al (oC GC) 0) (al (oM GM) 0) x3) []) : Wl X (oC GC) (oM GM) sc sm 1113 (LV b (al (oC GC) 0) (al (oM GM) 0) x3) [] := by
  obtain ⟨r, sc', sm', e1, e2, e3⟩ := s_kinds hR (xv (x3 + 1).toNatClampNeg) (xv (x3 + 2).toNatClampNeg) (xv (x3 + 3).toNatClampNeg)
  refine l_al h dL_law_1113 rfl rfl 1 rfl ?_
  refine l_arg (v := 1) h dL_law_1114 dL_law_1115 dL_law_1116 dL_law_1117 dL_law_1118 rfl (by decide +kernel) (hi 1 (by decide)) ?_
  refine l_arg (v := 2) h dL_law_1119 dL_law_1120 dL_law_1121 dL_law_1122 dL_law_1123 rfl (by decide +kernel) (hi 2 (by decide)) ?_
  refine l_arg (v := 3) h dL_law_1124 dL_law_1125 dL_law_1126 dL_law_1127 dL_law_1128 rfl (by decide +kernel) (hi 3 (by decide)) ?_
  refine l_callC (As := [.int (xv (x3 + 1).toNatClampNeg), .int (xv (x3 + 2).toNatClampNeg), .int (xv (x3 + 3).toNatClampNeg)]) (rest := []) (rv := some (.int r)) h dL_law_1129 rfl mlL_134 wcL_X5_kinds wiL_X5_kinds ⟨Nat.le_of_ble_eq_true rfl, Nat.le_of_ble_eq_true rfl⟩ bC_us rfl rfl rfl rfl (Nat.le_of_ble_eq_true rfl) (fun l => c_X5_kinds l _ _ _ sc r sc' e1) rfl ?_
  refine l_al h dL_law_1132 rfl rfl 2 rfl ?_
  refine l_arg (v := 1) h dL_law_1133 dL_law_1134 dL_law_1135 dL_law_1136 dL_law_1137 rfl (by decide +kernel) (hi 1 (by decide)) ?_
  refine l_arg (v := 2) h dL_law_1138 dL_law_1139 dL_law_1140 dL_law_1141 dL_law_1142 rfl (by decide +kernel) (hi 2 (by decide)) ?_
  refine l_arg (v := 3) h dL_law_1143 dL_law_1144 dL_law_1145 dL_law_1146 dL_law_1147 rfl (by decide +kernel) (hi 3 (by decide)) ?_
  refine l_callM (As := [.int (xv (x3 + 1).toNatClampNeg), .int (xv (x3 + 2).toNatClampNeg), .int (xv (x3 + 3).toNatClampNeg)]) (rest := [.int r]) (rv := some (.int r)) h dL_law_1148 rfl mlL_137 wcL_X6_kinds wiL_X6_kinds ⟨Nat.le_of_ble_eq_true rfl, Nat.le_of_ble_eq_true rfl⟩ bM_mo rfl rfl rfl rfl (Nat.le_of_ble_eq_true rfl) (fun l => c_X6_kinds l _ _ _ sm r sm' e2) rfl ?_
  exact l_icmpeq h dL_law_1151 rfl (by decide) (fun _ => kk _ _ e3) (fun c9 => absurd rfl c9)
set_option maxRecDepth 20000 in
theorem lc_30 {X : Cx} {GC GM : GG} {b L : Nat} {xv : Nat → Int32} {sc sm : St} {x3 : Int32} (h : Ol X (oC GC) (oM GM) b L xv) (hi : ∀ v : Int32, (v = 1 ∨ v = 2 ∨ v = 3 ∨ v = 4 ∨ v = 5) → vp_in (x3 + v) L) (hR : RR sc sm) (kk : ∀ sc' sm', RR sc' sm' → Wl X (oC GC) (oM GM) sc' sm' 1425 (LV b (al (oC GC) 0) (al (oM GM) 0) x3) []) : Wl X (oC GC) (oM GM) sc sm 1156 (LV b (al (oC GC) 0) (al (oM GM) 0) x3) [] := by
  obtain ⟨r, sc', sm', e1, e2, e3⟩ := s_lies hR (xv (x3 + 1).toNatClampNeg)
  refine l_al h dL_law_1156 rfl rfl 1 rfl ?_
  refine l_arg (v := 1) h dL_law_1157 dL_law_1158 dL_law_1159 dL_law_1160 dL_law_1161 rfl (by decide +kernel) (hi 1 (by decide)) ?_
  refine l_callC (As := [.int (xv (x3 + 1).toNatClampNeg)]) (rest := []) (rv := some (.int r)) h dL_law_1162 rfl mlL_138 wcL_X5_lies wiL_X5_lies ⟨Nat.le_of_ble_eq_true rfl, Nat.le_of_ble_eq_true rfl⟩ bC_us rfl rfl rfl rfl (Nat.le_of_ble_eq_true rfl) (fun l => c_X5_lies l _ sc r sc' e1) rfl ?_
  refine l_al h dL_law_1165 rfl rfl 2 rfl ?_
  refine l_arg (v := 1) h dL_law_1166 dL_law_1167 dL_law_1168 dL_law_1169 dL_law_1170 rfl (by decide +kernel) (hi 1 (by decide)) ?_
  refine l_callM (As := [.int (xv (x3 + 1).toNatClampNeg)]) (rest := [.int r]) (rv := some (.int r)) h dL_law_1171 rfl mlL_141 wcL_X6_lies wiL_X6_lies ⟨Nat.le_of_ble_eq_true rfl, Nat.le_of_ble_eq_true rfl⟩ bM_mo rfl rfl rfl rfl (Nat.le_of_ble_eq_true rfl) (fun l => c_X6_lies l _ sm r sm' e2) rfl ?_
  exact l_icmpeq h dL_law_1174 rfl (by decide) (fun _ => kk _ _ e3) (fun c9 => absurd rfl c9)
set_option maxRecDepth 20000 in
theorem lc_31 {X : Cx} {GC GM : GG} {b L : Nat} {xv : Nat → Int32} {sc sm : St} {x3 : Int32} (h : Ol X (oC GC) (oM GM) b L xv) (hi : ∀ v : Int32, (v = 1 ∨ v = 2 ∨ v = 3 ∨ v = 4 ∨ v = 5) → vp_in (x3 + v) L) (hR : RR sc sm) (kk : ∀ sc' sm', RR sc' sm' → Wl X (oC GC) (oM GM) sc' sm' 1425 (LV b (al (oC GC) 0) (al (oM GM) 0) x3) []) : Wl X (oC GC) (oM GM) sc sm 1179 (LV b (al (oC GC) 0) (al (oM GM) 0) x3) [] := by
  obtain ⟨r, sc', sm', e1, e2, e3⟩ := s_apart hR (xv (x3 + 1).toNatClampNeg) (xv (x3 + 2).toNatClampNeg) (xv (x3 + 3).toNatClampNeg) (xv (x3 + 4).toNatClampNeg)
  refine l_al h dL_law_1179 rfl rfl 1 rfl ?_
  refine l_arg (v := 1) h dL_law_1180 dL_law_1181 dL_law_1182 dL_law_1183 dL_law_1184 rfl (by decide +kernel) (hi 1 (by decide)) ?_
  refine l_arg (v := 2) h dL_law_1185 dL_law_1186 dL_law_1187 dL_law_1188 dL_law_1189 rfl (by decide +kernel) (hi 2 (by decide)) ?_
  refine l_arg (v := 3) h dL_law_1190 dL_law_1191 dL_law_1192 dL_law_1193 dL_law_1194 rfl (by decide +kernel) (hi 3 (by decide)) ?_
  refine l_arg (v := 4) h dL_law_1195 dL_law_1196 dL_law_1197 dL_law_1198 dL_law_1199 rfl (by decide +kernel) (hi 4 (by decide)) ?_
  refine l_callC (As := [.int (xv (x3 + 1).toNatClampNeg), .int (xv (x3 + 2).toNatClampNeg), .int (xv (x3 + 3).toNatClampNeg), .int (xv (x3 + 4).toNatClampNeg)]) (rest := []) (rv := some (.int r)) h dL_law_1200 rfl mlL_142 wcL_X5_apart wiL_X5_apart ⟨Nat.le_of_ble_eq_true rfl, Nat.le_of_ble_eq_true rfl⟩ bC_us rfl rfl rfl rfl (Nat.le_of_ble_eq_true rfl) (fun l => c_X5_apart l _ _ _ _ sc r sc' e1) rfl ?_
  refine l_al h dL_law_1203 rfl rfl 2 rfl ?_
  refine l_arg (v := 1) h dL_law_1204 dL_law_1205 dL_law_1206 dL_law_1207 dL_law_1208 rfl (by decide +kernel) (hi 1 (by decide)) ?_
  refine l_arg (v := 2) h dL_law_1209 dL_law_1210 dL_law_1211 dL_law_1212 dL_law_1213 rfl (by decide +kernel) (hi 2 (by decide)) ?_
  refine l_arg (v := 3) h dL_law_1214 dL_law_1215 dL_law_1216 dL_law_1217 dL_law_1218 rfl (by decide +kernel) (hi 3 (by decide)) ?_
  refine l_arg (v := 4) h dL_law_1219 dL_law_1220 dL_law_1221 dL_law_1222 dL_law_1223 rfl (by decide +kernel) (hi 4 (by decide)) ?_
  refine l_callM (As := [.int (xv (x3 + 1).toNatClampNeg), .int (xv (x3 + 2).toNatClampNeg), .int (xv (x3 + 3).toNatClampNeg), .int (xv (x3 + 4).toNatClampNeg)]) (rest := [.int r]) (rv := some (.int r)) h dL_law_1224 rfl mlL_146 wcL_X6_apart wiL_X6_apart ⟨Nat.le_of_ble_eq_true rfl, Nat.le_of_ble_eq_true rfl⟩ bM_mo rfl rfl rfl rfl (Nat.le_of_ble_eq_true rfl) (fun l => c_X6_apart l _ _ _ _ sm r sm' e2) rfl ?_
  exact l_icmpeq h dL_law_1227 rfl (by decide) (fun _ => kk _ _ e3) (fun c9 => absurd rfl c9)
set_option maxRecDepth 20000 in
theorem lc_32 {X : Cx} {GC GM : GG} {b L : Nat} {xv : Nat → Int32} {sc sm : St} {x3 : Int32} (h : Ol X (oC GC) (oM GM) b L xv) (hi : ∀ v : Int32, (v = 1 ∨ v = 2 ∨ v = 3 ∨ v = 4 ∨ v = 5) → vp_in (x3 + v) L) (hR : RR sc sm) (kk : ∀ sc' sm', RR sc' sm' → Wl X (oC GC) (oM GM) sc' sm' 1425 (LV b (al (oC GC) 0) (al (oM GM) 0) x3) []) : Wl X (oC GC) (oM GM) sc sm 1232 (LV b (al (oC GC) 0) (al (oM GM) 0) x3) [] := by
  obtain ⟨r, sc', sm', e1, e2, e3⟩ := s_sour hR (xv (x3 + 1).toNatClampNeg)
  refine l_al h dL_law_1232 rfl rfl 1 rfl ?_
  refine l_arg (v := 1) h dL_law_1233 dL_law_1234 dL_law_1235 dL_law_1236 dL_law_1237 rfl (by decide +kernel) (hi 1 (by decide)) ?_
  refine l_callC (As := [.int (xv (x3 + 1).toNatClampNeg)]) (rest := []) (rv := some (.int r)) h dL_law_1238 rfl mlL_147 wcL_X5_sour wiL_X5_sour ⟨Nat.le_of_ble_eq_true rfl, Nat.le_of_ble_eq_true rfl⟩ bC_us rfl rfl rfl rfl (Nat.le_of_ble_eq_true rfl) (fun l => c_X5_sour l _ sc r sc' e1) rfl ?_
  refine l_al h dL_law_1241 rfl rfl 2 rfl ?_
  refine l_arg (v := 1) h dL_law_1242 dL_law_1243 dL_law_1244 dL_law_1245 dL_law_1246 rfl (by decide +kernel) (hi 1 (by decide)) ?_
  refine l_callM (As := [.int (xv (x3 + 1).toNatClampNeg)]) (rest := [.int r]) (rv := some (.int r)) h dL_law_1247 rfl mlL_150 wcL_X6_sour wiL_X6_sour ⟨Nat.le_of_ble_eq_true rfl, Nat.le_of_ble_eq_true rfl⟩ bM_mo rfl rfl rfl rfl (Nat.le_of_ble_eq_true rfl) (fun l => c_X6_sour l _ sm r sm' e2) rfl ?_
  exact l_icmpeq h dL_law_1250 rfl (by decide) (fun _ => kk _ _ e3) (fun c9 => absurd rfl c9)
set_option maxRecDepth 20000 in
theorem lc_33 {X : Cx} {GC GM : GG} {b L : Nat} {xv : Nat → Int32} {sc sm : St} {x3 : Int32} (h : Ol X (oC GC) (oM GM) b L xv) (hi : ∀ v : Int32, (v = 1 ∨ v = 2 ∨ v = 3 ∨ v = 4 ∨ v = 5) → vp_in (x3 + v) L) (hR : RR sc sm) (kk : ∀ sc' sm', RR sc' sm' → Wl X (oC GC) (oM GM) sc' sm' 1425 (LV b (al (oC GC) 0) (al (oM GM) 0) x3) []) : Wl X (oC GC) (oM GM) sc sm 1255 (LV b (al (oC GC) 0) (al (oM GM) 0) x3) [] := by
  obtain ⟨r, sc', sm', e1, e2, e3⟩ := s_odds hR (xv (x3 + 1).toNatClampNeg)
  refine l_al h dL_law_1255 rfl rfl 1 rfl ?_
  refine l_arg (v := 1) h dL_law_1256 dL_law_1257 dL_law_1258 dL_law_1259 dL_law_1260 rfl (by decide +kernel) (hi 1 (by decide)) ?_
  refine l_callC (As := [.int (xv (x3 + 1).toNatClampNeg)]) (rest := []) (rv := some (.int r)) h dL_law_1261 rfl mlL_151 wcL_X5_odds wiL_X5_odds ⟨Nat.le_of_ble_eq_true rfl, Nat.le_of_ble_eq_true rfl⟩ bC_us rfl rfl rfl rfl (Nat.le_of_ble_eq_true rfl) (fun l => c_X5_odds l _ sc r sc' e1) rfl ?_
  refine l_al h dL_law_1264 rfl rfl 2 rfl ?_
  refine l_arg (v := 1) h dL_law_1265 dL_law_1266 dL_law_1267 dL_law_1268 dL_law_1269 rfl (by decide +kernel) (hi 1 (by decide)) ?_
  refine l_callM (As := [.int (xv (x3 + 1).toNatClampNeg)]) (rest := [.int r]) (rv := some (.int r)) h dL_law_1270 rfl mlL_154 wcL_X6_odds wiL_X6_odds ⟨Nat.le_of_ble_eq_true rfl, Nat.le_of_ble_eq_true rfl⟩ bM_mo rfl rfl rfl rfl (Nat.le_of_ble_eq_true rfl) (fun l => c_X6_odds l _ sm r sm' e2) rfl ?_
  exact l_icmpeq h dL_law_1273 rfl (by decide) (fun _ => kk _ _ e3) (fun c9 => absurd rfl c9)
set_option maxRecDepth 20000 in
theorem lc_34 {X : Cx} {GC GM : GG} {b L : Nat} {xv : Nat → Int32} {sc sm : St} {x3 : Int32} (h : Ol X (oC GC) (oM GM) b L xv) (hi : ∀ v : Int32, (v = 1 ∨ v = 2 ∨ v = 3 ∨ v = 4 ∨ v = 5) → vp_in (x3 + v) L) (hR : RR sc sm) (kk : ∀ sc' sm', RR sc' sm' → Wl X (oC GC) (oM GM) sc' sm' 1425 (LV b (al (oC GC) 0) (al (oM GM) 0) x3) []) : Wl X (oC GC) (oM GM) sc sm 1278 (LV b (al (oC GC) 0) (al (oM GM) 0) x3) [] := by
  obtain ⟨r, sc', sm', e1, e2, e3⟩ := s_lots hR (xv (x3 + 1).toNatClampNeg) (xv (x3 + 2).toNatClampNeg)
  refine l_al h dL_law_1278 rfl rfl 1 rfl ?_
  refine l_arg (v := 1) h dL_law_1279 dL_law_1280 dL_law_1281 dL_law_1282 dL_law_1283 rfl (by decide +kernel) (hi 1 (by decide)) ?_
  refine l_arg (v := 2) h dL_law_1284 dL_law_1285 dL_law_1286 dL_law_1287 dL_law_1288 rfl (by decide +kernel) (hi 2 (by decide)) ?_
  refine l_callC (As := [.int (xv (x3 + 1).toNatClampNeg), .int (xv (x3 + 2).toNatClampNeg)]) (rest := []) (rv := some (.int r)) h dL_law_1289 rfl mlL_155 wcL_X5_lots wiL_X5_lots ⟨Nat.le_of_ble_eq_true rfl, Nat.le_of_ble_eq_true rfl⟩ bC_us rfl rfl rfl rfl (Nat.le_of_ble_eq_true rfl) (fun l => c_X5_lots l _ _ sc r sc' e1) rfl ?_
  refine l_al h dL_law_1292 rfl rfl 2 rfl ?_
  refine l_arg (v := 1) h dL_law_1293 dL_law_1294 dL_law_1295 dL_law_1296 dL_law_1297 rfl (by decide +kernel) (hi 1 (by decide)) ?_
  refine l_arg (v := 2) h dL_law_1298 dL_law_1299 dL_law_1300 dL_law_1301 dL_law_1302 rfl (by decide +kernel) (hi 2 (by decide)) ?_
  refine l_callM (As := [.int (xv (x3 + 1).toNatClampNeg), .int (xv (x3 + 2).toNatClampNeg)]) (rest := [.int r]) (rv := some (.int r)) h dL_law_1303 rfl mlL_158 wcL_X6_lots wiL_X6_lots ⟨Nat.le_of_ble_eq_true rfl, Nat.le_of_ble_eq_true rfl⟩ bM_mo rfl rfl rfl rfl (Nat.le_of_ble_eq_true rfl) (fun l => c_X6_lots l _ _ sm r sm' e2) rfl ?_
  exact l_icmpeq h dL_law_1306 rfl (by decide) (fun _ => kk _ _ e3) (fun c9 => absurd rfl c9)
set_option maxRecDepth 20000 in
theorem lc_35 {X : Cx} {GC GM : GG} {b L : Nat} {xv : Nat → Int32} {sc sm : St} {x3 : Int32} (h : Ol X (oC GC) (oM GM) b L xv) (hi : ∀ v : Int32, (v = 1 ∨ v = 2 ∨ v = 3 ∨ v = 4 ∨ v = 5) → vp_in (x3 + v) L) (hR : RR sc sm) (kk : ∀ sc' sm', RR sc' sm' → Wl X (oC GC) (oM GM) sc' sm' 1425 (LV b (al (oC GC) 0) (al (oM GM) 0) x3) []) : Wl X (oC GC) (oM GM) sc sm 1311 (LV b (al (oC GC) 0) (al (oM GM) 0) x3) [] := by
  obtain ⟨r, sc', sm', e1, e2, e3⟩ := s_asked hR 
  refine l_al h dL_law_1311 rfl rfl 1 rfl ?_
  refine l_callC (As := []) (rest := []) (rv := some (.int r)) h dL_law_1312 rfl mlL_159 wcL_X5_asked wiL_X5_asked ⟨Nat.le_of_ble_eq_true rfl, Nat.le_of_ble_eq_true rfl⟩ bC_us rfl rfl rfl rfl (Nat.le_of_ble_eq_true rfl) (fun l => c_X5_asked l  sc r sc' e1) rfl ?_
  refine l_al h dL_law_1315 rfl rfl 2 rfl ?_
  refine l_callM (As := []) (rest := [.int r]) (rv := some (.int r)) h dL_law_1316 rfl mlL_162 wcL_X6_asked wiL_X6_asked ⟨Nat.le_of_ble_eq_true rfl, Nat.le_of_ble_eq_true rfl⟩ bM_mo rfl rfl rfl rfl (Nat.le_of_ble_eq_true rfl) (fun l => c_X6_asked l  sm r sm' e2) rfl ?_
  exact l_icmpeq h dL_law_1319 rfl (by decide) (fun _ => kk _ _ e3) (fun c9 => absurd rfl c9)
set_option maxRecDepth 20000 in
theorem lc_36 {X : Cx} {GC GM : GG} {b L : Nat} {xv : Nat → Int32} {sc sm : St} {x3 : Int32} (h : Ol X (oC GC) (oM GM) b L xv) (hi : ∀ v : Int32, (v = 1 ∨ v = 2 ∨ v = 3 ∨ v = 4 ∨ v = 5) → vp_in (x3 + v) L) (hR : RR sc sm) (kk : ∀ sc' sm', RR sc' sm' → Wl X (oC GC) (oM GM) sc' sm' 1425 (LV b (al (oC GC) 0) (al (oM GM) 0) x3) []) : Wl X (oC GC) (oM GM) sc sm 1324 (LV b (al (oC GC) 0) (al (oM GM) 0) x3) [] := by
  obtain ⟨r, sc', sm', e1, e2, e3⟩ := s_upper hR 
  refine l_al h dL_law_1324 rfl rfl 1 rfl ?_
  refine l_callC (As := []) (rest := []) (rv := some (.long r)) h dL_law_1325 rfl mlL_163 wcL_X5_upper wiL_X5_upper ⟨Nat.le_of_ble_eq_true rfl, Nat.le_of_ble_eq_true rfl⟩ bC_us rfl rfl rfl rfl (Nat.le_of_ble_eq_true rfl) (fun l => c_X5_upper l  sc r sc' e1) rfl ?_
  refine l_al h dL_law_1328 rfl rfl 2 rfl ?_
  refine l_callM (As := []) (rest := [.long r]) (rv := some (.long r)) h dL_law_1329 rfl mlL_167 wcL_X6_upper wiL_X6_upper ⟨Nat.le_of_ble_eq_true rfl, Nat.le_of_ble_eq_true rfl⟩ bM_mo rfl rfl rfl rfl (Nat.le_of_ble_eq_true rfl) (fun l => c_X6_upper l  sm r sm' e2) rfl ?_
  refine l_lcmp h dL_law_1332 rfl ?_
  exact l_ifeq h dL_law_1333 rfl (by decide) (fun _ => kk _ _ e3) (fun c9 => absurd (lcmp_self r) c9)
set_option maxRecDepth 20000 in
theorem lc_37 {X : Cx} {GC GM : GG} {b L : Nat} {xv : Nat → Int32} {sc sm : St} {x3 : Int32} (h : Ol X (oC GC) (oM GM) b L xv) (hi : ∀ v : Int32, (v = 1 ∨ v = 2 ∨ v = 3 ∨ v = 4 ∨ v = 5) → vp_in (x3 + v) L) (hR : RR sc sm) (kk : ∀ sc' sm', RR sc' sm' → Wl X (oC GC) (oM GM) sc' sm' 1425 (LV b (al (oC GC) 0) (al (oM GM) 0) x3) []) : Wl X (oC GC) (oM GM) sc sm 1338 (LV b (al (oC GC) 0) (al (oM GM) 0) x3) [] := by
  obtain ⟨r, sc', sm', e1, e2, e3⟩ := s_lower hR 
  refine l_al h dL_law_1338 rfl rfl 1 rfl ?_
  refine l_callC (As := []) (rest := []) (rv := some (.long r)) h dL_law_1339 rfl mlL_168 wcL_X5_lower wiL_X5_lower ⟨Nat.le_of_ble_eq_true rfl, Nat.le_of_ble_eq_true rfl⟩ bC_us rfl rfl rfl rfl (Nat.le_of_ble_eq_true rfl) (fun l => c_X5_lower l  sc r sc' e1) rfl ?_
  refine l_al h dL_law_1342 rfl rfl 2 rfl ?_
  refine l_callM (As := []) (rest := [.long r]) (rv := some (.long r)) h dL_law_1343 rfl mlL_171 wcL_X6_lower wiL_X6_lower ⟨Nat.le_of_ble_eq_true rfl, Nat.le_of_ble_eq_true rfl⟩ bM_mo rfl rfl rfl rfl (Nat.le_of_ble_eq_true rfl) (fun l => c_X6_lower l  sm r sm' e2) rfl ?_
  refine l_lcmp h dL_law_1346 rfl ?_
  exact l_ifeq h dL_law_1347 rfl (by decide) (fun _ => kk _ _ e3) (fun c9 => absurd (lcmp_self r) c9)
set_option maxRecDepth 20000 in
theorem lc_38 {X : Cx} {GC GM : GG} {b L : Nat} {xv : Nat → Int32} {sc sm : St} {x3 : Int32} (h : Ol X (oC GC) (oM GM) b L xv) (hi : ∀ v : Int32, (v = 1 ∨ v = 2 ∨ v = 3 ∨ v = 4 ∨ v = 5) → vp_in (x3 + v) L) (hR : RR sc sm) (kk : ∀ sc' sm', RR sc' sm' → Wl X (oC GC) (oM GM) sc' sm' 1425 (LV b (al (oC GC) 0) (al (oM GM) 0) x3) []) : Wl X (oC GC) (oM GM) sc sm 1352 (LV b (al (oC GC) 0) (al (oM GM) 0) x3) [] := by
  obtain ⟨r, sc', sm', e1, e2, e3⟩ := s_count hR (xv (x3 + 1).toNatClampNeg)
  refine l_al h dL_law_1352 rfl rfl 1 rfl ?_
  refine l_arg (v := 1) h dL_law_1353 dL_law_1354 dL_law_1355 dL_law_1356 dL_law_1357 rfl (by decide +kernel) (hi 1 (by decide)) ?_
  refine l_callC (As := [.int (xv (x3 + 1).toNatClampNeg)]) (rest := []) (rv := some (.int r)) h dL_law_1358 rfl mlL_172 wcL_X5_count wiL_X5_count ⟨Nat.le_of_ble_eq_true rfl, Nat.le_of_ble_eq_true rfl⟩ bC_us rfl rfl rfl rfl (Nat.le_of_ble_eq_true rfl) (fun l => c_X5_count l _ sc r sc' e1) rfl ?_
  refine l_al h dL_law_1361 rfl rfl 2 rfl ?_
  refine l_arg (v := 1) h dL_law_1362 dL_law_1363 dL_law_1364 dL_law_1365 dL_law_1366 rfl (by decide +kernel) (hi 1 (by decide)) ?_
  refine l_callM (As := [.int (xv (x3 + 1).toNatClampNeg)]) (rest := [.int r]) (rv := some (.int r)) h dL_law_1367 rfl mlL_175 wcL_X6_count wiL_X6_count ⟨Nat.le_of_ble_eq_true rfl, Nat.le_of_ble_eq_true rfl⟩ bM_mo rfl rfl rfl rfl (Nat.le_of_ble_eq_true rfl) (fun l => c_X6_count l _ sm r sm' e2) rfl ?_
  exact l_icmpeq h dL_law_1370 rfl (by decide) (fun _ => kk _ _ e3) (fun c9 => absurd rfl c9)
set_option maxRecDepth 20000 in
theorem lc_39 {X : Cx} {GC GM : GG} {b L : Nat} {xv : Nat → Int32} {sc sm : St} {x3 : Int32} (h : Ol X (oC GC) (oM GM) b L xv) (hi : ∀ v : Int32, (v = 1 ∨ v = 2 ∨ v = 3 ∨ v = 4 ∨ v = 5) → vp_in (x3 + v) L) (hR : RR sc sm) (kk : ∀ sc' sm', RR sc' sm' → Wl X (oC GC) (oM GM) sc' sm' 1425 (LV b (al (oC GC) 0) (al (oM GM) 0) x3) []) : Wl X (oC GC) (oM GM) sc sm 1375 (LV b (al (oC GC) 0) (al (oM GM) 0) x3) [] := by
  obtain ⟨r, sc', sm', e1, e2, e3⟩ := s_finding hR 
  refine l_al h dL_law_1375 rfl rfl 1 rfl ?_
  refine l_callC (As := []) (rest := []) (rv := some (.int r)) h dL_law_1376 rfl mlL_176 wcL_X5_finding wiL_X5_finding ⟨Nat.le_of_ble_eq_true rfl, Nat.le_of_ble_eq_true rfl⟩ bC_us rfl rfl rfl rfl (Nat.le_of_ble_eq_true rfl) (fun l => c_X5_finding l  sc r sc' e1) rfl ?_
  refine l_al h dL_law_1379 rfl rfl 2 rfl ?_
  refine l_callM (As := []) (rest := [.int r]) (rv := some (.int r)) h dL_law_1380 rfl mlL_179 wcL_X6_finding wiL_X6_finding ⟨Nat.le_of_ble_eq_true rfl, Nat.le_of_ble_eq_true rfl⟩ bM_mo rfl rfl rfl rfl (Nat.le_of_ble_eq_true rfl) (fun l => c_X6_finding l  sm r sm' e2) rfl ?_
  exact l_icmpeq h dL_law_1383 rfl (by decide) (fun _ => kk _ _ e3) (fun c9 => absurd rfl c9)
set_option maxRecDepth 20000 in
theorem lc_40 {X : Cx} {GC GM : GG} {b L : Nat} {xv : Nat → Int32} {sc sm : St} {x3 : Int32} (h : Ol X (oC GC) (oM GM) b L xv) (hi : ∀ v : Int32, (v = 1 ∨ v = 2 ∨ v = 3 ∨ v = 4 ∨ v = 5) → vp_in (x3 + v) L) (hR : RR sc sm) (kk : ∀ sc' sm', RR sc' sm' → Wl X (oC GC) (oM GM) sc' sm' 1425 (LV b (al (oC GC) 0) (al (oM GM) 0) x3) []) : Wl X (oC GC) (oM GM) sc sm 1388 (LV b (al (oC GC) 0) (al (oM GM) 0) x3) [] := by
  obtain ⟨r, sc', sm', e1, e2, e3⟩ := s_findings hR (xv (x3 + 1).toNatClampNeg)
  refine l_al h dL_law_1388 rfl rfl 1 rfl ?_
  refine l_arg (v := 1) h dL_law_1389 dL_law_1390 dL_law_1391 dL_law_1392 dL_law_1393 rfl (by decide +kernel) (hi 1 (by decide)) ?_
  refine l_callC (As := [.int (xv (x3 + 1).toNatClampNeg)]) (rest := []) (rv := some (.int r)) h dL_law_1394 rfl mlL_180 wcL_X5_findings wiL_X5_findings ⟨Nat.le_of_ble_eq_true rfl, Nat.le_of_ble_eq_true rfl⟩ bC_us rfl rfl rfl rfl (Nat.le_of_ble_eq_true rfl) (fun l => c_X5_findings l _ sc r sc' e1) rfl ?_
  refine l_al h dL_law_1397 rfl rfl 2 rfl ?_
  refine l_arg (v := 1) h dL_law_1398 dL_law_1399 dL_law_1400 dL_law_1401 dL_law_1402 rfl (by decide +kernel) (hi 1 (by decide)) ?_
  refine l_callM (As := [.int (xv (x3 + 1).toNatClampNeg)]) (rest := [.int r]) (rv := some (.int r)) h dL_law_1403 rfl mlL_183 wcL_X6_findings wiL_X6_findings ⟨Nat.le_of_ble_eq_true rfl, Nat.le_of_ble_eq_true rfl⟩ bM_mo rfl rfl rfl rfl (Nat.le_of_ble_eq_true rfl) (fun l => c_X6_findings l _ sm r sm' e2) rfl ?_
  exact l_icmpeq h dL_law_1406 rfl (by decide) (fun _ => kk _ _ e3) (fun c9 => absurd rfl c9)
set_option maxRecDepth 20000 in
theorem lc_41 {X : Cx} {GC GM : GG} {b L : Nat} {xv : Nat → Int32} {sc sm : St} {x3 : Int32} (h : Ol X (oC GC) (oM GM) b L xv) (hi : ∀ v : Int32, (v = 1 ∨ v = 2 ∨ v = 3 ∨ v = 4 ∨ v = 5) → vp_in (x3 + v) L) (hR : RR sc sm) (kk : ∀ sc' sm', RR sc' sm' → Wl X (oC GC) (oM GM) sc' sm' 1425 (LV b (al (oC GC) 0) (al (oM GM) 0) x3) []) : Wl X (oC GC) (oM GM) sc sm 1411 (LV b (al (oC GC) 0) (al (oM GM) 0) x3) [] := by
  obtain ⟨r, sc', sm', e1, e2, e3⟩ := s_digest hR 
  refine l_al h dL_law_1411 rfl rfl 1 rfl ?_
  refine l_callC (As := []) (rest := []) (rv := some (.long r)) h dL_law_1412 rfl mlL_184 wcL_X5_digest wiL_X5_digest ⟨Nat.le_of_ble_eq_true rfl, Nat.le_of_ble_eq_true rfl⟩ bC_us rfl rfl rfl rfl (Nat.le_of_ble_eq_true rfl) (fun l => c_X5_digest l  sc r sc' e1) rfl ?_
  refine l_al h dL_law_1415 rfl rfl 2 rfl ?_
  refine l_callM (As := []) (rest := [.long r]) (rv := some (.long r)) h dL_law_1416 rfl mlL_187 wcL_X6_digest wiL_X6_digest ⟨Nat.le_of_ble_eq_true rfl, Nat.le_of_ble_eq_true rfl⟩ bM_mo rfl rfl rfl rfl (Nat.le_of_ble_eq_true rfl) (fun l => c_X6_digest l  sm r sm' e2) rfl ?_
  refine l_lcmp h dL_law_1419 rfl ?_
  exact l_ifeq h dL_law_1420 rfl (by decide) (fun _ => kk _ _ e3) (fun c9 => absurd (lcmp_self r) c9)
