theorem arm_0 {p : Program} {l : Launch} {e : Env} {s : State} {m : MethodId} {below : List Frame} {meth : Method} {c : Code} {b L : Nat} {xs : Nat → Int32} {D : va_G} {cI cZ cJ : ClassId} {A0 : Nat → Prop} (C : LzC p s m c b L xs D cI cZ cJ A0) : LzA p l e s m below meth c b L D cI cZ cJ A0 248 := by
  intro qK qM i t H locs ls ht hi hw hl kk
  obtain ⟨wa, wb, hw, hPa, hPb, hD, hS⟩ := hw
  obtain ⟨r, wa1, wb1, m1, m2, m3, m4, m5⟩ := met_appendBytes l D ht hw (avS_rg xs (i + 1)) (avS_rg xs (i + 2)) (avS_rg xs (i + 3)) (avS_rg xs (i + 4)) (avS_rg xs (i + 5))
  have hts := C.1.2.2.2.2
  refine lz_armW (pc0 := 248) (pc1 := 274) (pc3 := 303) C hl hw.heads hPa hPb hD hS m1 m2 m3 m4 (cwV 5 hts gL_law_X7_appendBytes rfl rfl rfl (by decide +kernel) ⟨Nat.le_of_ble_eq_true rfl, Nat.le_of_ble_eq_true rfl⟩) (cwV 5 hts gL_law_X8_appendBytes rfl rfl rfl (by decide +kernel) ⟨Nat.le_of_ble_eq_true rfl, Nat.le_of_ble_eq_true rfl⟩) rfl (fun k => ?_) (fun H1 locs1 hS1 k => ?_) dL_law_274 dL_law_303 dL_law_306 (by decide) (fun H1 locs1 qa qb qd qs => kk H1 locs1 ⟨_, _, m5, qa, qb, qd, qs⟩)
  · exact lz_q C hl dL_law_248 (lz_a C hS hl 1 rfl (by omega) dL_law_249 dL_law_250 dL_law_251 dL_law_252 dL_law_253 (lz_a C hS hl 2 rfl (by omega) dL_law_254 dL_law_255 dL_law_256 dL_law_257 dL_law_258 (lz_a C hS hl 3 rfl (by omega) dL_law_259 dL_law_260 dL_law_261 dL_law_262 dL_law_263 (lz_a C hS hl 4 rfl (by omega) dL_law_264 dL_law_265 dL_law_266 dL_law_267 dL_law_268 (lz_a C hS hl 5 rfl (by omega) dL_law_269 dL_law_270 dL_law_271 dL_law_272 dL_law_273 k)))))
  · exact lz_m C hl dL_law_277 (lz_a C hS1 hl 1 rfl (by omega) dL_law_278 dL_law_279 dL_law_280 dL_law_281 dL_law_282 (lz_a C hS1 hl 2 rfl (by omega) dL_law_283 dL_law_284 dL_law_285 dL_law_286 dL_law_287 (lz_a C hS1 hl 3 rfl (by omega) dL_law_288 dL_law_289 dL_law_290 dL_law_291 dL_law_292 (lz_a C hS1 hl 4 rfl (by omega) dL_law_293 dL_law_294 dL_law_295 dL_law_296 dL_law_297 (lz_a C hS1 hl 5 rfl (by omega) dL_law_298 dL_law_299 dL_law_300 dL_law_301 dL_law_302 k)))))
theorem arm_1 {p : Program} {l : Launch} {e : Env} {s : State} {m : MethodId} {below : List Frame} {meth : Method} {c : Code} {b L : Nat} {xs : Nat → Int32} {D : va_G} {cI cZ cJ : ClassId} {A0 : Nat → Prop} (C : LzC p s m c b L xs D cI cZ cJ A0) : LzA p l e s m below meth c b L D cI cZ cJ A0 311 := by
  intro qK qM i t H locs ls ht hi hw hl kk
  obtain ⟨wa, wb, hw, hPa, hPb, hD, hS⟩ := hw
  obtain ⟨r, wb1, m1, m2, m4, m5⟩ := met_bufferLength l D ht hw 
  have hts := C.1.2.2.2.2
  refine lz_armR (pc0 := 311) (pc1 := 312) (pc3 := 316) C hl hw.heads hPa hPb hD hS m1 m2 m4 (cwV 0 hts gL_law_X7_bufferLength rfl rfl rfl (by decide +kernel) ⟨Nat.le_of_ble_eq_true rfl, Nat.le_of_ble_eq_true rfl⟩) (cwV 0 hts gL_law_X8_bufferLength rfl rfl rfl (by decide +kernel) ⟨Nat.le_of_ble_eq_true rfl, Nat.le_of_ble_eq_true rfl⟩) rfl (fun k => ?_) (fun H1 locs1 hS1 k => ?_) dL_law_312 dL_law_316 dL_law_319 (by decide) (fun H1 locs1 qa qb qd qs => kk H1 locs1 ⟨_, _, m5, qa, qb, qd, qs⟩)
  · exact lz_q C hl dL_law_311 k
  · exact lz_m C hl dL_law_315 k
theorem arm_2 {p : Program} {l : Launch} {e : Env} {s : State} {m : MethodId} {below : List Frame} {meth : Method} {c : Code} {b L : Nat} {xs : Nat → Int32} {D : va_G} {cI cZ cJ : ClassId} {A0 : Nat → Prop} (C : LzC p s m c b L xs D cI cZ cJ A0) : LzA p l e s m below meth c b L D cI cZ cJ A0 324 := by
  intro qK qM i t H locs ls ht hi hw hl kk
  obtain ⟨wa, wb, hw, hPa, hPb, hD, hS⟩ := hw
  obtain ⟨r, wa1, wb1, m1, m2, m3, m4, m5⟩ := met_addKeyword l D ht hw (avS_rg xs (i + 1)) (avS_rg xs (i + 2))
  have hts := C.1.2.2.2.2
  refine lz_armW (pc0 := 324) (pc1 := 335) (pc3 := 349) C hl hw.heads hPa hPb hD hS m1 m2 m3 m4 (cwV 2 hts gL_law_X7_addKeyword rfl rfl rfl (by decide +kernel) ⟨Nat.le_of_ble_eq_true rfl, Nat.le_of_ble_eq_true rfl⟩) (cwV 2 hts gL_law_X8_addKeyword rfl rfl rfl (by decide +kernel) ⟨Nat.le_of_ble_eq_true rfl, Nat.le_of_ble_eq_true rfl⟩) rfl (fun k => ?_) (fun H1 locs1 hS1 k => ?_) dL_law_335 dL_law_349 dL_law_352 (by decide) (fun H1 locs1 qa qb qd qs => kk H1 locs1 ⟨_, _, m5, qa, qb, qd, qs⟩)
  · exact lz_q C hl dL_law_324 (lz_a C hS hl 1 rfl (by omega) dL_law_325 dL_law_326 dL_law_327 dL_law_328 dL_law_329 (lz_a C hS hl 2 rfl (by omega) dL_law_330 dL_law_331 dL_law_332 dL_law_333 dL_law_334 k))
  · exact lz_m C hl dL_law_338 (lz_a C hS1 hl 1 rfl (by omega) dL_law_339 dL_law_340 dL_law_341 dL_law_342 dL_law_343 (lz_a C hS1 hl 2 rfl (by omega) dL_law_344 dL_law_345 dL_law_346 dL_law_347 dL_law_348 k))
theorem arm_3 {p : Program} {l : Launch} {e : Env} {s : State} {m : MethodId} {below : List Frame} {meth : Method} {c : Code} {b L : Nat} {xs : Nat → Int32} {D : va_G} {cI cZ cJ : ClassId} {A0 : Nat → Prop} (C : LzC p s m c b L xs D cI cZ cJ A0) : LzA p l e s m below meth c b L D cI cZ cJ A0 357 := by
  intro qK qM i t H locs ls ht hi hw hl kk
  obtain ⟨wa, wb, hw, hPa, hPb, hD, hS⟩ := hw
  obtain ⟨r, wa1, wb1, m1, m2, m3, m4, m5⟩ := met_removeKeyword l D ht hw (avS_rg xs (i + 1))
  have hts := C.1.2.2.2.2
  refine lz_armW (pc0 := 357) (pc1 := 363) (pc3 := 372) C hl hw.heads hPa hPb hD hS m1 m2 m3 m4 (cwV 1 hts gL_law_X7_removeKeyword rfl rfl rfl (by decide +kernel) ⟨Nat.le_of_ble_eq_true rfl, Nat.le_of_ble_eq_true rfl⟩) (cwV 1 hts gL_law_X8_removeKeyword rfl rfl rfl (by decide +kernel) ⟨Nat.le_of_ble_eq_true rfl, Nat.le_of_ble_eq_true rfl⟩) rfl (fun k => ?_) (fun H1 locs1 hS1 k => ?_) dL_law_363 dL_law_372 dL_law_375 (by decide) (fun H1 locs1 qa qb qd qs => kk H1 locs1 ⟨_, _, m5, qa, qb, qd, qs⟩)
  · exact lz_q C hl dL_law_357 (lz_a C hS hl 1 rfl (by omega) dL_law_358 dL_law_359 dL_law_360 dL_law_361 dL_law_362 k)
  · exact lz_m C hl dL_law_366 (lz_a C hS1 hl 1 rfl (by omega) dL_law_367 dL_law_368 dL_law_369 dL_law_370 dL_law_371 k)
theorem arm_4 {p : Program} {l : Launch} {e : Env} {s : State} {m : MethodId} {below : List Frame} {meth : Method} {c : Code} {b L : Nat} {xs : Nat → Int32} {D : va_G} {cI cZ cJ : ClassId} {A0 : Nat → Prop} (C : LzC p s m c b L xs D cI cZ cJ A0) : LzA p l e s m below meth c b L D cI cZ cJ A0 380 := by
  intro qK qM i t H locs ls ht hi hw hl kk
  obtain ⟨wa, wb, hw, hPa, hPb, hD, hS⟩ := hw
  obtain ⟨r, wa1, wb1, m1, m2, m3, m4, m5⟩ := met_findKeyword l D ht hw (avS_rg xs (i + 1))
  have hts := C.1.2.2.2.2
  refine lz_armW (pc0 := 380) (pc1 := 386) (pc3 := 395) C hl hw.heads hPa hPb hD hS m1 m2 m3 m4 (cwV 1 hts gL_law_X7_findKeyword rfl rfl rfl (by decide +kernel) ⟨Nat.le_of_ble_eq_true rfl, Nat.le_of_ble_eq_true rfl⟩) (cwV 1 hts gL_law_X8_findKeyword rfl rfl rfl (by decide +kernel) ⟨Nat.le_of_ble_eq_true rfl, Nat.le_of_ble_eq_true rfl⟩) rfl (fun k => ?_) (fun H1 locs1 hS1 k => ?_) dL_law_386 dL_law_395 dL_law_398 (by decide) (fun H1 locs1 qa qb qd qs => kk H1 locs1 ⟨_, _, m5, qa, qb, qd, qs⟩)
  · exact lz_q C hl dL_law_380 (lz_a C hS hl 1 rfl (by omega) dL_law_381 dL_law_382 dL_law_383 dL_law_384 dL_law_385 k)
  · exact lz_m C hl dL_law_389 (lz_a C hS1 hl 1 rfl (by omega) dL_law_390 dL_law_391 dL_law_392 dL_law_393 dL_law_394 k)
theorem arm_5 {p : Program} {l : Launch} {e : Env} {s : State} {m : MethodId} {below : List Frame} {meth : Method} {c : Code} {b L : Nat} {xs : Nat → Int32} {D : va_G} {cI cZ cJ : ClassId} {A0 : Nat → Prop} (C : LzC p s m c b L xs D cI cZ cJ A0) : LzA p l e s m below meth c b L D cI cZ cJ A0 403 := by
  intro qK qM i t H locs ls ht hi hw hl kk
  obtain ⟨wa, wb, hw, hPa, hPb, hD, hS⟩ := hw
  obtain ⟨r, wb1, m1, m2, m4, m5⟩ := met_keywordLength l D ht hw (avS_rg xs (i + 1))
  have hts := C.1.2.2.2.2
  refine lz_armR (pc0 := 403) (pc1 := 409) (pc3 := 418) C hl hw.heads hPa hPb hD hS m1 m2 m4 (cwV 1 hts gL_law_X7_keywordLength rfl rfl rfl (by decide +kernel) ⟨Nat.le_of_ble_eq_true rfl, Nat.le_of_ble_eq_true rfl⟩) (cwV 1 hts gL_law_X8_keywordLength rfl rfl rfl (by decide +kernel) ⟨Nat.le_of_ble_eq_true rfl, Nat.le_of_ble_eq_true rfl⟩) rfl (fun k => ?_) (fun H1 locs1 hS1 k => ?_) dL_law_409 dL_law_418 dL_law_421 (by decide) (fun H1 locs1 qa qb qd qs => kk H1 locs1 ⟨_, _, m5, qa, qb, qd, qs⟩)
  · exact lz_q C hl dL_law_403 (lz_a C hS hl 1 rfl (by omega) dL_law_404 dL_law_405 dL_law_406 dL_law_407 dL_law_408 k)
  · exact lz_m C hl dL_law_412 (lz_a C hS1 hl 1 rfl (by omega) dL_law_413 dL_law_414 dL_law_415 dL_law_416 dL_law_417 k)
theorem arm_6 {p : Program} {l : Launch} {e : Env} {s : State} {m : MethodId} {below : List Frame} {meth : Method} {c : Code} {b L : Nat} {xs : Nat → Int32} {D : va_G} {cI cZ cJ : ClassId} {A0 : Nat → Prop} (C : LzC p s m c b L xs D cI cZ cJ A0) : LzA p l e s m below meth c b L D cI cZ cJ A0 426 := by
  intro qK qM i t H locs ls ht hi hw hl kk
  obtain ⟨wa, wb, hw, hPa, hPb, hD, hS⟩ := hw
  obtain ⟨r, wb1, m1, m2, m4, m5⟩ := met_keywordByte l D ht hw (avS_rg xs (i + 1)) (avS_rg xs (i + 2))
  have hts := C.1.2.2.2.2
  refine lz_armR (pc0 := 426) (pc1 := 437) (pc3 := 451) C hl hw.heads hPa hPb hD hS m1 m2 m4 (cwV 2 hts gL_law_X7_keywordByte rfl rfl rfl (by decide +kernel) ⟨Nat.le_of_ble_eq_true rfl, Nat.le_of_ble_eq_true rfl⟩) (cwV 2 hts gL_law_X8_keywordByte rfl rfl rfl (by decide +kernel) ⟨Nat.le_of_ble_eq_true rfl, Nat.le_of_ble_eq_true rfl⟩) rfl (fun k => ?_) (fun H1 locs1 hS1 k => ?_) dL_law_437 dL_law_451 dL_law_454 (by decide) (fun H1 locs1 qa qb qd qs => kk H1 locs1 ⟨_, _, m5, qa, qb, qd, qs⟩)
  · exact lz_q C hl dL_law_426 (lz_a C hS hl 1 rfl (by omega) dL_law_427 dL_law_428 dL_law_429 dL_law_430 dL_law_431 (lz_a C hS hl 2 rfl (by omega) dL_law_432 dL_law_433 dL_law_434 dL_law_435 dL_law_436 k))
  · exact lz_m C hl dL_law_440 (lz_a C hS1 hl 1 rfl (by omega) dL_law_441 dL_law_442 dL_law_443 dL_law_444 dL_law_445 (lz_a C hS1 hl 2 rfl (by omega) dL_law_446 dL_law_447 dL_law_448 dL_law_449 dL_law_450 k))
theorem arm_7 {p : Program} {l : Launch} {e : Env} {s : State} {m : MethodId} {below : List Frame} {meth : Method} {c : Code} {b L : Nat} {xs : Nat → Int32} {D : va_G} {cI cZ cJ : ClassId} {A0 : Nat → Prop} (C : LzC p s m c b L xs D cI cZ cJ A0) : LzA p l e s m below meth c b L D cI cZ cJ A0 459 := by
  intro qK qM i t H locs ls ht hi hw hl kk
  obtain ⟨wa, wb, hw, hPa, hPb, hD, hS⟩ := hw
  obtain ⟨r, wb1, m1, m2, m4, m5⟩ := met_keywordWeight l D ht hw (avS_rg xs (i + 1))
  have hts := C.1.2.2.2.2
  refine lz_armR (pc0 := 459) (pc1 := 465) (pc3 := 474) C hl hw.heads hPa hPb hD hS m1 m2 m4 (cwV 1 hts gL_law_X7_keywordWeight rfl rfl rfl (by decide +kernel) ⟨Nat.le_of_ble_eq_true rfl, Nat.le_of_ble_eq_true rfl⟩) (cwV 1 hts gL_law_X8_keywordWeight rfl rfl rfl (by decide +kernel) ⟨Nat.le_of_ble_eq_true rfl, Nat.le_of_ble_eq_true rfl⟩) rfl (fun k => ?_) (fun H1 locs1 hS1 k => ?_) dL_law_465 dL_law_474 dL_law_477 (by decide) (fun H1 locs1 qa qb qd qs => kk H1 locs1 ⟨_, _, m5, qa, qb, qd, qs⟩)
  · exact lz_q C hl dL_law_459 (lz_a C hS hl 1 rfl (by omega) dL_law_460 dL_law_461 dL_law_462 dL_law_463 dL_law_464 k)
  · exact lz_m C hl dL_law_468 (lz_a C hS1 hl 1 rfl (by omega) dL_law_469 dL_law_470 dL_law_471 dL_law_472 dL_law_473 k)
theorem arm_8 {p : Program} {l : Launch} {e : Env} {s : State} {m : MethodId} {below : List Frame} {meth : Method} {c : Code} {b L : Nat} {xs : Nat → Int32} {D : va_G} {cI cZ cJ : ClassId} {A0 : Nat → Prop} (C : LzC p s m c b L xs D cI cZ cJ A0) : LzA p l e s m below meth c b L D cI cZ cJ A0 482 := by
  intro qK qM i t H locs ls ht hi hw hl kk
  obtain ⟨wa, wb, hw, hPa, hPb, hD, hS⟩ := hw
  obtain ⟨r, wb1, m1, m2, m4, m5⟩ := met_isLive l D ht hw (avS_rg xs (i + 1))
  have hts := C.1.2.2.2.2
  refine lz_armR (pc0 := 482) (pc1 := 488) (pc3 := 497) C hl hw.heads hPa hPb hD hS m1 m2 m4 (cwV 1 hts gL_law_X7_isLive rfl rfl rfl (by decide +kernel) ⟨Nat.le_of_ble_eq_true rfl, Nat.le_of_ble_eq_true rfl⟩) (cwV 1 hts gL_law_X8_isLive rfl rfl rfl (by decide +kernel) ⟨Nat.le_of_ble_eq_true rfl, Nat.le_of_ble_eq_true rfl⟩) rfl (fun k => ?_) (fun H1 locs1 hS1 k => ?_) dL_law_488 dL_law_497 dL_law_500 (by decide) (fun H1 locs1 qa qb qd qs => kk H1 locs1 ⟨_, _, m5, qa, qb, qd, qs⟩)
  · exact lz_q C hl dL_law_482 (lz_a C hS hl 1 rfl (by omega) dL_law_483 dL_law_484 dL_law_485 dL_law_486 dL_law_487 k)
  · exact lz_m C hl dL_law_491 (lz_a C hS1 hl 1 rfl (by omega) dL_law_492 dL_law_493 dL_law_494 dL_law_495 dL_law_496 k)
theorem arm_9 {p : Program} {l : Launch} {e : Env} {s : State} {m : MethodId} {below : List Frame} {meth : Method} {c : Code} {b L : Nat} {xs : Nat → Int32} {D : va_G} {cI cZ cJ : ClassId} {A0 : Nat → Prop} (C : LzC p s m c b L xs D cI cZ cJ A0) : LzA p l e s m below meth c b L D cI cZ cJ A0 505 := by
  intro qK qM i t H locs ls ht hi hw hl kk
  obtain ⟨wa, wb, hw, hPa, hPb, hD, hS⟩ := hw
  obtain ⟨r, wb1, m1, m2, m4, m5⟩ := met_liveCount l D ht hw 
  have hts := C.1.2.2.2.2
  refine lz_armR (pc0 := 505) (pc1 := 506) (pc3 := 510) C hl hw.heads hPa hPb hD hS m1 m2 m4 (cwV 0 hts gL_law_X7_liveCount rfl rfl rfl (by decide +kernel) ⟨Nat.le_of_ble_eq_true rfl, Nat.le_of_ble_eq_true rfl⟩) (cwV 0 hts gL_law_X8_liveCount rfl rfl rfl (by decide +kernel) ⟨Nat.le_of_ble_eq_true rfl, Nat.le_of_ble_eq_true rfl⟩) rfl (fun k => ?_) (fun H1 locs1 hS1 k => ?_) dL_law_506 dL_law_510 dL_law_513 (by decide) (fun H1 locs1 qa qb qd qs => kk H1 locs1 ⟨_, _, m5, qa, qb, qd, qs⟩)
  · exact lz_q C hl dL_law_505 k
  · exact lz_m C hl dL_law_509 k
