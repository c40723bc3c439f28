/-! the law, case by case -/
def mLw (nm : String) : pm_T := (⟨"NettleGreenLaw", nm, ""⟩, code, 4, some .boolean)
section LAW
variable {E : px_E} {d : Nat} {w : pw_W} {Q : Option Value → pw_W → Prop} {nm : String} {i : Nat} {t : ct_T} {g : GG}
theorem lc_0 (hsl : px_sL E < 2 ^ 31) (hi : i + 6 ≤ px_sL E) (hg : WG g) (hX : RX t g w) (hM : RM g w) (k : ∀ w', lOK w' → px_W E (mLw nm) (d + 121) 0 0 1537 [.ref 0, .ref 1, .ref 61, .int (nI i)] [] w' Q) : px_W E (mLw nm) (d + 121) 0 0 244 [.ref 0, .ref 1, .ref 61, .int (nI i)] [] w Q := by
  refine px_aload_n dL_law_244 rfl rfl ?_
  refine px_aload_n dL_law_245 rfl rfl ?_
  refine px_iload_n dL_law_246 rfl rfl ?_
  refine px_iconst dL_law_247 ic_1 ?_
  refine px_iadd dL_law_248 ?_
  refine px_sld dL_law_249 (i + 1) (nI_add i 1) (by omega) hsl ?_
  refine px_aload_n dL_law_250 rfl rfl ?_
  refine px_iload_n dL_law_251 rfl rfl ?_
  refine px_iconst dL_law_252 ic_2 ?_
  refine px_iadd dL_law_253 ?_
  refine px_sld dL_law_254 (i + 2) (nI_add i 2) (by omega) hsl ?_
  refine px_aload_n dL_law_255 rfl rfl ?_
  refine px_iload_n dL_law_256 rfl rfl ?_
  refine px_iconst dL_law_257 ic_3 ?_
  refine px_iadd dL_law_258 ?_
  refine px_sld dL_law_259 (i + 3) (nI_add i 3) (by omega) hsl ?_
  refine px_aload_n dL_law_260 rfl rfl ?_
  refine px_iload_n dL_law_261 rfl rfl ?_
  refine px_iconst dL_law_262 ic_4 ?_
  refine px_iadd dL_law_263 ?_
  refine px_sld dL_law_264 (i + 4) (nI_add i 4) (by omega) hsl ?_
  refine px_aload_n dL_law_265 rfl rfl ?_
  refine px_iload_n dL_law_266 rfl rfl ?_
  refine px_iconst dL_law_267 ic_5 ?_
  refine px_iadd dL_law_268 ?_
  refine px_sld dL_law_269 (i + 5) (nI_add i 5) (by omega) hsl ?_
  refine px_callV (As := [.int (px_sx E (i + 1)), .int (px_sx E (i + 2)), .int (px_sx E (i + 3)), .int (px_sx E (i + 4)), .int (px_sx E (i + 5))]) (st := []) (rc := 0) (rs := 0) (mc := 0) (ms := 0) dL_law_270 lk_L_13 (px_sh1 hX.1 sh_1) rfl rfl (Nat.le_of_ble_eq_true rfl) (px_Call.weaken (tw_feed hg hX hM) (fun v w1 hv => ?_))
  obtain ⟨x, t1, rfl, hw1, h3⟩ := hv
  show px_W E (mLw nm) (d + 121) 0 0 273 [.ref 0, .ref 1, .ref 61, .int (nI i)] [.int x] w1 Q
  refine px_aload_n dL_law_273 rfl rfl ?_
  refine px_aload_n dL_law_274 rfl rfl ?_
  refine px_iload_n dL_law_275 rfl rfl ?_
  refine px_iconst dL_law_276 ic_1 ?_
  refine px_iadd dL_law_277 ?_
  refine px_sld dL_law_278 (i + 1) (nI_add i 1) (by omega) hsl ?_
  refine px_aload_n dL_law_279 rfl rfl ?_
  refine px_iload_n dL_law_280 rfl rfl ?_
  refine px_iconst dL_law_281 ic_2 ?_
  refine px_iadd dL_law_282 ?_
  refine px_sld dL_law_283 (i + 2) (nI_add i 2) (by omega) hsl ?_
  refine px_aload_n dL_law_284 rfl rfl ?_
  refine px_iload_n dL_law_285 rfl rfl ?_
  refine px_iconst dL_law_286 ic_3 ?_
  refine px_iadd dL_law_287 ?_
  refine px_sld dL_law_288 (i + 3) (nI_add i 3) (by omega) hsl ?_
  refine px_aload_n dL_law_289 rfl rfl ?_
  refine px_iload_n dL_law_290 rfl rfl ?_
  refine px_iconst dL_law_291 ic_4 ?_
  refine px_iadd dL_law_292 ?_
  refine px_sld dL_law_293 (i + 4) (nI_add i 4) (by omega) hsl ?_
  refine px_aload_n dL_law_294 rfl rfl ?_
  refine px_iload_n dL_law_295 rfl rfl ?_
  refine px_iconst dL_law_296 ic_5 ?_
  refine px_iadd dL_law_297 ?_
  refine px_sld dL_law_298 (i + 5) (nI_add i 5) (by omega) hsl ?_
  refine px_callV (As := [.int (px_sx E (i + 1)), .int (px_sx E (i + 2)), .int (px_sx E (i + 3)), .int (px_sx E (i + 4)), .int (px_sx E (i + 5))]) (st := [.int x]) (rc := 0) (rs := 0) (mc := 0) (ms := 0) dL_law_299 lk_L_17 (px_sh1 hw1 sh_61) rfl rfl (Nat.le_of_ble_eq_true rfl) (px_Call.weaken h3 (fun v w2 hv => ?_))
  obtain ⟨rfl, ok⟩ := hv
  show px_W E (mLw nm) (d + 121) 0 0 302 [.ref 0, .ref 1, .ref 61, .int (nI i)] [.int x, .int x] w2 Q
  exact px_icmp_eq (tgt := 1537) dL_law_302 (by decide) (fun _ => k w2 ok) (fun z => absurd rfl z)
theorem lc_1 (hsl : px_sL E < 2 ^ 31) (hi : i + 6 ≤ px_sL E) (hg : WG g) (hX : RX t g w) (hM : RM g w) (k : ∀ w', lOK w' → px_W E (mLw nm) (d + 121) 0 0 1537 [.ref 0, .ref 1, .ref 61, .int (nI i)] [] w' Q) : px_W E (mLw nm) (d + 121) 0 0 307 [.ref 0, .ref 1, .ref 61, .int (nI i)] [] w Q := by
  refine px_aload_n dL_law_307 rfl rfl ?_
  refine px_aload_n dL_law_308 rfl rfl ?_
  refine px_iload_n dL_law_309 rfl rfl ?_
  refine px_iconst dL_law_310 ic_1 ?_
  refine px_iadd dL_law_311 ?_
  refine px_sld dL_law_312 (i + 1) (nI_add i 1) (by omega) hsl ?_
  refine px_callV (As := [.int (px_sx E (i + 1))]) (st := []) (rc := 0) (rs := 0) (mc := 0) (ms := 0) dL_law_313 lk_L_18 (px_sh1 hX.1 sh_1) rfl rfl (Nat.le_of_ble_eq_true rfl) (px_Call.weaken (tw_end hg hX hM) (fun v w1 hv => ?_))
  obtain ⟨x, t1, rfl, hw1, h3⟩ := hv
  show px_W E (mLw nm) (d + 121) 0 0 316 [.ref 0, .ref 1, .ref 61, .int (nI i)] [.int x] w1 Q
  refine px_aload_n dL_law_316 rfl rfl ?_
  refine px_aload_n dL_law_317 rfl rfl ?_
  refine px_iload_n dL_law_318 rfl rfl ?_
  refine px_iconst dL_law_319 ic_1 ?_
  refine px_iadd dL_law_320 ?_
  refine px_sld dL_law_321 (i + 1) (nI_add i 1) (by omega) hsl ?_
  refine px_callV (As := [.int (px_sx E (i + 1))]) (st := [.int x]) (rc := 0) (rs := 0) (mc := 0) (ms := 0) dL_law_322 lk_L_22 (px_sh1 hw1 sh_61) rfl rfl (Nat.le_of_ble_eq_true rfl) (px_Call.weaken h3 (fun v w2 hv => ?_))
  obtain ⟨rfl, ok⟩ := hv
  show px_W E (mLw nm) (d + 121) 0 0 325 [.ref 0, .ref 1, .ref 61, .int (nI i)] [.int x, .int x] w2 Q
  exact px_icmp_eq (tgt := 1537) dL_law_325 (by decide) (fun _ => k w2 ok) (fun z => absurd rfl z)
theorem lc_2 (hsl : px_sL E < 2 ^ 31) (hi : i + 6 ≤ px_sL E) (hg : WG g) (hX : RX t g w) (hM : RM g w) (k : ∀ w', lOK w' → px_W E (mLw nm) (d + 121) 0 0 1537 [.ref 0, .ref 1, .ref 61, .int (nI i)] [] w' Q) : px_W E (mLw nm) (d + 121) 0 0 330 [.ref 0, .ref 1, .ref 61, .int (nI i)] [] w Q := by
  refine px_aload_n dL_law_330 rfl rfl ?_
  refine px_callV (As := []) (st := []) (rc := 0) (rs := 0) (mc := 0) (ms := 0) dL_law_331 lk_L_23 (px_sh1 hX.1 sh_1) rfl rfl (Nat.le_of_ble_eq_true rfl) (px_Call.weaken (tw_hamlet hg hX hM) (fun v w1 hv => ?_))
  obtain ⟨x, t1, rfl, hw1, h3⟩ := hv
  show px_W E (mLw nm) (d + 121) 0 0 334 [.ref 0, .ref 1, .ref 61, .int (nI i)] [.int x] w1 Q
  refine px_aload_n dL_law_334 rfl rfl ?_
  refine px_callV (As := []) (st := [.int x]) (rc := 0) (rs := 0) (mc := 0) (ms := 0) dL_law_335 lk_L_27 (px_sh1 hw1 sh_61) rfl rfl (Nat.le_of_ble_eq_true rfl) (px_Call.weaken h3 (fun v w2 hv => ?_))
  obtain ⟨rfl, ok⟩ := hv
  show px_W E (mLw nm) (d + 121) 0 0 338 [.ref 0, .ref 1, .ref 61, .int (nI i)] [.int x, .int x] w2 Q
  exact px_icmp_eq (tgt := 1537) dL_law_338 (by decide) (fun _ => k w2 ok) (fun z => absurd rfl z)
theorem lc_3 (hsl : px_sL E < 2 ^ 31) (hi : i + 6 ≤ px_sL E) (hg : WG g) (hX : RX t g w) (hM : RM g w) (k : ∀ w', lOK w' → px_W E (mLw nm) (d + 121) 0 0 1537 [.ref 0, .ref 1, .ref 61, .int (nI i)] [] w' Q) : px_W E (mLw nm) (d + 121) 0 0 343 [.ref 0, .ref 1, .ref 61, .int (nI i)] [] w Q := by
  refine px_aload_n dL_law_343 rfl rfl ?_
  refine px_aload_n dL_law_344 rfl rfl ?_
  refine px_iload_n dL_law_345 rfl rfl ?_
  refine px_iconst dL_law_346 ic_1 ?_
  refine px_iadd dL_law_347 ?_
  refine px_sld dL_law_348 (i + 1) (nI_add i 1) (by omega) hsl ?_
  refine px_callV (As := [.int (px_sx E (i + 1))]) (st := []) (rc := 0) (rs := 0) (mc := 0) (ms := 0) dL_law_349 lk_L_28 (px_sh1 hX.1 sh_1) rfl rfl (Nat.le_of_ble_eq_true rfl) (px_Call.weaken (tw_fault hg hX hM) (fun v w1 hv => ?_))
  obtain ⟨x, t1, rfl, hw1, h3⟩ := hv
  show px_W E (mLw nm) (d + 121) 0 0 352 [.ref 0, .ref 1, .ref 61, .int (nI i)] [.int x] w1 Q
  refine px_aload_n dL_law_352 rfl rfl ?_
  refine px_aload_n dL_law_353 rfl rfl ?_
  refine px_iload_n dL_law_354 rfl rfl ?_
  refine px_iconst dL_law_355 ic_1 ?_
  refine px_iadd dL_law_356 ?_
  refine px_sld dL_law_357 (i + 1) (nI_add i 1) (by omega) hsl ?_
  refine px_callV (As := [.int (px_sx E (i + 1))]) (st := [.int x]) (rc := 0) (rs := 0) (mc := 0) (ms := 0) dL_law_358 lk_L_31 (px_sh1 hw1 sh_61) rfl rfl (Nat.le_of_ble_eq_true rfl) (px_Call.weaken h3 (fun v w2 hv => ?_))
  obtain ⟨rfl, ok⟩ := hv
  show px_W E (mLw nm) (d + 121) 0 0 361 [.ref 0, .ref 1, .ref 61, .int (nI i)] [.int x, .int x] w2 Q
  exact px_icmp_eq (tgt := 1537) dL_law_361 (by decide) (fun _ => k w2 ok) (fun z => absurd rfl z)
theorem lc_4 (hsl : px_sL E < 2 ^ 31) (hi : i + 6 ≤ px_sL E) (hg : WG g) (hX : RX t g w) (hM : RM g w) (k : ∀ w', lOK w' → px_W E (mLw nm) (d + 121) 0 0 1537 [.ref 0, .ref 1, .ref 61, .int (nI i)] [] w' Q) : px_W E (mLw nm) (d + 121) 0 0 366 [.ref 0, .ref 1, .ref 61, .int (nI i)] [] w Q := by
  refine px_aload_n dL_law_366 rfl rfl ?_
  refine px_aload_n dL_law_367 rfl rfl ?_
  refine px_iload_n dL_law_368 rfl rfl ?_
  refine px_iconst dL_law_369 ic_1 ?_
  refine px_iadd dL_law_370 ?_
  refine px_sld dL_law_371 (i + 1) (nI_add i 1) (by omega) hsl ?_
  refine px_aload_n dL_law_372 rfl rfl ?_
  refine px_iload_n dL_law_373 rfl rfl ?_
  refine px_iconst dL_law_374 ic_2 ?_
  refine px_iadd dL_law_375 ?_
  refine px_sld dL_law_376 (i + 2) (nI_add i 2) (by omega) hsl ?_
  refine px_callV (As := [.int (px_sx E (i + 1)), .int (px_sx E (i + 2))]) (st := []) (rc := 0) (rs := 0) (mc := 0) (ms := 0) dL_law_377 lk_L_32 (px_sh1 hX.1 sh_1) rfl rfl (Nat.le_of_ble_eq_true rfl) (px_Call.weaken (tw_person hg hX hM) (fun v w1 hv => ?_))
  obtain ⟨x, t1, rfl, hw1, h3⟩ := hv
  show px_W E (mLw nm) (d + 121) 0 0 380 [.ref 0, .ref 1, .ref 61, .int (nI i)] [.int x] w1 Q
  refine px_aload_n dL_law_380 rfl rfl ?_
  refine px_aload_n dL_law_381 rfl rfl ?_
  refine px_iload_n dL_law_382 rfl rfl ?_
  refine px_iconst dL_law_383 ic_1 ?_
  refine px_iadd dL_law_384 ?_
  refine px_sld dL_law_385 (i + 1) (nI_add i 1) (by omega) hsl ?_
  refine px_aload_n dL_law_386 rfl rfl ?_
  refine px_iload_n dL_law_387 rfl rfl ?_
  refine px_iconst dL_law_388 ic_2 ?_
  refine px_iadd dL_law_389 ?_
  refine px_sld dL_law_390 (i + 2) (nI_add i 2) (by omega) hsl ?_
  refine px_callV (As := [.int (px_sx E (i + 1)), .int (px_sx E (i + 2))]) (st := [.int x]) (rc := 0) (rs := 0) (mc := 0) (ms := 0) dL_law_391 lk_L_36 (px_sh1 hw1 sh_61) rfl rfl (Nat.le_of_ble_eq_true rfl) (px_Call.weaken h3 (fun v w2 hv => ?_))
  obtain ⟨rfl, ok⟩ := hv
  show px_W E (mLw nm) (d + 121) 0 0 394 [.ref 0, .ref 1, .ref 61, .int (nI i)] [.int x, .int x] w2 Q
  exact px_icmp_eq (tgt := 1537) dL_law_394 (by decide) (fun _ => k w2 ok) (fun z => absurd rfl z)
theorem lc_5 (hsl : px_sL E < 2 ^ 31) (hi : i + 6 ≤ px_sL E) (hg : WG g) (hX : RX t g w) (hM : RM g w) (k : ∀ w', lOK w' → px_W E (mLw nm) (d + 121) 0 0 1537 [.ref 0, .ref 1, .ref 61, .int (nI i)] [] w' Q) : px_W E (mLw nm) (d + 121) 0 0 399 [.ref 0, .ref 1, .ref 61, .int (nI i)] [] w Q := by
  refine px_aload_n dL_law_399 rfl rfl ?_
  refine px_aload_n dL_law_400 rfl rfl ?_
  refine px_iload_n dL_law_401 rfl rfl ?_
  refine px_iconst dL_law_402 ic_1 ?_
  refine px_iadd dL_law_403 ?_
  refine px_sld dL_law_404 (i + 1) (nI_add i 1) (by omega) hsl ?_
  refine px_aload_n dL_law_405 rfl rfl ?_
  refine px_iload_n dL_law_406 rfl rfl ?_
  refine px_iconst dL_law_407 ic_2 ?_
  refine px_iadd dL_law_408 ?_
  refine px_sld dL_law_409 (i + 2) (nI_add i 2) (by omega) hsl ?_
  refine px_callV (As := [.int (px_sx E (i + 1)), .int (px_sx E (i + 2))]) (st := []) (rc := 0) (rs := 0) (mc := 0) (ms := 0) dL_law_410 lk_L_37 (px_sh1 hX.1 sh_1) rfl rfl (Nat.le_of_ble_eq_true rfl) (px_Call.weaken (tw_meeting hg hX hM) (fun v w1 hv => ?_))
  obtain ⟨x, t1, rfl, hw1, h3⟩ := hv
  show px_W E (mLw nm) (d + 121) 0 0 413 [.ref 0, .ref 1, .ref 61, .int (nI i)] [.int x] w1 Q
  refine px_aload_n dL_law_413 rfl rfl ?_
  refine px_aload_n dL_law_414 rfl rfl ?_
  refine px_iload_n dL_law_415 rfl rfl ?_
  refine px_iconst dL_law_416 ic_1 ?_
  refine px_iadd dL_law_417 ?_
  refine px_sld dL_law_418 (i + 1) (nI_add i 1) (by omega) hsl ?_
  refine px_aload_n dL_law_419 rfl rfl ?_
  refine px_iload_n dL_law_420 rfl rfl ?_
  refine px_iconst dL_law_421 ic_2 ?_
  refine px_iadd dL_law_422 ?_
  refine px_sld dL_law_423 (i + 2) (nI_add i 2) (by omega) hsl ?_
  refine px_callV (As := [.int (px_sx E (i + 1)), .int (px_sx E (i + 2))]) (st := [.int x]) (rc := 0) (rs := 0) (mc := 0) (ms := 0) dL_law_424 lk_L_40 (px_sh1 hw1 sh_61) rfl rfl (Nat.le_of_ble_eq_true rfl) (px_Call.weaken h3 (fun v w2 hv => ?_))
  obtain ⟨rfl, ok⟩ := hv
  show px_W E (mLw nm) (d + 121) 0 0 427 [.ref 0, .ref 1, .ref 61, .int (nI i)] [.int x, .int x] w2 Q
  exact px_icmp_eq (tgt := 1537) dL_law_427 (by decide) (fun _ => k w2 ok) (fun z => absurd rfl z)
theorem lc_6 (hsl : px_sL E < 2 ^ 31) (hi : i + 6 ≤ px_sL E) (hg : WG g) (hX : RX t g w) (hM : RM g w) (k : ∀ w', lOK w' → px_W E (mLw nm) (d + 121) 0 0 1537 [.ref 0, .ref 1, .ref 61, .int (nI i)] [] w' Q) : px_W E (mLw nm) (d + 121) 0 0 432 [.ref 0, .ref 1, .ref 61, .int (nI i)] [] w Q := by
  refine px_aload_n dL_law_432 rfl rfl ?_
  refine px_aload_n dL_law_433 rfl rfl ?_
  refine px_iload_n dL_law_434 rfl rfl ?_
  refine px_iconst dL_law_435 ic_1 ?_
  refine px_iadd dL_law_436 ?_
  refine px_sld dL_law_437 (i + 1) (nI_add i 1) (by omega) hsl ?_
  refine px_aload_n dL_law_438 rfl rfl ?_
  refine px_iload_n dL_law_439 rfl rfl ?_
  refine px_iconst dL_law_440 ic_2 ?_
  refine px_iadd dL_law_441 ?_
  refine px_sld dL_law_442 (i + 2) (nI_add i 2) (by omega) hsl ?_
  refine px_callV (As := [.int (px_sx E (i + 1)), .int (px_sx E (i + 2))]) (st := []) (rc := 0) (rs := 0) (mc := 0) (ms := 0) dL_law_443 lk_L_41 (px_sh1 hX.1 sh_1) rfl rfl (Nat.le_of_ble_eq_true rfl) (px_Call.weaken (tw_brother hg hX hM) (fun v w1 hv => ?_))
  obtain ⟨x, t1, rfl, hw1, h3⟩ := hv
  show px_W E (mLw nm) (d + 121) 0 0 446 [.ref 0, .ref 1, .ref 61, .int (nI i)] [.int x] w1 Q
  refine px_aload_n dL_law_446 rfl rfl ?_
  refine px_aload_n dL_law_447 rfl rfl ?_
  refine px_iload_n dL_law_448 rfl rfl ?_
  refine px_iconst dL_law_449 ic_1 ?_
  refine px_iadd dL_law_450 ?_
  refine px_sld dL_law_451 (i + 1) (nI_add i 1) (by omega) hsl ?_
  refine px_aload_n dL_law_452 rfl rfl ?_
  refine px_iload_n dL_law_453 rfl rfl ?_
  refine px_iconst dL_law_454 ic_2 ?_
  refine px_iadd dL_law_455 ?_
  refine px_sld dL_law_456 (i + 2) (nI_add i 2) (by omega) hsl ?_
  refine px_callV (As := [.int (px_sx E (i + 1)), .int (px_sx E (i + 2))]) (st := [.int x]) (rc := 0) (rs := 0) (mc := 0) (ms := 0) dL_law_457 lk_L_44 (px_sh1 hw1 sh_61) rfl rfl (Nat.le_of_ble_eq_true rfl) (px_Call.weaken h3 (fun v w2 hv => ?_))
  obtain ⟨rfl, ok⟩ := hv
  show px_W E (mLw nm) (d + 121) 0 0 460 [.ref 0, .ref 1, .ref 61, .int (nI i)] [.int x, .int x] w2 Q
  exact px_icmp_eq (tgt := 1537) dL_law_460 (by decide) (fun _ => k w2 ok) (fun z => absurd rfl z)
theorem lc_7 (hsl : px_sL E < 2 ^ 31) (hi : i + 6 ≤ px_sL E) (hg : WG g) (hX : RX t g w) (hM : RM g w) (k : ∀ w', lOK w' → px_W E (mLw nm) (d + 121) 0 0 1537 [.ref 0, .ref 1, .ref 61, .int (nI i)] [] w' Q) : px_W E (mLw nm) (d + 121) 0 0 465 [.ref 0, .ref 1, .ref 61, .int (nI i)] [] w Q := by
  refine px_aload_n dL_law_465 rfl rfl ?_
  refine px_aload_n dL_law_466 rfl rfl ?_
  refine px_iload_n dL_law_467 rfl rfl ?_
  refine px_iconst dL_law_468 ic_1 ?_
  refine px_iadd dL_law_469 ?_
  refine px_sld dL_law_470 (i + 1) (nI_add i 1) (by omega) hsl ?_
  refine px_aload_n dL_law_471 rfl rfl ?_
  refine px_iload_n dL_law_472 rfl rfl ?_
  refine px_iconst dL_law_473 ic_2 ?_
  refine px_iadd dL_law_474 ?_
  refine px_sld dL_law_475 (i + 2) (nI_add i 2) (by omega) hsl ?_
  refine px_callV (As := [.int (px_sx E (i + 1)), .int (px_sx E (i + 2))]) (st := []) (rc := 0) (rs := 0) (mc := 0) (ms := 0) dL_law_476 lk_L_45 (px_sh1 hX.1 sh_1) rfl rfl (Nat.le_of_ble_eq_true rfl) (px_Call.weaken (tw_round hg hX hM) (fun v w1 hv => ?_))
  obtain ⟨x, t1, rfl, hw1, h3⟩ := hv
  show px_W E (mLw nm) (d + 121) 0 0 479 [.ref 0, .ref 1, .ref 61, .int (nI i)] [.int x] w1 Q
  refine px_aload_n dL_law_479 rfl rfl ?_
  refine px_aload_n dL_law_480 rfl rfl ?_
  refine px_iload_n dL_law_481 rfl rfl ?_
  refine px_iconst dL_law_482 ic_1 ?_
  refine px_iadd dL_law_483 ?_
  refine px_sld dL_law_484 (i + 1) (nI_add i 1) (by omega) hsl ?_
  refine px_aload_n dL_law_485 rfl rfl ?_
  refine px_iload_n dL_law_486 rfl rfl ?_
  refine px_iconst dL_law_487 ic_2 ?_
  refine px_iadd dL_law_488 ?_
  refine px_sld dL_law_489 (i + 2) (nI_add i 2) (by omega) hsl ?_
  refine px_callV (As := [.int (px_sx E (i + 1)), .int (px_sx E (i + 2))]) (st := [.int x]) (rc := 0) (rs := 0) (mc := 0) (ms := 0) dL_law_490 lk_L_48 (px_sh1 hw1 sh_61) rfl rfl (Nat.le_of_ble_eq_true rfl) (px_Call.weaken h3 (fun v w2 hv => ?_))
  obtain ⟨rfl, ok⟩ := hv
  show px_W E (mLw nm) (d + 121) 0 0 493 [.ref 0, .ref 1, .ref 61, .int (nI i)] [.int x, .int x] w2 Q
  exact px_icmp_eq (tgt := 1537) dL_law_493 (by decide) (fun _ => k w2 ok) (fun z => absurd rfl z)
theorem lc_8 (hsl : px_sL E < 2 ^ 31) (hi : i + 6 ≤ px_sL E) (hg : WG g) (hX : RX t g w) (hM : RM g w) (k : ∀ w', lOK w' → px_W E (mLw nm) (d + 121) 0 0 1537 [.ref 0, .ref 1, .ref 61, .int (nI i)] [] w' Q) : px_W E (mLw nm) (d + 121) 0 0 498 [.ref 0, .ref 1, .ref 61, .int (nI i)] [] w Q := by
  refine px_aload_n dL_law_498 rfl rfl ?_
  refine px_aload_n dL_law_499 rfl rfl ?_
  refine px_iload_n dL_law_500 rfl rfl ?_
  refine px_iconst dL_law_501 ic_1 ?_
  refine px_iadd dL_law_502 ?_
  refine px_sld dL_law_503 (i + 1) (nI_add i 1) (by omega) hsl ?_
  refine px_aload_n dL_law_504 rfl rfl ?_
  refine px_iload_n dL_law_505 rfl rfl ?_
  refine px_iconst dL_law_506 ic_2 ?_
  refine px_iadd dL_law_507 ?_
  refine px_sld dL_law_508 (i + 2) (nI_add i 2) (by omega) hsl ?_
  refine px_callV (As := [.int (px_sx E (i + 1)), .int (px_sx E (i + 2))]) (st := []) (rc := 0) (rs := 0) (mc := 0) (ms := 0) dL_law_509 lk_L_49 (px_sh1 hX.1 sh_1) rfl rfl (Nat.le_of_ble_eq_true rfl) (px_Call.weaken (tw_touch hg hX hM) (fun v w1 hv => ?_))
  obtain ⟨x, t1, rfl, hw1, h3⟩ := hv
  show px_W E (mLw nm) (d + 121) 0 0 512 [.ref 0, .ref 1, .ref 61, .int (nI i)] [.int x] w1 Q
  refine px_aload_n dL_law_512 rfl rfl ?_
  refine px_aload_n dL_law_513 rfl rfl ?_
  refine px_iload_n dL_law_514 rfl rfl ?_
  refine px_iconst dL_law_515 ic_1 ?_
  refine px_iadd dL_law_516 ?_
  refine px_sld dL_law_517 (i + 1) (nI_add i 1) (by omega) hsl ?_
  refine px_aload_n dL_law_518 rfl rfl ?_
  refine px_iload_n dL_law_519 rfl rfl ?_
  refine px_iconst dL_law_520 ic_2 ?_
  refine px_iadd dL_law_521 ?_
  refine px_sld dL_law_522 (i + 2) (nI_add i 2) (by omega) hsl ?_
  refine px_callV (As := [.int (px_sx E (i + 1)), .int (px_sx E (i + 2))]) (st := [.int x]) (rc := 0) (rs := 0) (mc := 0) (ms := 0) dL_law_523 lk_L_52 (px_sh1 hw1 sh_61) rfl rfl (Nat.le_of_ble_eq_true rfl) (px_Call.weaken h3 (fun v w2 hv => ?_))
  obtain ⟨rfl, ok⟩ := hv
  show px_W E (mLw nm) (d + 121) 0 0 526 [.ref 0, .ref 1, .ref 61, .int (nI i)] [.int x, .int x] w2 Q
  exact px_icmp_eq (tgt := 1537) dL_law_526 (by decide) (fun _ => k w2 ok) (fun z => absurd rfl z)
theorem lc_9 (hsl : px_sL E < 2 ^ 31) (hi : i + 6 ≤ px_sL E) (hg : WG g) (hX : RX t g w) (hM : RM g w) (k : ∀ w', lOK w' → px_W E (mLw nm) (d + 121) 0 0 1537 [.ref 0, .ref 1, .ref 61, .int (nI i)] [] w' Q) : px_W E (mLw nm) (d + 121) 0 0 531 [.ref 0, .ref 1, .ref 61, .int (nI i)] [] w Q := by
  refine px_aload_n dL_law_531 rfl rfl ?_
  refine px_callV (As := []) (st := []) (rc := 0) (rs := 0) (mc := 0) (ms := 0) dL_law_532 lk_L_53 (px_sh1 hX.1 sh_1) rfl rfl (Nat.le_of_ble_eq_true rfl) (px_Call.weaken (tw_abed hg hX hM) (fun v w1 hv => ?_))
  obtain ⟨x, t1, rfl, hw1, h3⟩ := hv
  show px_W E (mLw nm) (d + 121) 0 0 535 [.ref 0, .ref 1, .ref 61, .int (nI i)] [.int x] w1 Q
  refine px_aload_n dL_law_535 rfl rfl ?_
  refine px_callV (As := []) (st := [.int x]) (rc := 0) (rs := 0) (mc := 0) (ms := 0) dL_law_536 lk_L_56 (px_sh1 hw1 sh_61) rfl rfl (Nat.le_of_ble_eq_true rfl) (px_Call.weaken h3 (fun v w2 hv => ?_))
  obtain ⟨rfl, ok⟩ := hv
  show px_W E (mLw nm) (d + 121) 0 0 539 [.ref 0, .ref 1, .ref 61, .int (nI i)] [.int x, .int x] w2 Q
  exact px_icmp_eq (tgt := 1537) dL_law_539 (by decide) (fun _ => k w2 ok) (fun z => absurd rfl z)
theorem lc_10 (hsl : px_sL E < 2 ^ 31) (hi : i + 6 ≤ px_sL E) (hg : WG g) (hX : RX t g w) (hM : RM g w) (k : ∀ w', lOK w' → px_W E (mLw nm) (d + 121) 0 0 1537 [.ref 0, .ref 1, .ref 61, .int (nI i)] [] w' Q) : px_W E (mLw nm) (d + 121) 0 0 544 [.ref 0, .ref 1, .ref 61, .int (nI i)] [] w Q := by
  refine px_aload_n dL_law_544 rfl rfl ?_
  refine px_callV (As := []) (st := []) (rc := 0) (rs := 0) (mc := 0) (ms := 0) dL_law_545 lk_L_57 (px_sh1 hX.1 sh_1) rfl rfl (Nat.le_of_ble_eq_true rfl) (px_Call.weaken (tw_day hg hX hM) (fun v w1 hv => ?_))
  obtain ⟨x, t1, rfl, hw1, h3⟩ := hv
  show px_W E (mLw nm) (d + 121) 0 0 548 [.ref 0, .ref 1, .ref 61, .int (nI i)] [.int x] w1 Q
  refine px_aload_n dL_law_548 rfl rfl ?_
  refine px_callV (As := []) (st := [.int x]) (rc := 0) (rs := 0) (mc := 0) (ms := 0) dL_law_549 lk_L_60 (px_sh1 hw1 sh_61) rfl rfl (Nat.le_of_ble_eq_true rfl) (px_Call.weaken h3 (fun v w2 hv => ?_))
  obtain ⟨rfl, ok⟩ := hv
  show px_W E (mLw nm) (d + 121) 0 0 552 [.ref 0, .ref 1, .ref 61, .int (nI i)] [.int x, .int x] w2 Q
  exact px_icmp_eq (tgt := 1537) dL_law_552 (by decide) (fun _ => k w2 ok) (fun z => absurd rfl z)
theorem lc_11 (hsl : px_sL E < 2 ^ 31) (hi : i + 6 ≤ px_sL E) (hg : WG g) (hX : RX t g w) (hM : RM g w) (k : ∀ w', lOK w' → px_W E (mLw nm) (d + 121) 0 0 1537 [.ref 0, .ref 1, .ref 61, .int (nI i)] [] w' Q) : px_W E (mLw nm) (d + 121) 0 0 557 [.ref 0, .ref 1, .ref 61, .int (nI i)] [] w Q := by
  refine px_aload_n dL_law_557 rfl rfl ?_
  refine px_aload_n dL_law_558 rfl rfl ?_
  refine px_iload_n dL_law_559 rfl rfl ?_
  refine px_iconst dL_law_560 ic_1 ?_
  refine px_iadd dL_law_561 ?_
  refine px_sld dL_law_562 (i + 1) (nI_add i 1) (by omega) hsl ?_
  refine px_callV (As := [.int (px_sx E (i + 1))]) (st := []) (rc := 0) (rs := 0) (mc := 0) (ms := 0) dL_law_563 lk_L_61 (px_sh1 hX.1 sh_1) rfl rfl (Nat.le_of_ble_eq_true rfl) (px_Call.weaken (tw_lesson hg hX hM) (fun v w1 hv => ?_))
  obtain ⟨x, t1, rfl, hw1, h3⟩ := hv
  show px_W E (mLw nm) (d + 121) 0 0 566 [.ref 0, .ref 1, .ref 61, .int (nI i)] [.int x] w1 Q
  refine px_aload_n dL_law_566 rfl rfl ?_
  refine px_aload_n dL_law_567 rfl rfl ?_
  refine px_iload_n dL_law_568 rfl rfl ?_
  refine px_iconst dL_law_569 ic_1 ?_
  refine px_iadd dL_law_570 ?_
  refine px_sld dL_law_571 (i + 1) (nI_add i 1) (by omega) hsl ?_
  refine px_callV (As := [.int (px_sx E (i + 1))]) (st := [.int x]) (rc := 0) (rs := 0) (mc := 0) (ms := 0) dL_law_572 lk_L_64 (px_sh1 hw1 sh_61) rfl rfl (Nat.le_of_ble_eq_true rfl) (px_Call.weaken h3 (fun v w2 hv => ?_))
  obtain ⟨rfl, ok⟩ := hv
  show px_W E (mLw nm) (d + 121) 0 0 575 [.ref 0, .ref 1, .ref 61, .int (nI i)] [.int x, .int x] w2 Q
  exact px_icmp_eq (tgt := 1537) dL_law_575 (by decide) (fun _ => k w2 ok) (fun z => absurd rfl z)
theorem lc_12 (hsl : px_sL E < 2 ^ 31) (hi : i + 6 ≤ px_sL E) (hg : WG g) (hX : RX t g w) (hM : RM g w) (k : ∀ w', lOK w' → px_W E (mLw nm) (d + 121) 0 0 1537 [.ref 0, .ref 1, .ref 61, .int (nI i)] [] w' Q) : px_W E (mLw nm) (d + 121) 0 0 580 [.ref 0, .ref 1, .ref 61, .int (nI i)] [] w Q := by
  refine px_aload_n dL_law_580 rfl rfl ?_
  refine px_aload_n dL_law_581 rfl rfl ?_
  refine px_iload_n dL_law_582 rfl rfl ?_
  refine px_iconst dL_law_583 ic_1 ?_
  refine px_iadd dL_law_584 ?_
  refine px_sld dL_law_585 (i + 1) (nI_add i 1) (by omega) hsl ?_
  refine px_callV (As := [.int (px_sx E (i + 1))]) (st := []) (rc := 0) (rs := 0) (mc := 0) (ms := 0) dL_law_586 lk_L_65 (px_sh1 hX.1 sh_1) rfl rfl (Nat.le_of_ble_eq_true rfl) (px_Call.weaken (tw_forbid hg hX hM) (fun v w1 hv => ?_))
  obtain ⟨x, t1, rfl, hw1, h3⟩ := hv
  show px_W E (mLw nm) (d + 121) 0 0 589 [.ref 0, .ref 1, .ref 61, .int (nI i)] [.int x] w1 Q
  refine px_aload_n dL_law_589 rfl rfl ?_
  refine px_aload_n dL_law_590 rfl rfl ?_
  refine px_iload_n dL_law_591 rfl rfl ?_
  refine px_iconst dL_law_592 ic_1 ?_
  refine px_iadd dL_law_593 ?_
  refine px_sld dL_law_594 (i + 1) (nI_add i 1) (by omega) hsl ?_
  refine px_callV (As := [.int (px_sx E (i + 1))]) (st := [.int x]) (rc := 0) (rs := 0) (mc := 0) (ms := 0) dL_law_595 lk_L_68 (px_sh1 hw1 sh_61) rfl rfl (Nat.le_of_ble_eq_true rfl) (px_Call.weaken h3 (fun v w2 hv => ?_))
  obtain ⟨rfl, ok⟩ := hv
  show px_W E (mLw nm) (d + 121) 0 0 598 [.ref 0, .ref 1, .ref 61, .int (nI i)] [.int x, .int x] w2 Q
  exact px_icmp_eq (tgt := 1537) dL_law_598 (by decide) (fun _ => k w2 ok) (fun z => absurd rfl z)
theorem lc_13 (hsl : px_sL E < 2 ^ 31) (hi : i + 6 ≤ px_sL E) (hg : WG g) (hX : RX t g w) (hM : RM g w) (k : ∀ w', lOK w' → px_W E (mLw nm) (d + 121) 0 0 1537 [.ref 0, .ref 1, .ref 61, .int (nI i)] [] w' Q) : px_W E (mLw nm) (d + 121) 0 0 603 [.ref 0, .ref 1, .ref 61, .int (nI i)] [] w Q := by
  refine px_aload_n dL_law_603 rfl rfl ?_
  refine px_aload_n dL_law_604 rfl rfl ?_
  refine px_iload_n dL_law_605 rfl rfl ?_
  refine px_iconst dL_law_606 ic_1 ?_
  refine px_iadd dL_law_607 ?_
  refine px_sld dL_law_608 (i + 1) (nI_add i 1) (by omega) hsl ?_
  refine px_callV (As := [.int (px_sx E (i + 1))]) (st := []) (rc := 0) (rs := 0) (mc := 0) (ms := 0) dL_law_609 lk_L_69 (px_sh1 hX.1 sh_1) rfl rfl (Nat.le_of_ble_eq_true rfl) (px_Call.weaken (tw_allow hg hX hM) (fun v w1 hv => ?_))
  obtain ⟨x, t1, rfl, hw1, h3⟩ := hv
  show px_W E (mLw nm) (d + 121) 0 0 612 [.ref 0, .ref 1, .ref 61, .int (nI i)] [.int x] w1 Q
  refine px_aload_n dL_law_612 rfl rfl ?_
  refine px_aload_n dL_law_613 rfl rfl ?_
  refine px_iload_n dL_law_614 rfl rfl ?_
  refine px_iconst dL_law_615 ic_1 ?_
  refine px_iadd dL_law_616 ?_
  refine px_sld dL_law_617 (i + 1) (nI_add i 1) (by omega) hsl ?_
  refine px_callV (As := [.int (px_sx E (i + 1))]) (st := [.int x]) (rc := 0) (rs := 0) (mc := 0) (ms := 0) dL_law_618 lk_L_72 (px_sh1 hw1 sh_61) rfl rfl (Nat.le_of_ble_eq_true rfl) (px_Call.weaken h3 (fun v w2 hv => ?_))
  obtain ⟨rfl, ok⟩ := hv
  show px_W E (mLw nm) (d + 121) 0 0 621 [.ref 0, .ref 1, .ref 61, .int (nI i)] [.int x, .int x] w2 Q
  exact px_icmp_eq (tgt := 1537) dL_law_621 (by decide) (fun _ => k w2 ok) (fun z => absurd rfl z)
theorem lc_14 (hsl : px_sL E < 2 ^ 31) (hi : i + 6 ≤ px_sL E) (hg : WG g) (hX : RX t g w) (hM : RM g w) (k : ∀ w', lOK w' → px_W E (mLw nm) (d + 121) 0 0 1537 [.ref 0, .ref 1, .ref 61, .int (nI i)] [] w' Q) : px_W E (mLw nm) (d + 121) 0 0 626 [.ref 0, .ref 1, .ref 61, .int (nI i)] [] w Q := by
  refine px_aload_n dL_law_626 rfl rfl ?_
  refine px_aload_n dL_law_627 rfl rfl ?_
  refine px_iload_n dL_law_628 rfl rfl ?_
  refine px_iconst dL_law_629 ic_1 ?_
  refine px_iadd dL_law_630 ?_
  refine px_sld dL_law_631 (i + 1) (nI_add i 1) (by omega) hsl ?_
  refine px_aload_n dL_law_632 rfl rfl ?_
  refine px_iload_n dL_law_633 rfl rfl ?_
  refine px_iconst dL_law_634 ic_2 ?_
  refine px_iadd dL_law_635 ?_
  refine px_sld dL_law_636 (i + 2) (nI_add i 2) (by omega) hsl ?_
  refine px_callV (As := [.int (px_sx E (i + 1)), .int (px_sx E (i + 2))]) (st := []) (rc := 0) (rs := 0) (mc := 0) (ms := 0) dL_law_637 lk_L_73 (px_sh1 hX.1 sh_1) rfl rfl (Nat.le_of_ble_eq_true rfl) (px_Call.weaken (tw_call hg hX hM) (fun v w1 hv => ?_))
  obtain ⟨x, t1, rfl, hw1, h3⟩ := hv
  show px_W E (mLw nm) (d + 121) 0 0 640 [.ref 0, .ref 1, .ref 61, .int (nI i)] [.int x] w1 Q
  refine px_aload_n dL_law_640 rfl rfl ?_
  refine px_aload_n dL_law_641 rfl rfl ?_
  refine px_iload_n dL_law_642 rfl rfl ?_
  refine px_iconst dL_law_643 ic_1 ?_
  refine px_iadd dL_law_644 ?_
  refine px_sld dL_law_645 (i + 1) (nI_add i 1) (by omega) hsl ?_
  refine px_aload_n dL_law_646 rfl rfl ?_
  refine px_iload_n dL_law_647 rfl rfl ?_
  refine px_iconst dL_law_648 ic_2 ?_
  refine px_iadd dL_law_649 ?_
  refine px_sld dL_law_650 (i + 2) (nI_add i 2) (by omega) hsl ?_
  refine px_callV (As := [.int (px_sx E (i + 1)), .int (px_sx E (i + 2))]) (st := [.int x]) (rc := 0) (rs := 0) (mc := 0) (ms := 0) dL_law_651 lk_L_76 (px_sh1 hw1 sh_61) rfl rfl (Nat.le_of_ble_eq_true rfl) (px_Call.weaken h3 (fun v w2 hv => ?_))
  obtain ⟨rfl, ok⟩ := hv
  show px_W E (mLw nm) (d + 121) 0 0 654 [.ref 0, .ref 1, .ref 61, .int (nI i)] [.int x, .int x] w2 Q
  exact px_icmp_eq (tgt := 1537) dL_law_654 (by decide) (fun _ => k w2 ok) (fun z => absurd rfl z)
theorem lc_15 (hsl : px_sL E < 2 ^ 31) (hi : i + 6 ≤ px_sL E) (hg : WG g) (hX : RX t g w) (hM : RM g w) (k : ∀ w', lOK w' → px_W E (mLw nm) (d + 121) 0 0 1537 [.ref 0, .ref 1, .ref 61, .int (nI i)] [] w' Q) : px_W E (mLw nm) (d + 121) 0 0 659 [.ref 0, .ref 1, .ref 61, .int (nI i)] [] w Q := by
  refine px_aload_n dL_law_659 rfl rfl ?_
  refine px_callV (As := []) (st := []) (rc := 0) (rs := 0) (mc := 0) (ms := 0) dL_law_660 lk_L_77 (px_sh1 hX.1 sh_1) rfl rfl (Nat.le_of_ble_eq_true rfl) (px_Call.weaken (tw_undo hg hX hM) (fun v w1 hv => ?_))
  obtain ⟨x, t1, rfl, hw1, h3⟩ := hv
  show px_W E (mLw nm) (d + 121) 0 0 663 [.ref 0, .ref 1, .ref 61, .int (nI i)] [.int x] w1 Q
  refine px_aload_n dL_law_663 rfl rfl ?_
  refine px_callV (As := []) (st := [.int x]) (rc := 0) (rs := 0) (mc := 0) (ms := 0) dL_law_664 lk_L_81 (px_sh1 hw1 sh_61) rfl rfl (Nat.le_of_ble_eq_true rfl) (px_Call.weaken h3 (fun v w2 hv => ?_))
  obtain ⟨rfl, ok⟩ := hv
  show px_W E (mLw nm) (d + 121) 0 0 667 [.ref 0, .ref 1, .ref 61, .int (nI i)] [.int x, .int x] w2 Q
  exact px_icmp_eq (tgt := 1537) dL_law_667 (by decide) (fun _ => k w2 ok) (fun z => absurd rfl z)
theorem lc_16 (hsl : px_sL E < 2 ^ 31) (hi : i + 6 ≤ px_sL E) (hg : WG g) (hX : RX t g w) (hM : RM g w) (k : ∀ w', lOK w' → px_W E (mLw nm) (d + 121) 0 0 1537 [.ref 0, .ref 1, .ref 61, .int (nI i)] [] w' Q) : px_W E (mLw nm) (d + 121) 0 0 672 [.ref 0, .ref 1, .ref 61, .int (nI i)] [] w Q := by
  refine px_aload_n dL_law_672 rfl rfl ?_
  refine px_callV (As := []) (st := []) (rc := 0) (rs := 0) (mc := 0) (ms := 0) dL_law_673 lk_L_82 (px_sh1 hX.1 sh_1) rfl rfl (Nat.le_of_ble_eq_true rfl) (px_Call.weaken (tw_redo hg hX hM) (fun v w1 hv => ?_))
  obtain ⟨x, t1, rfl, hw1, h3⟩ := hv
  show px_W E (mLw nm) (d + 121) 0 0 676 [.ref 0, .ref 1, .ref 61, .int (nI i)] [.int x] w1 Q
  refine px_aload_n dL_law_676 rfl rfl ?_
  refine px_callV (As := []) (st := [.int x]) (rc := 0) (rs := 0) (mc := 0) (ms := 0) dL_law_677 lk_L_85 (px_sh1 hw1 sh_61) rfl rfl (Nat.le_of_ble_eq_true rfl) (px_Call.weaken h3 (fun v w2 hv => ?_))
  obtain ⟨rfl, ok⟩ := hv
  show px_W E (mLw nm) (d + 121) 0 0 680 [.ref 0, .ref 1, .ref 61, .int (nI i)] [.int x, .int x] w2 Q
  exact px_icmp_eq (tgt := 1537) dL_law_680 (by decide) (fun _ => k w2 ok) (fun z => absurd rfl z)
theorem lc_17 (hsl : px_sL E < 2 ^ 31) (hi : i + 6 ≤ px_sL E) (hg : WG g) (hX : RX t g w) (hM : RM g w) (k : ∀ w', lOK w' → px_W E (mLw nm) (d + 121) 0 0 1537 [.ref 0, .ref 1, .ref 61, .int (nI i)] [] w' Q) : px_W E (mLw nm) (d + 121) 0 0 685 [.ref 0, .ref 1, .ref 61, .int (nI i)] [] w Q := by
  refine px_aload_n dL_law_685 rfl rfl ?_
  refine px_aload_n dL_law_686 rfl rfl ?_
  refine px_iload_n dL_law_687 rfl rfl ?_
  refine px_iconst dL_law_688 ic_1 ?_
  refine px_iadd dL_law_689 ?_
  refine px_sld dL_law_690 (i + 1) (nI_add i 1) (by omega) hsl ?_
  refine px_aload_n dL_law_691 rfl rfl ?_
  refine px_iload_n dL_law_692 rfl rfl ?_
  refine px_iconst dL_law_693 ic_2 ?_
  refine px_iadd dL_law_694 ?_
  refine px_sld dL_law_695 (i + 2) (nI_add i 2) (by omega) hsl ?_
  refine px_aload_n dL_law_696 rfl rfl ?_
  refine px_iload_n dL_law_697 rfl rfl ?_
  refine px_iconst dL_law_698 ic_3 ?_
  refine px_iadd dL_law_699 ?_
  refine px_sld dL_law_700 (i + 3) (nI_add i 3) (by omega) hsl ?_
  refine px_callV (As := [.int (px_sx E (i + 1)), .int (px_sx E (i + 2)), .int (px_sx E (i + 3))]) (st := []) (rc := 0) (rs := 0) (mc := 0) (ms := 0) dL_law_701 lk_L_86 (px_sh1 hX.1 sh_1) rfl rfl (Nat.le_of_ble_eq_true rfl) (px_Call.weaken (tw_will hg hX hM) (fun v w1 hv => ?_))
  obtain ⟨x, t1, rfl, hw1, h3⟩ := hv
  show px_W E (mLw nm) (d + 121) 0 0 704 [.ref 0, .ref 1, .ref 61, .int (nI i)] [.int x] w1 Q
  refine px_aload_n dL_law_704 rfl rfl ?_
  refine px_aload_n dL_law_705 rfl rfl ?_
  refine px_iload_n dL_law_706 rfl rfl ?_
  refine px_iconst dL_law_707 ic_1 ?_
  refine px_iadd dL_law_708 ?_
  refine px_sld dL_law_709 (i + 1) (nI_add i 1) (by omega) hsl ?_
  refine px_aload_n dL_law_710 rfl rfl ?_
  refine px_iload_n dL_law_711 rfl rfl ?_
  refine px_iconst dL_law_712 ic_2 ?_
  refine px_iadd dL_law_713 ?_
  refine px_sld dL_law_714 (i + 2) (nI_add i 2) (by omega) hsl ?_
  refine px_aload_n dL_law_715 rfl rfl ?_
  refine px_iload_n dL_law_716 rfl rfl ?_
  refine px_iconst dL_law_717 ic_3 ?_
  refine px_iadd dL_law_718 ?_
  refine px_sld dL_law_719 (i + 3) (nI_add i 3) (by omega) hsl ?_
  refine px_callV (As := [.int (px_sx E (i + 1)), .int (px_sx E (i + 2)), .int (px_sx E (i + 3))]) (st := [.int x]) (rc := 0) (rs := 0) (mc := 0) (ms := 0) dL_law_720 lk_L_90 (px_sh1 hw1 sh_61) rfl rfl (Nat.le_of_ble_eq_true rfl) (px_Call.weaken h3 (fun v w2 hv => ?_))
  obtain ⟨rfl, ok⟩ := hv
  show px_W E (mLw nm) (d + 121) 0 0 723 [.ref 0, .ref 1, .ref 61, .int (nI i)] [.int x, .int x] w2 Q
  exact px_icmp_eq (tgt := 1537) dL_law_723 (by decide) (fun _ => k w2 ok) (fun z => absurd rfl z)
theorem lc_18 (hsl : px_sL E < 2 ^ 31) (hi : i + 6 ≤ px_sL E) (hg : WG g) (hX : RX t g w) (hM : RM g w) (k : ∀ w', lOK w' → px_W E (mLw nm) (d + 121) 0 0 1537 [.ref 0, .ref 1, .ref 61, .int (nI i)] [] w' Q) : px_W E (mLw nm) (d + 121) 0 0 728 [.ref 0, .ref 1, .ref 61, .int (nI i)] [] w Q := by
  refine px_aload_n dL_law_728 rfl rfl ?_
  refine px_aload_n dL_law_729 rfl rfl ?_
  refine px_iload_n dL_law_730 rfl rfl ?_
  refine px_iconst dL_law_731 ic_1 ?_
  refine px_iadd dL_law_732 ?_
  refine px_sld dL_law_733 (i + 1) (nI_add i 1) (by omega) hsl ?_
  refine px_aload_n dL_law_734 rfl rfl ?_
  refine px_iload_n dL_law_735 rfl rfl ?_
  refine px_iconst dL_law_736 ic_2 ?_
  refine px_iadd dL_law_737 ?_
  refine px_sld dL_law_738 (i + 2) (nI_add i 2) (by omega) hsl ?_
  refine px_callV (As := [.int (px_sx E (i + 1)), .int (px_sx E (i + 2))]) (st := []) (rc := 0) (rs := 0) (mc := 0) (ms := 0) dL_law_739 lk_L_91 (px_sh1 hX.1 sh_1) rfl rfl (Nat.le_of_ble_eq_true rfl) (px_Call.weaken (tw_firm hg hX hM) (fun v w1 hv => ?_))
  obtain ⟨x, t1, rfl, hw1, h3⟩ := hv
  show px_W E (mLw nm) (d + 121) 0 0 742 [.ref 0, .ref 1, .ref 61, .int (nI i)] [.int x] w1 Q
  refine px_aload_n dL_law_742 rfl rfl ?_
  refine px_aload_n dL_law_743 rfl rfl ?_
  refine px_iload_n dL_law_744 rfl rfl ?_
  refine px_iconst dL_law_745 ic_1 ?_
  refine px_iadd dL_law_746 ?_
  refine px_sld dL_law_747 (i + 1) (nI_add i 1) (by omega) hsl ?_
  refine px_aload_n dL_law_748 rfl rfl ?_
  refine px_iload_n dL_law_749 rfl rfl ?_
  refine px_iconst dL_law_750 ic_2 ?_
  refine px_iadd dL_law_751 ?_
  refine px_sld dL_law_752 (i + 2) (nI_add i 2) (by omega) hsl ?_
  refine px_callV (As := [.int (px_sx E (i + 1)), .int (px_sx E (i + 2))]) (st := [.int x]) (rc := 0) (rs := 0) (mc := 0) (ms := 0) dL_law_753 lk_L_94 (px_sh1 hw1 sh_61) rfl rfl (Nat.le_of_ble_eq_true rfl) (px_Call.weaken h3 (fun v w2 hv => ?_))
  obtain ⟨rfl, ok⟩ := hv
  show px_W E (mLw nm) (d + 121) 0 0 756 [.ref 0, .ref 1, .ref 61, .int (nI i)] [.int x, .int x] w2 Q
  exact px_icmp_eq (tgt := 1537) dL_law_756 (by decide) (fun _ => k w2 ok) (fun z => absurd rfl z)
theorem lc_19 (hsl : px_sL E < 2 ^ 31) (hi : i + 6 ≤ px_sL E) (hg : WG g) (hX : RX t g w) (hM : RM g w) (k : ∀ w', lOK w' → px_W E (mLw nm) (d + 121) 0 0 1537 [.ref 0, .ref 1, .ref 61, .int (nI i)] [] w' Q) : px_W E (mLw nm) (d + 121) 0 0 761 [.ref 0, .ref 1, .ref 61, .int (nI i)] [] w Q := by
  refine px_aload_n dL_law_761 rfl rfl ?_
  refine px_aload_n dL_law_762 rfl rfl ?_
  refine px_iload_n dL_law_763 rfl rfl ?_
  refine px_iconst dL_law_764 ic_1 ?_
  refine px_iadd dL_law_765 ?_
  refine px_sld dL_law_766 (i + 1) (nI_add i 1) (by omega) hsl ?_
  refine px_callV (As := [.int (px_sx E (i + 1))]) (st := []) (rc := 0) (rs := 0) (mc := 0) (ms := 0) dL_law_767 lk_L_95 (px_sh1 hX.1 sh_1) rfl rfl (Nat.le_of_ble_eq_true rfl) (px_Call.weaken (tw_hurt hg hX hM) (fun v w1 hv => ?_))
  obtain ⟨x, t1, rfl, hw1, h3⟩ := hv
  show px_W E (mLw nm) (d + 121) 0 0 770 [.ref 0, .ref 1, .ref 61, .int (nI i)] [.int x] w1 Q
  refine px_aload_n dL_law_770 rfl rfl ?_
  refine px_aload_n dL_law_771 rfl rfl ?_
  refine px_iload_n dL_law_772 rfl rfl ?_
  refine px_iconst dL_law_773 ic_1 ?_
  refine px_iadd dL_law_774 ?_
  refine px_sld dL_law_775 (i + 1) (nI_add i 1) (by omega) hsl ?_
  refine px_callV (As := [.int (px_sx E (i + 1))]) (st := [.int x]) (rc := 0) (rs := 0) (mc := 0) (ms := 0) dL_law_776 lk_L_98 (px_sh1 hw1 sh_61) rfl rfl (Nat.le_of_ble_eq_true rfl) (px_Call.weaken h3 (fun v w2 hv => ?_))
  obtain ⟨rfl, ok⟩ := hv
  show px_W E (mLw nm) (d + 121) 0 0 779 [.ref 0, .ref 1, .ref 61, .int (nI i)] [.int x, .int x] w2 Q
  exact px_icmp_eq (tgt := 1537) dL_law_779 (by decide) (fun _ => k w2 ok) (fun z => absurd rfl z)
theorem lc_20 (hsl : px_sL E < 2 ^ 31) (hi : i + 6 ≤ px_sL E) (hg : WG g) (hX : RX t g w) (hM : RM g w) (k : ∀ w', lOK w' → px_W E (mLw nm) (d + 121) 0 0 1537 [.ref 0, .ref 1, .ref 61, .int (nI i)] [] w' Q) : px_W E (mLw nm) (d + 121) 0 0 784 [.ref 0, .ref 1, .ref 61, .int (nI i)] [] w Q := by
  refine px_aload_n dL_law_784 rfl rfl ?_
  refine px_aload_n dL_law_785 rfl rfl ?_
  refine px_iload_n dL_law_786 rfl rfl ?_
  refine px_iconst dL_law_787 ic_1 ?_
  refine px_iadd dL_law_788 ?_
  refine px_sld dL_law_789 (i + 1) (nI_add i 1) (by omega) hsl ?_
  refine px_callV (As := [.int (px_sx E (i + 1))]) (st := []) (rc := 0) (rs := 0) (mc := 0) (ms := 0) dL_law_790 lk_L_99 (px_sh1 hX.1 sh_1) rfl rfl (Nat.le_of_ble_eq_true rfl) (px_Call.weaken (tw_felled hg hX hM) (fun v w1 hv => ?_))
  obtain ⟨x, t1, rfl, hw1, h3⟩ := hv
  show px_W E (mLw nm) (d + 121) 0 0 793 [.ref 0, .ref 1, .ref 61, .int (nI i)] [.int x] w1 Q
  refine px_aload_n dL_law_793 rfl rfl ?_
  refine px_aload_n dL_law_794 rfl rfl ?_
  refine px_iload_n dL_law_795 rfl rfl ?_
  refine px_iconst dL_law_796 ic_1 ?_
  refine px_iadd dL_law_797 ?_
  refine px_sld dL_law_798 (i + 1) (nI_add i 1) (by omega) hsl ?_
  refine px_callV (As := [.int (px_sx E (i + 1))]) (st := [.int x]) (rc := 0) (rs := 0) (mc := 0) (ms := 0) dL_law_799 lk_L_102 (px_sh1 hw1 sh_61) rfl rfl (Nat.le_of_ble_eq_true rfl) (px_Call.weaken h3 (fun v w2 hv => ?_))
  obtain ⟨rfl, ok⟩ := hv
  show px_W E (mLw nm) (d + 121) 0 0 802 [.ref 0, .ref 1, .ref 61, .int (nI i)] [.int x, .int x] w2 Q
  exact px_icmp_eq (tgt := 1537) dL_law_802 (by decide) (fun _ => k w2 ok) (fun z => absurd rfl z)
theorem lc_21 (hsl : px_sL E < 2 ^ 31) (hi : i + 6 ≤ px_sL E) (hg : WG g) (hX : RX t g w) (hM : RM g w) (k : ∀ w', lOK w' → px_W E (mLw nm) (d + 121) 0 0 1537 [.ref 0, .ref 1, .ref 61, .int (nI i)] [] w' Q) : px_W E (mLw nm) (d + 121) 0 0 807 [.ref 0, .ref 1, .ref 61, .int (nI i)] [] w Q := by
  refine px_aload_n dL_law_807 rfl rfl ?_
  refine px_aload_n dL_law_808 rfl rfl ?_
  refine px_iload_n dL_law_809 rfl rfl ?_
  refine px_iconst dL_law_810 ic_1 ?_
  refine px_iadd dL_law_811 ?_
  refine px_sld dL_law_812 (i + 1) (nI_add i 1) (by omega) hsl ?_
  refine px_aload_n dL_law_813 rfl rfl ?_
  refine px_iload_n dL_law_814 rfl rfl ?_
  refine px_iconst dL_law_815 ic_2 ?_
  refine px_iadd dL_law_816 ?_
  refine px_sld dL_law_817 (i + 2) (nI_add i 2) (by omega) hsl ?_
  refine px_callV (As := [.int (px_sx E (i + 1)), .int (px_sx E (i + 2))]) (st := []) (rc := 0) (rs := 0) (mc := 0) (ms := 0) dL_law_818 lk_L_103 (px_sh1 hX.1 sh_1) rfl rfl (Nat.le_of_ble_eq_true rfl) (px_Call.weaken (tw_peace hg hX hM) (fun v w1 hv => ?_))
  obtain ⟨x, t1, rfl, hw1, h3⟩ := hv
  show px_W E (mLw nm) (d + 121) 0 0 821 [.ref 0, .ref 1, .ref 61, .int (nI i)] [.int x] w1 Q
  refine px_aload_n dL_law_821 rfl rfl ?_
  refine px_aload_n dL_law_822 rfl rfl ?_
  refine px_iload_n dL_law_823 rfl rfl ?_
  refine px_iconst dL_law_824 ic_1 ?_
  refine px_iadd dL_law_825 ?_
  refine px_sld dL_law_826 (i + 1) (nI_add i 1) (by omega) hsl ?_
  refine px_aload_n dL_law_827 rfl rfl ?_
  refine px_iload_n dL_law_828 rfl rfl ?_
  refine px_iconst dL_law_829 ic_2 ?_
  refine px_iadd dL_law_830 ?_
  refine px_sld dL_law_831 (i + 2) (nI_add i 2) (by omega) hsl ?_
  refine px_callV (As := [.int (px_sx E (i + 1)), .int (px_sx E (i + 2))]) (st := [.int x]) (rc := 0) (rs := 0) (mc := 0) (ms := 0) dL_law_832 lk_L_106 (px_sh1 hw1 sh_61) rfl rfl (Nat.le_of_ble_eq_true rfl) (px_Call.weaken h3 (fun v w2 hv => ?_))
  obtain ⟨rfl, ok⟩ := hv
  show px_W E (mLw nm) (d + 121) 0 0 835 [.ref 0, .ref 1, .ref 61, .int (nI i)] [.int x, .int x] w2 Q
  exact px_icmp_eq (tgt := 1537) dL_law_835 (by decide) (fun _ => k w2 ok) (fun z => absurd rfl z)
theorem lc_22 (hsl : px_sL E < 2 ^ 31) (hi : i + 6 ≤ px_sL E) (hg : WG g) (hX : RX t g w) (hM : RM g w) (k : ∀ w', lOK w' → px_W E (mLw nm) (d + 121) 0 0 1537 [.ref 0, .ref 1, .ref 61, .int (nI i)] [] w' Q) : px_W E (mLw nm) (d + 121) 0 0 840 [.ref 0, .ref 1, .ref 61, .int (nI i)] [] w Q := by
  refine px_aload_n dL_law_840 rfl rfl ?_
  refine px_aload_n dL_law_841 rfl rfl ?_
  refine px_iload_n dL_law_842 rfl rfl ?_
  refine px_iconst dL_law_843 ic_1 ?_
  refine px_iadd dL_law_844 ?_
  refine px_sld dL_law_845 (i + 1) (nI_add i 1) (by omega) hsl ?_
  refine px_aload_n dL_law_846 rfl rfl ?_
  refine px_iload_n dL_law_847 rfl rfl ?_
  refine px_iconst dL_law_848 ic_2 ?_
  refine px_iadd dL_law_849 ?_
  refine px_sld dL_law_850 (i + 2) (nI_add i 2) (by omega) hsl ?_
  refine px_callV (As := [.int (px_sx E (i + 1)), .int (px_sx E (i + 2))]) (st := []) (rc := 0) (rs := 0) (mc := 0) (ms := 0) dL_law_851 lk_L_107 (px_sh1 hX.1 sh_1) rfl rfl (Nat.le_of_ble_eq_true rfl) (px_Call.weaken (tw_rounds hg hX hM) (fun v w1 hv => ?_))
  obtain ⟨x, t1, rfl, hw1, h3⟩ := hv
  show px_W E (mLw nm) (d + 121) 0 0 854 [.ref 0, .ref 1, .ref 61, .int (nI i)] [.int x] w1 Q
  refine px_aload_n dL_law_854 rfl rfl ?_
  refine px_aload_n dL_law_855 rfl rfl ?_
  refine px_iload_n dL_law_856 rfl rfl ?_
  refine px_iconst dL_law_857 ic_1 ?_
  refine px_iadd dL_law_858 ?_
  refine px_sld dL_law_859 (i + 1) (nI_add i 1) (by omega) hsl ?_
  refine px_aload_n dL_law_860 rfl rfl ?_
  refine px_iload_n dL_law_861 rfl rfl ?_
  refine px_iconst dL_law_862 ic_2 ?_
  refine px_iadd dL_law_863 ?_
  refine px_sld dL_law_864 (i + 2) (nI_add i 2) (by omega) hsl ?_
  refine px_callV (As := [.int (px_sx E (i + 1)), .int (px_sx E (i + 2))]) (st := [.int x]) (rc := 0) (rs := 0) (mc := 0) (ms := 0) dL_law_865 lk_L_110 (px_sh1 hw1 sh_61) rfl rfl (Nat.le_of_ble_eq_true rfl) (px_Call.weaken h3 (fun v w2 hv => ?_))
  obtain ⟨rfl, ok⟩ := hv
  show px_W E (mLw nm) (d + 121) 0 0 868 [.ref 0, .ref 1, .ref 61, .int (nI i)] [.int x, .int x] w2 Q
  exact px_icmp_eq (tgt := 1537) dL_law_868 (by decide) (fun _ => k w2 ok) (fun z => absurd rfl z)
theorem lc_23 (hsl : px_sL E < 2 ^ 31) (hi : i + 6 ≤ px_sL E) (hg : WG g) (hX : RX t g w) (hM : RM g w) (k : ∀ w', lOK w' → px_W E (mLw nm) (d + 121) 0 0 1537 [.ref 0, .ref 1, .ref 61, .int (nI i)] [] w' Q) : px_W E (mLw nm) (d + 121) 0 0 873 [.ref 0, .ref 1, .ref 61, .int (nI i)] [] w Q := by
  refine px_aload_n dL_law_873 rfl rfl ?_
  refine px_aload_n dL_law_874 rfl rfl ?_
  refine px_iload_n dL_law_875 rfl rfl ?_
  refine px_iconst dL_law_876 ic_1 ?_
  refine px_iadd dL_law_877 ?_
  refine px_sld dL_law_878 (i + 1) (nI_add i 1) (by omega) hsl ?_
  refine px_aload_n dL_law_879 rfl rfl ?_
  refine px_iload_n dL_law_880 rfl rfl ?_
  refine px_iconst dL_law_881 ic_2 ?_
  refine px_iadd dL_law_882 ?_
  refine px_sld dL_law_883 (i + 2) (nI_add i 2) (by omega) hsl ?_
  refine px_callV (As := [.int (px_sx E (i + 1)), .int (px_sx E (i + 2))]) (st := []) (rc := 0) (rs := 0) (mc := 0) (ms := 0) dL_law_884 lk_L_111 (px_sh1 hX.1 sh_1) rfl rfl (Nat.le_of_ble_eq_true rfl) (px_Call.weaken (tw_grip hg hX hM) (fun v w1 hv => ?_))
  obtain ⟨x, t1, rfl, hw1, h3⟩ := hv
  show px_W E (mLw nm) (d + 121) 0 0 887 [.ref 0, .ref 1, .ref 61, .int (nI i)] [.int x] w1 Q
  refine px_aload_n dL_law_887 rfl rfl ?_
  refine px_aload_n dL_law_888 rfl rfl ?_
  refine px_iload_n dL_law_889 rfl rfl ?_
  refine px_iconst dL_law_890 ic_1 ?_
  refine px_iadd dL_law_891 ?_
  refine px_sld dL_law_892 (i + 1) (nI_add i 1) (by omega) hsl ?_
  refine px_aload_n dL_law_893 rfl rfl ?_
  refine px_iload_n dL_law_894 rfl rfl ?_
  refine px_iconst dL_law_895 ic_2 ?_
  refine px_iadd dL_law_896 ?_
  refine px_sld dL_law_897 (i + 2) (nI_add i 2) (by omega) hsl ?_
  refine px_callV (As := [.int (px_sx E (i + 1)), .int (px_sx E (i + 2))]) (st := [.int x]) (rc := 0) (rs := 0) (mc := 0) (ms := 0) dL_law_898 lk_L_114 (px_sh1 hw1 sh_61) rfl rfl (Nat.le_of_ble_eq_true rfl) (px_Call.weaken h3 (fun v w2 hv => ?_))
  obtain ⟨rfl, ok⟩ := hv
  show px_W E (mLw nm) (d + 121) 0 0 901 [.ref 0, .ref 1, .ref 61, .int (nI i)] [.int x, .int x] w2 Q
  exact px_icmp_eq (tgt := 1537) dL_law_901 (by decide) (fun _ => k w2 ok) (fun z => absurd rfl z)
theorem lc_24 (hsl : px_sL E < 2 ^ 31) (hi : i + 6 ≤ px_sL E) (hg : WG g) (hX : RX t g w) (hM : RM g w) (k : ∀ w', lOK w' → px_W E (mLw nm) (d + 121) 0 0 1537 [.ref 0, .ref 1, .ref 61, .int (nI i)] [] w' Q) : px_W E (mLw nm) (d + 121) 0 0 906 [.ref 0, .ref 1, .ref 61, .int (nI i)] [] w Q := by
  refine px_aload_n dL_law_906 rfl rfl ?_
  refine px_aload_n dL_law_907 rfl rfl ?_
  refine px_iload_n dL_law_908 rfl rfl ?_
  refine px_iconst dL_law_909 ic_1 ?_
  refine px_iadd dL_law_910 ?_
  refine px_sld dL_law_911 (i + 1) (nI_add i 1) (by omega) hsl ?_
  refine px_aload_n dL_law_912 rfl rfl ?_
  refine px_iload_n dL_law_913 rfl rfl ?_
  refine px_iconst dL_law_914 ic_2 ?_
  refine px_iadd dL_law_915 ?_
  refine px_sld dL_law_916 (i + 2) (nI_add i 2) (by omega) hsl ?_
  refine px_callV (As := [.int (px_sx E (i + 1)), .int (px_sx E (i + 2))]) (st := []) (rc := 0) (rs := 0) (mc := 0) (ms := 0) dL_law_917 lk_L_115 (px_sh1 hX.1 sh_1) rfl rfl (Nat.le_of_ble_eq_true rfl) (px_Call.weaken (tw_pupil hg hX hM) (fun v w1 hv => ?_))
  obtain ⟨x, t1, rfl, hw1, h3⟩ := hv
  show px_W E (mLw nm) (d + 121) 0 0 920 [.ref 0, .ref 1, .ref 61, .int (nI i)] [.int x] w1 Q
  refine px_aload_n dL_law_920 rfl rfl ?_
  refine px_aload_n dL_law_921 rfl rfl ?_
  refine px_iload_n dL_law_922 rfl rfl ?_
  refine px_iconst dL_law_923 ic_1 ?_
  refine px_iadd dL_law_924 ?_
  refine px_sld dL_law_925 (i + 1) (nI_add i 1) (by omega) hsl ?_
  refine px_aload_n dL_law_926 rfl rfl ?_
  refine px_iload_n dL_law_927 rfl rfl ?_
  refine px_iconst dL_law_928 ic_2 ?_
  refine px_iadd dL_law_929 ?_
  refine px_sld dL_law_930 (i + 2) (nI_add i 2) (by omega) hsl ?_
  refine px_callV (As := [.int (px_sx E (i + 1)), .int (px_sx E (i + 2))]) (st := [.int x]) (rc := 0) (rs := 0) (mc := 0) (ms := 0) dL_law_931 lk_L_118 (px_sh1 hw1 sh_61) rfl rfl (Nat.le_of_ble_eq_true rfl) (px_Call.weaken h3 (fun v w2 hv => ?_))
  obtain ⟨rfl, ok⟩ := hv
  show px_W E (mLw nm) (d + 121) 0 0 934 [.ref 0, .ref 1, .ref 61, .int (nI i)] [.int x, .int x] w2 Q
  exact px_icmp_eq (tgt := 1537) dL_law_934 (by decide) (fun _ => k w2 ok) (fun z => absurd rfl z)
theorem lc_25 (hsl : px_sL E < 2 ^ 31) (hi : i + 6 ≤ px_sL E) (hg : WG g) (hX : RX t g w) (hM : RM g w) (k : ∀ w', lOK w' → px_W E (mLw nm) (d + 121) 0 0 1537 [.ref 0, .ref 1, .ref 61, .int (nI i)] [] w' Q) : px_W E (mLw nm) (d + 121) 0 0 939 [.ref 0, .ref 1, .ref 61, .int (nI i)] [] w Q := by
  refine px_aload_n dL_law_939 rfl rfl ?_
  refine px_callV (As := []) (st := []) (rc := 0) (rs := 0) (mc := 0) (ms := 0) dL_law_940 lk_L_119 (px_sh1 hX.1 sh_1) rfl rfl (Nat.le_of_ble_eq_true rfl) (px_Call.weaken (tw_evenings hg hX hM) (fun v w1 hv => ?_))
  obtain ⟨x, t1, rfl, hw1, h3⟩ := hv
  show px_W E (mLw nm) (d + 121) 0 0 943 [.ref 0, .ref 1, .ref 61, .int (nI i)] [.int x] w1 Q
  refine px_aload_n dL_law_943 rfl rfl ?_
  refine px_callV (As := []) (st := [.int x]) (rc := 0) (rs := 0) (mc := 0) (ms := 0) dL_law_944 lk_L_122 (px_sh1 hw1 sh_61) rfl rfl (Nat.le_of_ble_eq_true rfl) (px_Call.weaken h3 (fun v w2 hv => ?_))
  obtain ⟨rfl, ok⟩ := hv
  show px_W E (mLw nm) (d + 121) 0 0 947 [.ref 0, .ref 1, .ref 61, .int (nI i)] [.int x, .int x] w2 Q
  exact px_icmp_eq (tgt := 1537) dL_law_947 (by decide) (fun _ => k w2 ok) (fun z => absurd rfl z)
theorem lc_26 (hsl : px_sL E < 2 ^ 31) (hi : i + 6 ≤ px_sL E) (hg : WG g) (hX : RX t g w) (hM : RM g w) (k : ∀ w', lOK w' → px_W E (mLw nm) (d + 121) 0 0 1537 [.ref 0, .ref 1, .ref 61, .int (nI i)] [] w' Q) : px_W E (mLw nm) (d + 121) 0 0 952 [.ref 0, .ref 1, .ref 61, .int (nI i)] [] w Q := by
  refine px_aload_n dL_law_952 rfl rfl ?_
  refine px_aload_n dL_law_953 rfl rfl ?_
  refine px_iload_n dL_law_954 rfl rfl ?_
  refine px_iconst dL_law_955 ic_1 ?_
  refine px_iadd dL_law_956 ?_
  refine px_sld dL_law_957 (i + 1) (nI_add i 1) (by omega) hsl ?_
  refine px_aload_n dL_law_958 rfl rfl ?_
  refine px_iload_n dL_law_959 rfl rfl ?_
  refine px_iconst dL_law_960 ic_2 ?_
  refine px_iadd dL_law_961 ?_
  refine px_sld dL_law_962 (i + 2) (nI_add i 2) (by omega) hsl ?_
  refine px_callV (As := [.int (px_sx E (i + 1)), .int (px_sx E (i + 2))]) (st := []) (rc := 0) (rs := 0) (mc := 0) (ms := 0) dL_law_963 lk_L_123 (px_sh1 hX.1 sh_1) rfl rfl (Nat.le_of_ble_eq_true rfl) (px_Call.weaken (tw_rumour hg hX hM) (fun v w1 hv => ?_))
  obtain ⟨x, t1, rfl, hw1, h3⟩ := hv
  show px_W E (mLw nm) (d + 121) 0 0 966 [.ref 0, .ref 1, .ref 61, .int (nI i)] [.int x] w1 Q
  refine px_aload_n dL_law_966 rfl rfl ?_
  refine px_aload_n dL_law_967 rfl rfl ?_
  refine px_iload_n dL_law_968 rfl rfl ?_
  refine px_iconst dL_law_969 ic_1 ?_
  refine px_iadd dL_law_970 ?_
  refine px_sld dL_law_971 (i + 1) (nI_add i 1) (by omega) hsl ?_
  refine px_aload_n dL_law_972 rfl rfl ?_
  refine px_iload_n dL_law_973 rfl rfl ?_
  refine px_iconst dL_law_974 ic_2 ?_
  refine px_iadd dL_law_975 ?_
  refine px_sld dL_law_976 (i + 2) (nI_add i 2) (by omega) hsl ?_
  refine px_callV (As := [.int (px_sx E (i + 1)), .int (px_sx E (i + 2))]) (st := [.int x]) (rc := 0) (rs := 0) (mc := 0) (ms := 0) dL_law_977 lk_L_126 (px_sh1 hw1 sh_61) rfl rfl (Nat.le_of_ble_eq_true rfl) (px_Call.weaken h3 (fun v w2 hv => ?_))
  obtain ⟨rfl, ok⟩ := hv
  show px_W E (mLw nm) (d + 121) 0 0 980 [.ref 0, .ref 1, .ref 61, .int (nI i)] [.int x, .int x] w2 Q
  exact px_icmp_eq (tgt := 1537) dL_law_980 (by decide) (fun _ => k w2 ok) (fun z => absurd rfl z)
theorem lc_27 (hsl : px_sL E < 2 ^ 31) (hi : i + 6 ≤ px_sL E) (hg : WG g) (hX : RX t g w) (hM : RM g w) (k : ∀ w', lOK w' → px_W E (mLw nm) (d + 121) 0 0 1537 [.ref 0, .ref 1, .ref 61, .int (nI i)] [] w' Q) : px_W E (mLw nm) (d + 121) 0 0 985 [.ref 0, .ref 1, .ref 61, .int (nI i)] [] w Q := by
  refine px_aload_n dL_law_985 rfl rfl ?_
  refine px_callV (As := []) (st := []) (rc := 0) (rs := 0) (mc := 0) (ms := 0) dL_law_986 lk_L_127 (px_sh1 hX.1 sh_1) rfl rfl (Nat.le_of_ble_eq_true rfl) (px_Call.weaken (tw_manners hg hX hM) (fun v w1 hv => ?_))
  obtain ⟨x, t1, rfl, hw1, h3⟩ := hv
  show px_W E (mLw nm) (d + 121) 0 0 989 [.ref 0, .ref 1, .ref 61, .int (nI i)] [.int x] w1 Q
  refine px_aload_n dL_law_989 rfl rfl ?_
  refine px_callV (As := []) (st := [.int x]) (rc := 0) (rs := 0) (mc := 0) (ms := 0) dL_law_990 lk_L_130 (px_sh1 hw1 sh_61) rfl rfl (Nat.le_of_ble_eq_true rfl) (px_Call.weaken h3 (fun v w2 hv => ?_))
  obtain ⟨rfl, ok⟩ := hv
  show px_W E (mLw nm) (d + 121) 0 0 993 [.ref 0, .ref 1, .ref 61, .int (nI i)] [.int x, .int x] w2 Q
  exact px_icmp_eq (tgt := 1537) dL_law_993 (by decide) (fun _ => k w2 ok) (fun z => absurd rfl z)
theorem lc_28 (hsl : px_sL E < 2 ^ 31) (hi : i + 6 ≤ px_sL E) (hg : WG g) (hX : RX t g w) (hM : RM g w) (k : ∀ w', lOK w' → px_W E (mLw nm) (d + 121) 0 0 1537 [.ref 0, .ref 1, .ref 61, .int (nI i)] [] w' Q) : px_W E (mLw nm) (d + 121) 0 0 998 [.ref 0, .ref 1, .ref 61, .int (nI i)] [] w Q := by
  refine px_aload_n dL_law_998 rfl rfl ?_
  refine px_aload_n dL_law_999 rfl rfl ?_
  refine px_iload_n dL_law_1000 rfl rfl ?_
  refine px_iconst dL_law_1001 ic_1 ?_
  refine px_iadd dL_law_1002 ?_
  refine px_sld dL_law_1003 (i + 1) (nI_add i 1) (by omega) hsl ?_
  refine px_callV (As := [.int (px_sx E (i + 1))]) (st := []) (rc := 0) (rs := 0) (mc := 0) (ms := 0) dL_law_1004 lk_L_131 (px_sh1 hX.1 sh_1) rfl rfl (Nat.le_of_ble_eq_true rfl) (px_Call.weaken (tw_duel hg hX hM) (fun v w1 hv => ?_))
  obtain ⟨x, t1, rfl, hw1, h3⟩ := hv
  show px_W E (mLw nm) (d + 121) 0 0 1007 [.ref 0, .ref 1, .ref 61, .int (nI i)] [.int x] w1 Q
  refine px_aload_n dL_law_1007 rfl rfl ?_
  refine px_aload_n dL_law_1008 rfl rfl ?_
  refine px_iload_n dL_law_1009 rfl rfl ?_
  refine px_iconst dL_law_1010 ic_1 ?_
  refine px_iadd dL_law_1011 ?_
  refine px_sld dL_law_1012 (i + 1) (nI_add i 1) (by omega) hsl ?_
  refine px_callV (As := [.int (px_sx E (i + 1))]) (st := [.int x]) (rc := 0) (rs := 0) (mc := 0) (ms := 0) dL_law_1013 lk_L_134 (px_sh1 hw1 sh_61) rfl rfl (Nat.le_of_ble_eq_true rfl) (px_Call.weaken h3 (fun v w2 hv => ?_))
  obtain ⟨rfl, ok⟩ := hv
  show px_W E (mLw nm) (d + 121) 0 0 1016 [.ref 0, .ref 1, .ref 61, .int (nI i)] [.int x, .int x] w2 Q
  exact px_icmp_eq (tgt := 1537) dL_law_1016 (by decide) (fun _ => k w2 ok) (fun z => absurd rfl z)
theorem lc_29 (hsl : px_sL E < 2 ^ 31) (hi : i + 6 ≤ px_sL E) (hg : WG g) (hX : RX t g w) (hM : RM g w) (k : ∀ w', lOK w' → px_W E (mLw nm) (d + 121) 0 0 1537 [.ref 0, .ref 1, .ref 61, .int (nI i)] [] w' Q) : px_W E (mLw nm) (d + 121) 0 0 1021 [.ref 0, .ref 1, .ref 61, .int (nI i)] [] w Q := by
  refine px_aload_n dL_law_1021 rfl rfl ?_
  refine px_aload_n dL_law_1022 rfl rfl ?_
  refine px_iload_n dL_law_1023 rfl rfl ?_
  refine px_iconst dL_law_1024 ic_1 ?_
  refine px_iadd dL_law_1025 ?_
  refine px_sld dL_law_1026 (i + 1) (nI_add i 1) (by omega) hsl ?_
  refine px_callV (As := [.int (px_sx E (i + 1))]) (st := []) (rc := 0) (rs := 0) (mc := 0) (ms := 0) dL_law_1027 lk_L_135 (px_sh1 hX.1 sh_1) rfl rfl (Nat.le_of_ble_eq_true rfl) (px_Call.weaken (tw_scourge hg hX hM) (fun v w1 hv => ?_))
  obtain ⟨x, t1, rfl, hw1, h3⟩ := hv
  show px_W E (mLw nm) (d + 121) 0 0 1030 [.ref 0, .ref 1, .ref 61, .int (nI i)] [.int x] w1 Q
  refine px_aload_n dL_law_1030 rfl rfl ?_
  refine px_aload_n dL_law_1031 rfl rfl ?_
  refine px_iload_n dL_law_1032 rfl rfl ?_
  refine px_iconst dL_law_1033 ic_1 ?_
  refine px_iadd dL_law_1034 ?_
  refine px_sld dL_law_1035 (i + 1) (nI_add i 1) (by omega) hsl ?_
  refine px_callV (As := [.int (px_sx E (i + 1))]) (st := [.int x]) (rc := 0) (rs := 0) (mc := 0) (ms := 0) dL_law_1036 lk_L_138 (px_sh1 hw1 sh_61) rfl rfl (Nat.le_of_ble_eq_true rfl) (px_Call.weaken h3 (fun v w2 hv => ?_))
  obtain ⟨rfl, ok⟩ := hv
  show px_W E (mLw nm) (d + 121) 0 0 1039 [.ref 0, .ref 1, .ref 61, .int (nI i)] [.int x, .int x] w2 Q
  exact px_icmp_eq (tgt := 1537) dL_law_1039 (by decide) (fun _ => k w2 ok) (fun z => absurd rfl z)
theorem lc_30 (hsl : px_sL E < 2 ^ 31) (hi : i + 6 ≤ px_sL E) (hg : WG g) (hX : RX t g w) (hM : RM g w) (k : ∀ w', lOK w' → px_W E (mLw nm) (d + 121) 0 0 1537 [.ref 0, .ref 1, .ref 61, .int (nI i)] [] w' Q) : px_W E (mLw nm) (d + 121) 0 0 1044 [.ref 0, .ref 1, .ref 61, .int (nI i)] [] w Q := by
  refine px_aload_n dL_law_1044 rfl rfl ?_
  refine px_aload_n dL_law_1045 rfl rfl ?_
  refine px_iload_n dL_law_1046 rfl rfl ?_
  refine px_iconst dL_law_1047 ic_1 ?_
  refine px_iadd dL_law_1048 ?_
  refine px_sld dL_law_1049 (i + 1) (nI_add i 1) (by omega) hsl ?_
  refine px_aload_n dL_law_1050 rfl rfl ?_
  refine px_iload_n dL_law_1051 rfl rfl ?_
  refine px_iconst dL_law_1052 ic_2 ?_
  refine px_iadd dL_law_1053 ?_
  refine px_sld dL_law_1054 (i + 2) (nI_add i 2) (by omega) hsl ?_
  refine px_callV (As := [.int (px_sx E (i + 1)), .int (px_sx E (i + 2))]) (st := []) (rc := 0) (rs := 0) (mc := 0) (ms := 0) dL_law_1055 lk_L_139 (px_sh1 hX.1 sh_1) rfl rfl (Nat.le_of_ble_eq_true rfl) (px_Call.weaken (tw_relief hg hX hM) (fun v w1 hv => ?_))
  obtain ⟨x, t1, rfl, hw1, h3⟩ := hv
  show px_W E (mLw nm) (d + 121) 0 0 1058 [.ref 0, .ref 1, .ref 61, .int (nI i)] [.int x] w1 Q
  refine px_aload_n dL_law_1058 rfl rfl ?_
  refine px_aload_n dL_law_1059 rfl rfl ?_
  refine px_iload_n dL_law_1060 rfl rfl ?_
  refine px_iconst dL_law_1061 ic_1 ?_
  refine px_iadd dL_law_1062 ?_
  refine px_sld dL_law_1063 (i + 1) (nI_add i 1) (by omega) hsl ?_
  refine px_aload_n dL_law_1064 rfl rfl ?_
  refine px_iload_n dL_law_1065 rfl rfl ?_
  refine px_iconst dL_law_1066 ic_2 ?_
  refine px_iadd dL_law_1067 ?_
  refine px_sld dL_law_1068 (i + 2) (nI_add i 2) (by omega) hsl ?_
  refine px_callV (As := [.int (px_sx E (i + 1)), .int (px_sx E (i + 2))]) (st := [.int x]) (rc := 0) (rs := 0) (mc := 0) (ms := 0) dL_law_1069 lk_L_142 (px_sh1 hw1 sh_61) rfl rfl (Nat.le_of_ble_eq_true rfl) (px_Call.weaken h3 (fun v w2 hv => ?_))
  obtain ⟨rfl, ok⟩ := hv
  show px_W E (mLw nm) (d + 121) 0 0 1072 [.ref 0, .ref 1, .ref 61, .int (nI i)] [.int x, .int x] w2 Q
  exact px_icmp_eq (tgt := 1537) dL_law_1072 (by decide) (fun _ => k w2 ok) (fun z => absurd rfl z)
theorem lc_31 (hsl : px_sL E < 2 ^ 31) (hi : i + 6 ≤ px_sL E) (hg : WG g) (hX : RX t g w) (hM : RM g w) (k : ∀ w', lOK w' → px_W E (mLw nm) (d + 121) 0 0 1537 [.ref 0, .ref 1, .ref 61, .int (nI i)] [] w' Q) : px_W E (mLw nm) (d + 121) 0 0 1077 [.ref 0, .ref 1, .ref 61, .int (nI i)] [] w Q := by
  refine px_aload_n dL_law_1077 rfl rfl ?_
  refine px_callV (As := []) (st := []) (rc := 0) (rs := 0) (mc := 0) (ms := 0) dL_law_1078 lk_L_143 (px_sh1 hX.1 sh_1) rfl rfl (Nat.le_of_ble_eq_true rfl) (px_Call.weaken (tw_sorest hg hX hM) (fun v w1 hv => ?_))
  obtain ⟨x, t1, rfl, hw1, h3⟩ := hv
  show px_W E (mLw nm) (d + 121) 0 0 1081 [.ref 0, .ref 1, .ref 61, .int (nI i)] [.int x] w1 Q
  refine px_aload_n dL_law_1081 rfl rfl ?_
  refine px_callV (As := []) (st := [.int x]) (rc := 0) (rs := 0) (mc := 0) (ms := 0) dL_law_1082 lk_L_146 (px_sh1 hw1 sh_61) rfl rfl (Nat.le_of_ble_eq_true rfl) (px_Call.weaken h3 (fun v w2 hv => ?_))
  obtain ⟨rfl, ok⟩ := hv
  show px_W E (mLw nm) (d + 121) 0 0 1085 [.ref 0, .ref 1, .ref 61, .int (nI i)] [.int x, .int x] w2 Q
  exact px_icmp_eq (tgt := 1537) dL_law_1085 (by decide) (fun _ => k w2 ok) (fun z => absurd rfl z)
theorem lc_32 (hsl : px_sL E < 2 ^ 31) (hi : i + 6 ≤ px_sL E) (hg : WG g) (hX : RX t g w) (hM : RM g w) (k : ∀ w', lOK w' → px_W E (mLw nm) (d + 121) 0 0 1537 [.ref 0, .ref 1, .ref 61, .int (nI i)] [] w' Q) : px_W E (mLw nm) (d + 121) 0 0 1090 [.ref 0, .ref 1, .ref 61, .int (nI i)] [] w Q := by
  refine px_aload_n dL_law_1090 rfl rfl ?_
  refine px_callV (As := []) (st := []) (rc := 0) (rs := 0) (mc := 0) (ms := 0) dL_law_1091 lk_L_147 (px_sh1 hX.1 sh_1) rfl rfl (Nat.le_of_ble_eq_true rfl) (px_Call.weaken (tw_firmest hg hX hM) (fun v w1 hv => ?_))
  obtain ⟨x, t1, rfl, hw1, h3⟩ := hv
  show px_W E (mLw nm) (d + 121) 0 0 1094 [.ref 0, .ref 1, .ref 61, .int (nI i)] [.int x] w1 Q
  refine px_aload_n dL_law_1094 rfl rfl ?_
  refine px_callV (As := []) (st := [.int x]) (rc := 0) (rs := 0) (mc := 0) (ms := 0) dL_law_1095 lk_L_150 (px_sh1 hw1 sh_61) rfl rfl (Nat.le_of_ble_eq_true rfl) (px_Call.weaken h3 (fun v w2 hv => ?_))
  obtain ⟨rfl, ok⟩ := hv
  show px_W E (mLw nm) (d + 121) 0 0 1098 [.ref 0, .ref 1, .ref 61, .int (nI i)] [.int x, .int x] w2 Q
  exact px_icmp_eq (tgt := 1537) dL_law_1098 (by decide) (fun _ => k w2 ok) (fun z => absurd rfl z)
theorem lc_33 (hsl : px_sL E < 2 ^ 31) (hi : i + 6 ≤ px_sL E) (hg : WG g) (hX : RX t g w) (hM : RM g w) (k : ∀ w', lOK w' → px_W E (mLw nm) (d + 121) 0 0 1537 [.ref 0, .ref 1, .ref 61, .int (nI i)] [] w' Q) : px_W E (mLw nm) (d + 121) 0 0 1103 [.ref 0, .ref 1, .ref 61, .int (nI i)] [] w Q := by
  refine px_aload_n dL_law_1103 rfl rfl ?_
  refine px_callV (As := []) (st := []) (rc := 0) (rs := 0) (mc := 0) (ms := 0) dL_law_1104 lk_L_151 (px_sh1 hX.1 sh_1) rfl rfl (Nat.le_of_ble_eq_true rfl) (px_Call.weaken (tw_due hg hX hM) (fun v w1 hv => ?_))
  obtain ⟨x, t1, rfl, hw1, h3⟩ := hv
  show px_W E (mLw nm) (d + 121) 0 0 1107 [.ref 0, .ref 1, .ref 61, .int (nI i)] [.int x] w1 Q
  refine px_aload_n dL_law_1107 rfl rfl ?_
  refine px_callV (As := []) (st := [.int x]) (rc := 0) (rs := 0) (mc := 0) (ms := 0) dL_law_1108 lk_L_154 (px_sh1 hw1 sh_61) rfl rfl (Nat.le_of_ble_eq_true rfl) (px_Call.weaken h3 (fun v w2 hv => ?_))
  obtain ⟨rfl, ok⟩ := hv
  show px_W E (mLw nm) (d + 121) 0 0 1111 [.ref 0, .ref 1, .ref 61, .int (nI i)] [.int x, .int x] w2 Q
  exact px_icmp_eq (tgt := 1537) dL_law_1111 (by decide) (fun _ => k w2 ok) (fun z => absurd rfl z)
theorem lc_34 (hsl : px_sL E < 2 ^ 31) (hi : i + 6 ≤ px_sL E) (hg : WG g) (hX : RX t g w) (hM : RM g w) (k : ∀ w', lOK w' → px_W E (mLw nm) (d + 121) 0 0 1537 [.ref 0, .ref 1, .ref 61, .int (nI i)] [] w' Q) : px_W E (mLw nm) (d + 121) 0 0 1116 [.ref 0, .ref 1, .ref 61, .int (nI i)] [] w Q := by
  refine px_aload_n dL_law_1116 rfl rfl ?_
  refine px_aload_n dL_law_1117 rfl rfl ?_
  refine px_iload_n dL_law_1118 rfl rfl ?_
  refine px_iconst dL_law_1119 ic_1 ?_
  refine px_iadd dL_law_1120 ?_
  refine px_sld dL_law_1121 (i + 1) (nI_add i 1) (by omega) hsl ?_
  refine px_callV (As := [.int (px_sx E (i + 1))]) (st := []) (rc := 0) (rs := 0) (mc := 0) (ms := 0) dL_law_1122 lk_L_155 (px_sh1 hX.1 sh_1) rfl rfl (Nat.le_of_ble_eq_true rfl) (px_Call.weaken (tw_friends hg hX hM) (fun v w1 hv => ?_))
  obtain ⟨x, t1, rfl, hw1, h3⟩ := hv
  show px_W E (mLw nm) (d + 121) 0 0 1125 [.ref 0, .ref 1, .ref 61, .int (nI i)] [.int x] w1 Q
  refine px_aload_n dL_law_1125 rfl rfl ?_
  refine px_aload_n dL_law_1126 rfl rfl ?_
  refine px_iload_n dL_law_1127 rfl rfl ?_
  refine px_iconst dL_law_1128 ic_1 ?_
  refine px_iadd dL_law_1129 ?_
  refine px_sld dL_law_1130 (i + 1) (nI_add i 1) (by omega) hsl ?_
  refine px_callV (As := [.int (px_sx E (i + 1))]) (st := [.int x]) (rc := 0) (rs := 0) (mc := 0) (ms := 0) dL_law_1131 lk_L_158 (px_sh1 hw1 sh_61) rfl rfl (Nat.le_of_ble_eq_true rfl) (px_Call.weaken h3 (fun v w2 hv => ?_))
  obtain ⟨rfl, ok⟩ := hv
  show px_W E (mLw nm) (d + 121) 0 0 1134 [.ref 0, .ref 1, .ref 61, .int (nI i)] [.int x, .int x] w2 Q
  exact px_icmp_eq (tgt := 1537) dL_law_1134 (by decide) (fun _ => k w2 ok) (fun z => absurd rfl z)
theorem lc_35 (hsl : px_sL E < 2 ^ 31) (hi : i + 6 ≤ px_sL E) (hg : WG g) (hX : RX t g w) (hM : RM g w) (k : ∀ w', lOK w' → px_W E (mLw nm) (d + 121) 0 0 1537 [.ref 0, .ref 1, .ref 61, .int (nI i)] [] w' Q) : px_W E (mLw nm) (d + 121) 0 0 1139 [.ref 0, .ref 1, .ref 61, .int (nI i)] [] w Q := by
  refine px_aload_n dL_law_1139 rfl rfl ?_
  refine px_callV (As := []) (st := []) (rc := 0) (rs := 0) (mc := 0) (ms := 0) dL_law_1140 lk_L_159 (px_sh1 hX.1 sh_1) rfl rfl (Nat.le_of_ble_eq_true rfl) (px_Call.weaken (tw_uncared hg hX hM) (fun v w1 hv => ?_))
  obtain ⟨x, t1, rfl, hw1, h3⟩ := hv
  show px_W E (mLw nm) (d + 121) 0 0 1143 [.ref 0, .ref 1, .ref 61, .int (nI i)] [.int x] w1 Q
  refine px_aload_n dL_law_1143 rfl rfl ?_
  refine px_callV (As := []) (st := [.int x]) (rc := 0) (rs := 0) (mc := 0) (ms := 0) dL_law_1144 lk_L_162 (px_sh1 hw1 sh_61) rfl rfl (Nat.le_of_ble_eq_true rfl) (px_Call.weaken h3 (fun v w2 hv => ?_))
  obtain ⟨rfl, ok⟩ := hv
  show px_W E (mLw nm) (d + 121) 0 0 1147 [.ref 0, .ref 1, .ref 61, .int (nI i)] [.int x, .int x] w2 Q
  exact px_icmp_eq (tgt := 1537) dL_law_1147 (by decide) (fun _ => k w2 ok) (fun z => absurd rfl z)
theorem lc_36 (hsl : px_sL E < 2 ^ 31) (hi : i + 6 ≤ px_sL E) (hg : WG g) (hX : RX t g w) (hM : RM g w) (k : ∀ w', lOK w' → px_W E (mLw nm) (d + 121) 0 0 1537 [.ref 0, .ref 1, .ref 61, .int (nI i)] [] w' Q) : px_W E (mLw nm) (d + 121) 0 0 1152 [.ref 0, .ref 1, .ref 61, .int (nI i)] [] w Q := by
  refine px_aload_n dL_law_1152 rfl rfl ?_
  refine px_aload_n dL_law_1153 rfl rfl ?_
  refine px_iload_n dL_law_1154 rfl rfl ?_
  refine px_iconst dL_law_1155 ic_1 ?_
  refine px_iadd dL_law_1156 ?_
  refine px_sld dL_law_1157 (i + 1) (nI_add i 1) (by omega) hsl ?_
  refine px_callV (As := [.int (px_sx E (i + 1))]) (st := []) (rc := 0) (rs := 0) (mc := 0) (ms := 0) dL_law_1158 lk_L_163 (px_sh1 hX.1 sh_1) rfl rfl (Nat.le_of_ble_eq_true rfl) (px_Call.weaken (tw_law hg hX hM) (fun v w1 hv => ?_))
  obtain ⟨x, t1, rfl, hw1, h3⟩ := hv
  show px_W E (mLw nm) (d + 121) 0 0 1161 [.ref 0, .ref 1, .ref 61, .int (nI i)] [.int x] w1 Q
  refine px_aload_n dL_law_1161 rfl rfl ?_
  refine px_aload_n dL_law_1162 rfl rfl ?_
  refine px_iload_n dL_law_1163 rfl rfl ?_
  refine px_iconst dL_law_1164 ic_1 ?_
  refine px_iadd dL_law_1165 ?_
  refine px_sld dL_law_1166 (i + 1) (nI_add i 1) (by omega) hsl ?_
  refine px_callV (As := [.int (px_sx E (i + 1))]) (st := [.int x]) (rc := 0) (rs := 0) (mc := 0) (ms := 0) dL_law_1167 lk_L_166 (px_sh1 hw1 sh_61) rfl rfl (Nat.le_of_ble_eq_true rfl) (px_Call.weaken h3 (fun v w2 hv => ?_))
  obtain ⟨rfl, ok⟩ := hv
  show px_W E (mLw nm) (d + 121) 0 0 1170 [.ref 0, .ref 1, .ref 61, .int (nI i)] [.int x, .int x] w2 Q
  exact px_icmp_eq (tgt := 1537) dL_law_1170 (by decide) (fun _ => k w2 ok) (fun z => absurd rfl z)
theorem lc_37 (hsl : px_sL E < 2 ^ 31) (hi : i + 6 ≤ px_sL E) (hg : WG g) (hX : RX t g w) (hM : RM g w) (k : ∀ w', lOK w' → px_W E (mLw nm) (d + 121) 0 0 1537 [.ref 0, .ref 1, .ref 61, .int (nI i)] [] w' Q) : px_W E (mLw nm) (d + 121) 0 0 1175 [.ref 0, .ref 1, .ref 61, .int (nI i)] [] w Q := by
  refine px_aload_n dL_law_1175 rfl rfl ?_
  refine px_aload_n dL_law_1176 rfl rfl ?_
  refine px_iload_n dL_law_1177 rfl rfl ?_
  refine px_iconst dL_law_1178 ic_1 ?_
  refine px_iadd dL_law_1179 ?_
  refine px_sld dL_law_1180 (i + 1) (nI_add i 1) (by omega) hsl ?_
  refine px_callV (As := [.int (px_sx E (i + 1))]) (st := []) (rc := 0) (rs := 0) (mc := 0) (ms := 0) dL_law_1181 lk_L_167 (px_sh1 hX.1 sh_1) rfl rfl (Nat.le_of_ble_eq_true rfl) (px_Call.weaken (tw_next hg hX hM) (fun v w1 hv => ?_))
  obtain ⟨x, t1, rfl, hw1, h3⟩ := hv
  show px_W E (mLw nm) (d + 121) 0 0 1184 [.ref 0, .ref 1, .ref 61, .int (nI i)] [.int x] w1 Q
  refine px_aload_n dL_law_1184 rfl rfl ?_
  refine px_aload_n dL_law_1185 rfl rfl ?_
  refine px_iload_n dL_law_1186 rfl rfl ?_
  refine px_iconst dL_law_1187 ic_1 ?_
  refine px_iadd dL_law_1188 ?_
  refine px_sld dL_law_1189 (i + 1) (nI_add i 1) (by omega) hsl ?_
  refine px_callV (As := [.int (px_sx E (i + 1))]) (st := [.int x]) (rc := 0) (rs := 0) (mc := 0) (ms := 0) dL_law_1190 lk_L_170 (px_sh1 hw1 sh_61) rfl rfl (Nat.le_of_ble_eq_true rfl) (px_Call.weaken h3 (fun v w2 hv => ?_))
  obtain ⟨rfl, ok⟩ := hv
  show px_W E (mLw nm) (d + 121) 0 0 1193 [.ref 0, .ref 1, .ref 61, .int (nI i)] [.int x, .int x] w2 Q
  exact px_icmp_eq (tgt := 1537) dL_law_1193 (by decide) (fun _ => k w2 ok) (fun z => absurd rfl z)
theorem lc_38 (hsl : px_sL E < 2 ^ 31) (hi : i + 6 ≤ px_sL E) (hg : WG g) (hX : RX t g w) (hM : RM g w) (k : ∀ w', lOK w' → px_W E (mLw nm) (d + 121) 0 0 1537 [.ref 0, .ref 1, .ref 61, .int (nI i)] [] w' Q) : px_W E (mLw nm) (d + 121) 0 0 1198 [.ref 0, .ref 1, .ref 61, .int (nI i)] [] w Q := by
  refine px_aload_n dL_law_1198 rfl rfl ?_
  refine px_aload_n dL_law_1199 rfl rfl ?_
  refine px_iload_n dL_law_1200 rfl rfl ?_
  refine px_iconst dL_law_1201 ic_1 ?_
  refine px_iadd dL_law_1202 ?_
  refine px_sld dL_law_1203 (i + 1) (nI_add i 1) (by omega) hsl ?_
  refine px_aload_n dL_law_1204 rfl rfl ?_
  refine px_iload_n dL_law_1205 rfl rfl ?_
  refine px_iconst dL_law_1206 ic_2 ?_
  refine px_iadd dL_law_1207 ?_
  refine px_sld dL_law_1208 (i + 2) (nI_add i 2) (by omega) hsl ?_
  refine px_callV (As := [.int (px_sx E (i + 1)), .int (px_sx E (i + 2))]) (st := []) (rc := 0) (rs := 0) (mc := 0) (ms := 0) dL_law_1209 lk_L_171 (px_sh1 hX.1 sh_1) rfl rfl (Nat.le_of_ble_eq_true rfl) (px_Call.weaken (tw_odds hg hX hM) (fun v w1 hv => ?_))
  obtain ⟨x, t1, rfl, hw1, h3⟩ := hv
  show px_W E (mLw nm) (d + 121) 0 0 1212 [.ref 0, .ref 1, .ref 61, .int (nI i)] [.int x] w1 Q
  refine px_aload_n dL_law_1212 rfl rfl ?_
  refine px_aload_n dL_law_1213 rfl rfl ?_
  refine px_iload_n dL_law_1214 rfl rfl ?_
  refine px_iconst dL_law_1215 ic_1 ?_
  refine px_iadd dL_law_1216 ?_
  refine px_sld dL_law_1217 (i + 1) (nI_add i 1) (by omega) hsl ?_
  refine px_aload_n dL_law_1218 rfl rfl ?_
  refine px_iload_n dL_law_1219 rfl rfl ?_
  refine px_iconst dL_law_1220 ic_2 ?_
  refine px_iadd dL_law_1221 ?_
  refine px_sld dL_law_1222 (i + 2) (nI_add i 2) (by omega) hsl ?_
  refine px_callV (As := [.int (px_sx E (i + 1)), .int (px_sx E (i + 2))]) (st := [.int x]) (rc := 0) (rs := 0) (mc := 0) (ms := 0) dL_law_1223 lk_L_174 (px_sh1 hw1 sh_61) rfl rfl (Nat.le_of_ble_eq_true rfl) (px_Call.weaken h3 (fun v w2 hv => ?_))
  obtain ⟨rfl, ok⟩ := hv
  show px_W E (mLw nm) (d + 121) 0 0 1226 [.ref 0, .ref 1, .ref 61, .int (nI i)] [.int x, .int x] w2 Q
  exact px_icmp_eq (tgt := 1537) dL_law_1226 (by decide) (fun _ => k w2 ok) (fun z => absurd rfl z)
theorem lc_39 (hsl : px_sL E < 2 ^ 31) (hi : i + 6 ≤ px_sL E) (hg : WG g) (hX : RX t g w) (hM : RM g w) (k : ∀ w', lOK w' → px_W E (mLw nm) (d + 121) 0 0 1537 [.ref 0, .ref 1, .ref 61, .int (nI i)] [] w' Q) : px_W E (mLw nm) (d + 121) 0 0 1231 [.ref 0, .ref 1, .ref 61, .int (nI i)] [] w Q := by
  refine px_aload_n dL_law_1231 rfl rfl ?_
  refine px_aload_n dL_law_1232 rfl rfl ?_
  refine px_iload_n dL_law_1233 rfl rfl ?_
  refine px_iconst dL_law_1234 ic_1 ?_
  refine px_iadd dL_law_1235 ?_
  refine px_sld dL_law_1236 (i + 1) (nI_add i 1) (by omega) hsl ?_
  refine px_callV (As := [.int (px_sx E (i + 1))]) (st := []) (rc := 0) (rs := 0) (mc := 0) (ms := 0) dL_law_1237 lk_L_175 (px_sh1 hX.1 sh_1) rfl rfl (Nat.le_of_ble_eq_true rfl) (px_Call.weaken (tw_lies hg hX hM) (fun v w1 hv => ?_))
  obtain ⟨x, t1, rfl, hw1, h3⟩ := hv
  show px_W E (mLw nm) (d + 121) 0 0 1240 [.ref 0, .ref 1, .ref 61, .int (nI i)] [.int x] w1 Q
  refine px_aload_n dL_law_1240 rfl rfl ?_
  refine px_aload_n dL_law_1241 rfl rfl ?_
  refine px_iload_n dL_law_1242 rfl rfl ?_
  refine px_iconst dL_law_1243 ic_1 ?_
  refine px_iadd dL_law_1244 ?_
  refine px_sld dL_law_1245 (i + 1) (nI_add i 1) (by omega) hsl ?_
  refine px_callV (As := [.int (px_sx E (i + 1))]) (st := [.int x]) (rc := 0) (rs := 0) (mc := 0) (ms := 0) dL_law_1246 lk_L_178 (px_sh1 hw1 sh_61) rfl rfl (Nat.le_of_ble_eq_true rfl) (px_Call.weaken h3 (fun v w2 hv => ?_))
  obtain ⟨rfl, ok⟩ := hv
  show px_W E (mLw nm) (d + 121) 0 0 1249 [.ref 0, .ref 1, .ref 61, .int (nI i)] [.int x, .int x] w2 Q
  exact px_icmp_eq (tgt := 1537) dL_law_1249 (by decide) (fun _ => k w2 ok) (fun z => absurd rfl z)
theorem lc_40a (hsl : px_sL E < 2 ^ 31) (hi : i + 6 ≤ px_sL E) (hz : px_sx E (i + 4) = 0) (hg : WG g) (hX : RX t g w) (hM : RM g w) (k : ∀ w', lOK w' → px_W E (mLw nm) (d + 121) 0 0 1537 [.ref 0, .ref 1, .ref 61, .int (nI i)] [] w' Q) : px_W E (mLw nm) (d + 121) 0 0 1254 [.ref 0, .ref 1, .ref 61, .int (nI i)] [] w Q := by
  refine px_aload_n dL_law_1254 rfl rfl ?_
  refine px_aload_n dL_law_1255 rfl rfl ?_
  refine px_iload_n dL_law_1256 rfl rfl ?_
  refine px_iconst dL_law_1257 ic_1 ?_
  refine px_iadd dL_law_1258 ?_
  refine px_sld dL_law_1259 (i + 1) (nI_add i 1) (by omega) hsl ?_
  refine px_aload_n dL_law_1260 rfl rfl ?_
  refine px_iload_n dL_law_1261 rfl rfl ?_
  refine px_iconst dL_law_1262 ic_2 ?_
  refine px_iadd dL_law_1263 ?_
  refine px_sld dL_law_1264 (i + 2) (nI_add i 2) (by omega) hsl ?_
  refine px_aload_n dL_law_1265 rfl rfl ?_
  refine px_iload_n dL_law_1266 rfl rfl ?_
  refine px_iconst dL_law_1267 ic_3 ?_
  refine px_iadd dL_law_1268 ?_
  refine px_sld dL_law_1269 (i + 3) (nI_add i 3) (by omega) hsl ?_
  refine px_aload_n dL_law_1270 rfl rfl ?_
  refine px_iload_n dL_law_1271 rfl rfl ?_
  refine px_iconst dL_law_1272 ic_4 ?_
  refine px_iadd dL_law_1273 ?_
  refine px_sld dL_law_1274 (i + 4) (nI_add i 4) (by omega) hsl ?_
  refine px_if_eq (tgt := 1282) dL_law_1275 (by decide) (fun _ => ?_) (fun z => absurd hz z)
  refine px_iconst dL_law_1282 ic_0 ?_
  refine px_callV (As := [.int (px_sx E (i + 1)), .int (px_sx E (i + 2)), .int (px_sx E (i + 3)), .int 0]) (st := []) (rc := 0) (rs := 0) (mc := 0) (ms := 0) dL_law_1283 lk_L_179 (px_sh1 hX.1 sh_1) rfl rfl (Nat.le_of_ble_eq_true rfl) (px_Call.weaken (tw_seen hg hX hM (Or.inl rfl)) (fun v w1 hv => ?_))
  obtain ⟨x, t1, rfl, hw1, h3⟩ := hv
  show px_W E (mLw nm) (d + 121) 0 0 1286 [.ref 0, .ref 1, .ref 61, .int (nI i)] [.int x] w1 Q
  refine px_aload_n dL_law_1286 rfl rfl ?_
  refine px_aload_n dL_law_1287 rfl rfl ?_
  refine px_iload_n dL_law_1288 rfl rfl ?_
  refine px_iconst dL_law_1289 ic_1 ?_
  refine px_iadd dL_law_1290 ?_
  refine px_sld dL_law_1291 (i + 1) (nI_add i 1) (by omega) hsl ?_
  refine px_aload_n dL_law_1292 rfl rfl ?_
  refine px_iload_n dL_law_1293 rfl rfl ?_
  refine px_iconst dL_law_1294 ic_2 ?_
  refine px_iadd dL_law_1295 ?_
  refine px_sld dL_law_1296 (i + 2) (nI_add i 2) (by omega) hsl ?_
  refine px_aload_n dL_law_1297 rfl rfl ?_
  refine px_iload_n dL_law_1298 rfl rfl ?_
  refine px_iconst dL_law_1299 ic_3 ?_
  refine px_iadd dL_law_1300 ?_
  refine px_sld dL_law_1301 (i + 3) (nI_add i 3) (by omega) hsl ?_
  refine px_aload_n dL_law_1302 rfl rfl ?_
  refine px_iload_n dL_law_1303 rfl rfl ?_
  refine px_iconst dL_law_1304 ic_4 ?_
  refine px_iadd dL_law_1305 ?_
  refine px_sld dL_law_1306 (i + 4) (nI_add i 4) (by omega) hsl ?_
  refine px_if_eq (tgt := 1314) dL_law_1307 (by decide) (fun _ => ?_) (fun z => absurd hz z)
  refine px_iconst dL_law_1314 ic_0 ?_
  refine px_callV (As := [.int (px_sx E (i + 1)), .int (px_sx E (i + 2)), .int (px_sx E (i + 3)), .int 0]) (st := [.int x]) (rc := 0) (rs := 0) (mc := 0) (ms := 0) dL_law_1315 lk_L_183 (px_sh1 hw1 sh_61) rfl rfl (Nat.le_of_ble_eq_true rfl) (px_Call.weaken h3 (fun v w2 hv => ?_))
  obtain ⟨rfl, ok⟩ := hv
  show px_W E (mLw nm) (d + 121) 0 0 1318 [.ref 0, .ref 1, .ref 61, .int (nI i)] [.int x, .int x] w2 Q
  exact px_icmp_eq (tgt := 1537) dL_law_1318 (by decide) (fun _ => k w2 ok) (fun z => absurd rfl z)
theorem lc_40b (hsl : px_sL E < 2 ^ 31) (hi : i + 6 ≤ px_sL E) (hz : ¬ px_sx E (i + 4) = 0) (hg : WG g) (hX : RX t g w) (hM : RM g w) (k : ∀ w', lOK w' → px_W E (mLw nm) (d + 121) 0 0 1537 [.ref 0, .ref 1, .ref 61, .int (nI i)] [] w' Q) : px_W E (mLw nm) (d + 121) 0 0 1254 [.ref 0, .ref 1, .ref 61, .int (nI i)] [] w Q := by
  refine px_aload_n dL_law_1254 rfl rfl ?_
  refine px_aload_n dL_law_1255 rfl rfl ?_
  refine px_iload_n dL_law_1256 rfl rfl ?_
  refine px_iconst dL_law_1257 ic_1 ?_
  refine px_iadd dL_law_1258 ?_
  refine px_sld dL_law_1259 (i + 1) (nI_add i 1) (by omega) hsl ?_
  refine px_aload_n dL_law_1260 rfl rfl ?_
  refine px_iload_n dL_law_1261 rfl rfl ?_
  refine px_iconst dL_law_1262 ic_2 ?_
  refine px_iadd dL_law_1263 ?_
  refine px_sld dL_law_1264 (i + 2) (nI_add i 2) (by omega) hsl ?_
  refine px_aload_n dL_law_1265 rfl rfl ?_
  refine px_iload_n dL_law_1266 rfl rfl ?_
  refine px_iconst dL_law_1267 ic_3 ?_
  refine px_iadd dL_law_1268 ?_
  refine px_sld dL_law_1269 (i + 3) (nI_add i 3) (by omega) hsl ?_
  refine px_aload_n dL_law_1270 rfl rfl ?_
  refine px_iload_n dL_law_1271 rfl rfl ?_
  refine px_iconst dL_law_1272 ic_4 ?_
  refine px_iadd dL_law_1273 ?_
  refine px_sld dL_law_1274 (i + 4) (nI_add i 4) (by omega) hsl ?_
  refine px_if_eq (tgt := 1282) dL_law_1275 (by decide) (fun z => absurd z hz) (fun _ => ?_)
  refine px_iconst dL_law_1278 ic_1 ?_
  refine px_goto (tgt := 1283) dL_law_1279 (by decide) ?_
  refine px_callV (As := [.int (px_sx E (i + 1)), .int (px_sx E (i + 2)), .int (px_sx E (i + 3)), .int 1]) (st := []) (rc := 0) (rs := 0) (mc := 0) (ms := 0) dL_law_1283 lk_L_179 (px_sh1 hX.1 sh_1) rfl rfl (Nat.le_of_ble_eq_true rfl) (px_Call.weaken (tw_seen hg hX hM (Or.inr rfl)) (fun v w1 hv => ?_))
  obtain ⟨x, t1, rfl, hw1, h3⟩ := hv
  show px_W E (mLw nm) (d + 121) 0 0 1286 [.ref 0, .ref 1, .ref 61, .int (nI i)] [.int x] w1 Q
  refine px_aload_n dL_law_1286 rfl rfl ?_
  refine px_aload_n dL_law_1287 rfl rfl ?_
  refine px_iload_n dL_law_1288 rfl rfl ?_
  refine px_iconst dL_law_1289 ic_1 ?_
  refine px_iadd dL_law_1290 ?_
  refine px_sld dL_law_1291 (i + 1) (nI_add i 1) (by omega) hsl ?_
  refine px_aload_n dL_law_1292 rfl rfl ?_
  refine px_iload_n dL_law_1293 rfl rfl ?_
  refine px_iconst dL_law_1294 ic_2 ?_
  refine px_iadd dL_law_1295 ?_
  refine px_sld dL_law_1296 (i + 2) (nI_add i 2) (by omega) hsl ?_
  refine px_aload_n dL_law_1297 rfl rfl ?_
  refine px_iload_n dL_law_1298 rfl rfl ?_
  refine px_iconst dL_law_1299 ic_3 ?_
  refine px_iadd dL_law_1300 ?_
  refine px_sld dL_law_1301 (i + 3) (nI_add i 3) (by omega) hsl ?_
  refine px_aload_n dL_law_1302 rfl rfl ?_
  refine px_iload_n dL_law_1303 rfl rfl ?_
  refine px_iconst dL_law_1304 ic_4 ?_
  refine px_iadd dL_law_1305 ?_
  refine px_sld dL_law_1306 (i + 4) (nI_add i 4) (by omega) hsl ?_
  refine px_if_eq (tgt := 1314) dL_law_1307 (by decide) (fun z => absurd z hz) (fun _ => ?_)
  refine px_iconst dL_law_1310 ic_1 ?_
  refine px_goto (tgt := 1315) dL_law_1311 (by decide) ?_
  refine px_callV (As := [.int (px_sx E (i + 1)), .int (px_sx E (i + 2)), .int (px_sx E (i + 3)), .int 1]) (st := [.int x]) (rc := 0) (rs := 0) (mc := 0) (ms := 0) dL_law_1315 lk_L_183 (px_sh1 hw1 sh_61) rfl rfl (Nat.le_of_ble_eq_true rfl) (px_Call.weaken h3 (fun v w2 hv => ?_))
  obtain ⟨rfl, ok⟩ := hv
  show px_W E (mLw nm) (d + 121) 0 0 1318 [.ref 0, .ref 1, .ref 61, .int (nI i)] [.int x, .int x] w2 Q
  exact px_icmp_eq (tgt := 1537) dL_law_1318 (by decide) (fun _ => k w2 ok) (fun z => absurd rfl z)
theorem lc_41 (hsl : px_sL E < 2 ^ 31) (hi : i + 6 ≤ px_sL E) (hg : WG g) (hX : RX t g w) (hM : RM g w) (k : ∀ w', lOK w' → px_W E (mLw nm) (d + 121) 0 0 1537 [.ref 0, .ref 1, .ref 61, .int (nI i)] [] w' Q) : px_W E (mLw nm) (d + 121) 0 0 1323 [.ref 0, .ref 1, .ref 61, .int (nI i)] [] w Q := by
  refine px_aload_n dL_law_1323 rfl rfl ?_
  refine px_aload_n dL_law_1324 rfl rfl ?_
  refine px_iload_n dL_law_1325 rfl rfl ?_
  refine px_iconst dL_law_1326 ic_1 ?_
  refine px_iadd dL_law_1327 ?_
  refine px_sld dL_law_1328 (i + 1) (nI_add i 1) (by omega) hsl ?_
  refine px_callV (As := [.int (px_sx E (i + 1))]) (st := []) (rc := 0) (rs := 0) (mc := 0) (ms := 0) dL_law_1329 lk_L_184 (px_sh1 hX.1 sh_1) rfl rfl (Nat.le_of_ble_eq_true rfl) (px_Call.weaken (tw_untell hg hX hM) (fun v w1 hv => ?_))
  obtain ⟨x, t1, rfl, hw1, h3⟩ := hv
  show px_W E (mLw nm) (d + 121) 0 0 1332 [.ref 0, .ref 1, .ref 61, .int (nI i)] [.int x] w1 Q
  refine px_aload_n dL_law_1332 rfl rfl ?_
  refine px_aload_n dL_law_1333 rfl rfl ?_
  refine px_iload_n dL_law_1334 rfl rfl ?_
  refine px_iconst dL_law_1335 ic_1 ?_
  refine px_iadd dL_law_1336 ?_
  refine px_sld dL_law_1337 (i + 1) (nI_add i 1) (by omega) hsl ?_
  refine px_callV (As := [.int (px_sx E (i + 1))]) (st := [.int x]) (rc := 0) (rs := 0) (mc := 0) (ms := 0) dL_law_1338 lk_L_188 (px_sh1 hw1 sh_61) rfl rfl (Nat.le_of_ble_eq_true rfl) (px_Call.weaken h3 (fun v w2 hv => ?_))
  obtain ⟨rfl, ok⟩ := hv
  show px_W E (mLw nm) (d + 121) 0 0 1341 [.ref 0, .ref 1, .ref 61, .int (nI i)] [.int x, .int x] w2 Q
  exact px_icmp_eq (tgt := 1537) dL_law_1341 (by decide) (fun _ => k w2 ok) (fun z => absurd rfl z)
theorem lc_42 (hsl : px_sL E < 2 ^ 31) (hi : i + 6 ≤ px_sL E) (hg : WG g) (hX : RX t g w) (hM : RM g w) (k : ∀ w', lOK w' → px_W E (mLw nm) (d + 121) 0 0 1537 [.ref 0, .ref 1, .ref 61, .int (nI i)] [] w' Q) : px_W E (mLw nm) (d + 121) 0 0 1346 [.ref 0, .ref 1, .ref 61, .int (nI i)] [] w Q := by
  refine px_aload_n dL_law_1346 rfl rfl ?_
  refine px_aload_n dL_law_1347 rfl rfl ?_
  refine px_iload_n dL_law_1348 rfl rfl ?_
  refine px_iconst dL_law_1349 ic_1 ?_
  refine px_iadd dL_law_1350 ?_
  refine px_sld dL_law_1351 (i + 1) (nI_add i 1) (by omega) hsl ?_
  refine px_callV (As := [.int (px_sx E (i + 1))]) (st := []) (rc := 0) (rs := 0) (mc := 0) (ms := 0) dL_law_1352 lk_L_189 (px_sh1 hX.1 sh_1) rfl rfl (Nat.le_of_ble_eq_true rfl) (px_Call.weaken (tw_later hg hX hM) (fun v w1 hv => ?_))
  obtain ⟨x, t1, rfl, hw1, h3⟩ := hv
  show px_W E (mLw nm) (d + 121) 0 0 1355 [.ref 0, .ref 1, .ref 61, .int (nI i)] [.int x] w1 Q
  refine px_aload_n dL_law_1355 rfl rfl ?_
  refine px_aload_n dL_law_1356 rfl rfl ?_
  refine px_iload_n dL_law_1357 rfl rfl ?_
  refine px_iconst dL_law_1358 ic_1 ?_
  refine px_iadd dL_law_1359 ?_
  refine px_sld dL_law_1360 (i + 1) (nI_add i 1) (by omega) hsl ?_
  refine px_callV (As := [.int (px_sx E (i + 1))]) (st := [.int x]) (rc := 0) (rs := 0) (mc := 0) (ms := 0) dL_law_1361 lk_L_192 (px_sh1 hw1 sh_61) rfl rfl (Nat.le_of_ble_eq_true rfl) (px_Call.weaken h3 (fun v w2 hv => ?_))
  obtain ⟨rfl, ok⟩ := hv
  show px_W E (mLw nm) (d + 121) 0 0 1364 [.ref 0, .ref 1, .ref 61, .int (nI i)] [.int x, .int x] w2 Q
  exact px_icmp_eq (tgt := 1537) dL_law_1364 (by decide) (fun _ => k w2 ok) (fun z => absurd rfl z)
theorem lc_43 (hsl : px_sL E < 2 ^ 31) (hi : i + 6 ≤ px_sL E) (hg : WG g) (hX : RX t g w) (hM : RM g w) (k : ∀ w', lOK w' → px_W E (mLw nm) (d + 121) 0 0 1537 [.ref 0, .ref 1, .ref 61, .int (nI i)] [] w' Q) : px_W E (mLw nm) (d + 121) 0 0 1369 [.ref 0, .ref 1, .ref 61, .int (nI i)] [] w Q := by
  refine px_aload_n dL_law_1369 rfl rfl ?_
  refine px_aload_n dL_law_1370 rfl rfl ?_
  refine px_iload_n dL_law_1371 rfl rfl ?_
  refine px_iconst dL_law_1372 ic_1 ?_
  refine px_iadd dL_law_1373 ?_
  refine px_sld dL_law_1374 (i + 1) (nI_add i 1) (by omega) hsl ?_
  refine px_callV (As := [.int (px_sx E (i + 1))]) (st := []) (rc := 0) (rs := 0) (mc := 0) (ms := 0) dL_law_1375 lk_L_193 (px_sh1 hX.1 sh_1) rfl rfl (Nat.le_of_ble_eq_true rfl) (px_Call.weaken (tw_fits hg hX hM) (fun v w1 hv => ?_))
  obtain ⟨x, t1, rfl, hw1, h3⟩ := hv
  show px_W E (mLw nm) (d + 121) 0 0 1378 [.ref 0, .ref 1, .ref 61, .int (nI i)] [.int x] w1 Q
  refine px_aload_n dL_law_1378 rfl rfl ?_
  refine px_aload_n dL_law_1379 rfl rfl ?_
  refine px_iload_n dL_law_1380 rfl rfl ?_
  refine px_iconst dL_law_1381 ic_1 ?_
  refine px_iadd dL_law_1382 ?_
  refine px_sld dL_law_1383 (i + 1) (nI_add i 1) (by omega) hsl ?_
  refine px_callV (As := [.int (px_sx E (i + 1))]) (st := [.int x]) (rc := 0) (rs := 0) (mc := 0) (ms := 0) dL_law_1384 lk_L_196 (px_sh1 hw1 sh_61) rfl rfl (Nat.le_of_ble_eq_true rfl) (px_Call.weaken h3 (fun v w2 hv => ?_))
  obtain ⟨rfl, ok⟩ := hv
  show px_W E (mLw nm) (d + 121) 0 0 1387 [.ref 0, .ref 1, .ref 61, .int (nI i)] [.int x, .int x] w2 Q
  exact px_icmp_eq (tgt := 1537) dL_law_1387 (by decide) (fun _ => k w2 ok) (fun z => absurd rfl z)
theorem lc_44 (hsl : px_sL E < 2 ^ 31) (hi : i + 6 ≤ px_sL E) (hg : WG g) (hX : RX t g w) (hM : RM g w) (k : ∀ w', lOK w' → px_W E (mLw nm) (d + 121) 0 0 1537 [.ref 0, .ref 1, .ref 61, .int (nI i)] [] w' Q) : px_W E (mLw nm) (d + 121) 0 0 1392 [.ref 0, .ref 1, .ref 61, .int (nI i)] [] w Q := by
  refine px_aload_n dL_law_1392 rfl rfl ?_
  refine px_aload_n dL_law_1393 rfl rfl ?_
  refine px_iload_n dL_law_1394 rfl rfl ?_
  refine px_iconst dL_law_1395 ic_1 ?_
  refine px_iadd dL_law_1396 ?_
  refine px_sld dL_law_1397 (i + 1) (nI_add i 1) (by omega) hsl ?_
  refine px_aload_n dL_law_1398 rfl rfl ?_
  refine px_iload_n dL_law_1399 rfl rfl ?_
  refine px_iconst dL_law_1400 ic_2 ?_
  refine px_iadd dL_law_1401 ?_
  refine px_sld dL_law_1402 (i + 2) (nI_add i 2) (by omega) hsl ?_
  refine px_callV (As := [.int (px_sx E (i + 1)), .int (px_sx E (i + 2))]) (st := []) (rc := 0) (rs := 0) (mc := 0) (ms := 0) dL_law_1403 lk_L_197 (px_sh1 hX.1 sh_1) rfl rfl (Nat.le_of_ble_eq_true rfl) (px_Call.weaken (tw_sure hg hX hM) (fun v w1 hv => ?_))
  obtain ⟨x, t1, rfl, hw1, h3⟩ := hv
  show px_W E (mLw nm) (d + 121) 0 0 1406 [.ref 0, .ref 1, .ref 61, .int (nI i)] [.int x] w1 Q
  refine px_aload_n dL_law_1406 rfl rfl ?_
  refine px_aload_n dL_law_1407 rfl rfl ?_
  refine px_iload_n dL_law_1408 rfl rfl ?_
  refine px_iconst dL_law_1409 ic_1 ?_
  refine px_iadd dL_law_1410 ?_
  refine px_sld dL_law_1411 (i + 1) (nI_add i 1) (by omega) hsl ?_
  refine px_aload_n dL_law_1412 rfl rfl ?_
  refine px_iload_n dL_law_1413 rfl rfl ?_
  refine px_iconst dL_law_1414 ic_2 ?_
  refine px_iadd dL_law_1415 ?_
  refine px_sld dL_law_1416 (i + 2) (nI_add i 2) (by omega) hsl ?_
  refine px_callV (As := [.int (px_sx E (i + 1)), .int (px_sx E (i + 2))]) (st := [.int x]) (rc := 0) (rs := 0) (mc := 0) (ms := 0) dL_law_1417 lk_L_200 (px_sh1 hw1 sh_61) rfl rfl (Nat.le_of_ble_eq_true rfl) (px_Call.weaken h3 (fun v w2 hv => ?_))
  obtain ⟨rfl, ok⟩ := hv
  show px_W E (mLw nm) (d + 121) 0 0 1420 [.ref 0, .ref 1, .ref 61, .int (nI i)] [.int x, .int x] w2 Q
  exact px_icmp_eq (tgt := 1537) dL_law_1420 (by decide) (fun _ => k w2 ok) (fun z => absurd rfl z)
theorem lc_45 (hsl : px_sL E < 2 ^ 31) (hi : i + 6 ≤ px_sL E) (hg : WG g) (hX : RX t g w) (hM : RM g w) (k : ∀ w', lOK w' → px_W E (mLw nm) (d + 121) 0 0 1537 [.ref 0, .ref 1, .ref 61, .int (nI i)] [] w' Q) : px_W E (mLw nm) (d + 121) 0 0 1425 [.ref 0, .ref 1, .ref 61, .int (nI i)] [] w Q := by
  refine px_aload_n dL_law_1425 rfl rfl ?_
  refine px_aload_n dL_law_1426 rfl rfl ?_
  refine px_iload_n dL_law_1427 rfl rfl ?_
  refine px_iconst dL_law_1428 ic_1 ?_
  refine px_iadd dL_law_1429 ?_
  refine px_sld dL_law_1430 (i + 1) (nI_add i 1) (by omega) hsl ?_
  refine px_aload_n dL_law_1431 rfl rfl ?_
  refine px_iload_n dL_law_1432 rfl rfl ?_
  refine px_iconst dL_law_1433 ic_2 ?_
  refine px_iadd dL_law_1434 ?_
  refine px_sld dL_law_1435 (i + 2) (nI_add i 2) (by omega) hsl ?_
  refine px_aload_n dL_law_1436 rfl rfl ?_
  refine px_iload_n dL_law_1437 rfl rfl ?_
  refine px_iconst dL_law_1438 ic_3 ?_
  refine px_iadd dL_law_1439 ?_
  refine px_sld dL_law_1440 (i + 3) (nI_add i 3) (by omega) hsl ?_
  refine px_callV (As := [.int (px_sx E (i + 1)), .int (px_sx E (i + 2)), .int (px_sx E (i + 3))]) (st := []) (rc := 0) (rs := 0) (mc := 0) (ms := 0) dL_law_1441 lk_L_201 (px_sh1 hX.1 sh_1) rfl rfl (Nat.le_of_ble_eq_true rfl) (px_Call.weaken (tw_ask hg hX hM) (fun v w1 hv => ?_))
  obtain ⟨x, t1, rfl, hw1, h3⟩ := hv
  show px_W E (mLw nm) (d + 121) 0 0 1444 [.ref 0, .ref 1, .ref 61, .int (nI i)] [.int x] w1 Q
  refine px_aload_n dL_law_1444 rfl rfl ?_
  refine px_aload_n dL_law_1445 rfl rfl ?_
  refine px_iload_n dL_law_1446 rfl rfl ?_
  refine px_iconst dL_law_1447 ic_1 ?_
  refine px_iadd dL_law_1448 ?_
  refine px_sld dL_law_1449 (i + 1) (nI_add i 1) (by omega) hsl ?_
  refine px_aload_n dL_law_1450 rfl rfl ?_
  refine px_iload_n dL_law_1451 rfl rfl ?_
  refine px_iconst dL_law_1452 ic_2 ?_
  refine px_iadd dL_law_1453 ?_
  refine px_sld dL_law_1454 (i + 2) (nI_add i 2) (by omega) hsl ?_
  refine px_aload_n dL_law_1455 rfl rfl ?_
  refine px_iload_n dL_law_1456 rfl rfl ?_
  refine px_iconst dL_law_1457 ic_3 ?_
  refine px_iadd dL_law_1458 ?_
  refine px_sld dL_law_1459 (i + 3) (nI_add i 3) (by omega) hsl ?_
  refine px_callV (As := [.int (px_sx E (i + 1)), .int (px_sx E (i + 2)), .int (px_sx E (i + 3))]) (st := [.int x]) (rc := 0) (rs := 0) (mc := 0) (ms := 0) dL_law_1460 lk_L_204 (px_sh1 hw1 sh_61) rfl rfl (Nat.le_of_ble_eq_true rfl) (px_Call.weaken h3 (fun v w2 hv => ?_))
  obtain ⟨rfl, ok⟩ := hv
  show px_W E (mLw nm) (d + 121) 0 0 1463 [.ref 0, .ref 1, .ref 61, .int (nI i)] [.int x, .int x] w2 Q
  exact px_icmp_eq (tgt := 1537) dL_law_1463 (by decide) (fun _ => k w2 ok) (fun z => absurd rfl z)
theorem lc_46 (hsl : px_sL E < 2 ^ 31) (hi : i + 6 ≤ px_sL E) (hg : WG g) (hX : RX t g w) (hM : RM g w) (k : ∀ w', lOK w' → px_W E (mLw nm) (d + 121) 0 0 1537 [.ref 0, .ref 1, .ref 61, .int (nI i)] [] w' Q) : px_W E (mLw nm) (d + 121) 0 0 1468 [.ref 0, .ref 1, .ref 61, .int (nI i)] [] w Q := by
  refine px_aload_n dL_law_1468 rfl rfl ?_
  refine px_aload_n dL_law_1469 rfl rfl ?_
  refine px_iload_n dL_law_1470 rfl rfl ?_
  refine px_iconst dL_law_1471 ic_1 ?_
  refine px_iadd dL_law_1472 ?_
  refine px_sld dL_law_1473 (i + 1) (nI_add i 1) (by omega) hsl ?_
  refine px_callV (As := [.int (px_sx E (i + 1))]) (st := []) (rc := 0) (rs := 0) (mc := 0) (ms := 0) dL_law_1474 lk_L_205 (px_sh1 hX.1 sh_1) rfl rfl (Nat.le_of_ble_eq_true rfl) (px_Call.weaken (tw_image hg hX hM) (fun v w1 hv => ?_))
  obtain ⟨x, t1, rfl, hw1, h3⟩ := hv
  show px_W E (mLw nm) (d + 121) 0 0 1477 [.ref 0, .ref 1, .ref 61, .int (nI i)] [.int x] w1 Q
  refine px_aload_n dL_law_1477 rfl rfl ?_
  refine px_aload_n dL_law_1478 rfl rfl ?_
  refine px_iload_n dL_law_1479 rfl rfl ?_
  refine px_iconst dL_law_1480 ic_1 ?_
  refine px_iadd dL_law_1481 ?_
  refine px_sld dL_law_1482 (i + 1) (nI_add i 1) (by omega) hsl ?_
  refine px_callV (As := [.int (px_sx E (i + 1))]) (st := [.int x]) (rc := 0) (rs := 0) (mc := 0) (ms := 0) dL_law_1483 lk_L_208 (px_sh1 hw1 sh_61) rfl rfl (Nat.le_of_ble_eq_true rfl) (px_Call.weaken h3 (fun v w2 hv => ?_))
  obtain ⟨rfl, ok⟩ := hv
  show px_W E (mLw nm) (d + 121) 0 0 1486 [.ref 0, .ref 1, .ref 61, .int (nI i)] [.int x, .int x] w2 Q
  exact px_icmp_eq (tgt := 1537) dL_law_1486 (by decide) (fun _ => k w2 ok) (fun z => absurd rfl z)
theorem lc_47 (hsl : px_sL E < 2 ^ 31) (hi : i + 6 ≤ px_sL E) (hg : WG g) (hX : RX t g w) (hM : RM g w) (k : ∀ w', lOK w' → px_W E (mLw nm) (d + 121) 0 0 1537 [.ref 0, .ref 1, .ref 61, .int (nI i)] [] w' Q) : px_W E (mLw nm) (d + 121) 0 0 1491 [.ref 0, .ref 1, .ref 61, .int (nI i)] [] w Q := by
  refine px_aload_n dL_law_1491 rfl rfl ?_
  refine px_aload_n dL_law_1492 rfl rfl ?_
  refine px_iload_n dL_law_1493 rfl rfl ?_
  refine px_iconst dL_law_1494 ic_1 ?_
  refine px_iadd dL_law_1495 ?_
  refine px_sld dL_law_1496 (i + 1) (nI_add i 1) (by omega) hsl ?_
  refine px_callV (As := [.int (px_sx E (i + 1))]) (st := []) (rc := 0) (rs := 0) (mc := 0) (ms := 0) dL_law_1497 lk_L_209 (px_sh1 hX.1 sh_1) rfl rfl (Nat.le_of_ble_eq_true rfl) (px_Call.weaken (tw_back hg hX hM) (fun v w1 hv => ?_))
  obtain ⟨x, t1, rfl, hw1, h3⟩ := hv
  show px_W E (mLw nm) (d + 121) 0 0 1500 [.ref 0, .ref 1, .ref 61, .int (nI i)] [.int x] w1 Q
  refine px_aload_n dL_law_1500 rfl rfl ?_
  refine px_aload_n dL_law_1501 rfl rfl ?_
  refine px_iload_n dL_law_1502 rfl rfl ?_
  refine px_iconst dL_law_1503 ic_1 ?_
  refine px_iadd dL_law_1504 ?_
  refine px_sld dL_law_1505 (i + 1) (nI_add i 1) (by omega) hsl ?_
  refine px_callV (As := [.int (px_sx E (i + 1))]) (st := [.int x]) (rc := 0) (rs := 0) (mc := 0) (ms := 0) dL_law_1506 lk_L_212 (px_sh1 hw1 sh_61) rfl rfl (Nat.le_of_ble_eq_true rfl) (px_Call.weaken h3 (fun v w2 hv => ?_))
  obtain ⟨rfl, ok⟩ := hv
  show px_W E (mLw nm) (d + 121) 0 0 1509 [.ref 0, .ref 1, .ref 61, .int (nI i)] [.int x, .int x] w2 Q
  exact px_icmp_eq (tgt := 1537) dL_law_1509 (by decide) (fun _ => k w2 ok) (fun z => absurd rfl z)
theorem lc_48 (hsl : px_sL E < 2 ^ 31) (hi : i + 6 ≤ px_sL E) (hg : WG g) (hX : RX t g w) (hM : RM g w) (k : ∀ w', lOK w' → px_W E (mLw nm) (d + 121) 0 0 1537 [.ref 0, .ref 1, .ref 61, .int (nI i)] [] w' Q) : px_W E (mLw nm) (d + 121) 0 0 1514 [.ref 0, .ref 1, .ref 61, .int (nI i)] [] w Q := by
  refine px_aload_n dL_law_1514 rfl rfl ?_
  refine px_aload_n dL_law_1515 rfl rfl ?_
  refine px_iload_n dL_law_1516 rfl rfl ?_
  refine px_iconst dL_law_1517 ic_1 ?_
  refine px_iadd dL_law_1518 ?_
  refine px_sld dL_law_1519 (i + 1) (nI_add i 1) (by omega) hsl ?_
  refine px_callV (As := [.int (px_sx E (i + 1))]) (st := []) (rc := 0) (rs := 0) (mc := 0) (ms := 0) dL_law_1520 lk_L_213 (px_sh1 hX.1 sh_1) rfl rfl (Nat.le_of_ble_eq_true rfl) (px_Call.weaken (tw_about hg hX hM) (fun v w1 hv => ?_))
  obtain ⟨x, t1, rfl, hw1, h3⟩ := hv
  show px_W E (mLw nm) (d + 121) 0 0 1523 [.ref 0, .ref 1, .ref 61, .int (nI i)] [.int x] w1 Q
  refine px_aload_n dL_law_1523 rfl rfl ?_
  refine px_aload_n dL_law_1524 rfl rfl ?_
  refine px_iload_n dL_law_1525 rfl rfl ?_
  refine px_iconst dL_law_1526 ic_1 ?_
  refine px_iadd dL_law_1527 ?_
  refine px_sld dL_law_1528 (i + 1) (nI_add i 1) (by omega) hsl ?_
  refine px_callV (As := [.int (px_sx E (i + 1))]) (st := [.int x]) (rc := 0) (rs := 0) (mc := 0) (ms := 0) dL_law_1529 lk_L_216 (px_sh1 hw1 sh_61) rfl rfl (Nat.le_of_ble_eq_true rfl) (px_Call.weaken h3 (fun v w2 hv => ?_))
  obtain ⟨rfl, ok⟩ := hv
  show px_W E (mLw nm) (d + 121) 0 0 1532 [.ref 0, .ref 1, .ref 61, .int (nI i)] [.int x, .int x] w2 Q
  exact px_icmp_eq (tgt := 1537) dL_law_1532 (by decide) (fun _ => k w2 ok) (fun z => absurd rfl z)
end LAW
