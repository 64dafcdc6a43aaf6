theorem dL_law_268 : decode cL_law 268 = .ok (.aload_n 1, 1) := by decide +kernel
theorem dL_law_269 : decode cL_law 269 = .ok (.invokevirtual 176, 3) := by decide +kernel
theorem dL_law_272 : decode cL_law 272 = .ok (.aload_n 2, 1) := by decide +kernel
theorem dL_law_273 : decode cL_law 273 = .ok (.invokevirtual 179, 3) := by decide +kernel
theorem dL_law_276 : decode cL_law 276 = .ok (.if_icmp .eq 3197, 3) := by decide +kernel
theorem dL_law_279 : decode cL_law 279 = .ok (.iconst 0, 1) := by decide +kernel
theorem dL_law_280 : decode cL_law 280 = .ok (.ireturn, 1) := by decide +kernel
set_option maxRecDepth 100000 in
set_option maxHeartbeats 4000000 in
theorem lc0_ok {G : GT} {b L A B : Nat} {xs : Nat → Int32} {μ : Mem} {i : Int32} {N : Mem → Prop} (C : PCx G cL_law 9 RL) (hX : Scr G b L xs) (hHR : HR G 2) (hN : ∀ μ : Mem, N μ → PW G A B 3473 [some (pW (.ref b)), some (pR 40 0), some (pR 50 0), some (pR 80 0), some (pR 81 0), some (pI i), none, none, none] [] μ) (hk : lc0_wp xs L μ i N) : PW G (A + 0) (B + 0) 268 [some (pW (.ref b)), some (pR 40 0), some (pR 50 0), some (pR 80 0), some (pR 81 0), some (pI i), none, none, none] [] μ := by
  unfold lc0_wp at hk
  refine px_aload_n (i := 1) C dL_law_268 rfl rfl ?_
  refine px_callVNi (h := 1) (rc' := A + 0) (rs' := B + 0) C (HR_le hHR (Nat.le_of_ble_eq_true rfl)) dL_law_269 (gw2 145 rfl rfl) mv_X8_clear (w8_clear_ok (PCx_l C) (PCx_I C) hk) rfl rfl rfl rfl rfl (Nat.le_of_ble_eq_true rfl) (Nat.le_of_ble_eq_true rfl) (by omega) (by omega) ?_
  intro r2 μ1 hk
  refine px_aload_n (i := 2) C dL_law_272 rfl rfl ?_
  refine px_callVNi (h := 0) (rc' := A + 0) (rs' := B + 0) C (HR_le hHR (Nat.le_of_ble_eq_true rfl)) dL_law_273 (gw8 127 rfl rfl) mv_X9_clear (w9_clear_ok (PCx_l C) (PCx_I C) hk) rfl rfl rfl rfl rfl (Nat.le_of_ble_eq_true rfl) (Nat.le_of_ble_eq_true rfl) (by omega) (by omega) ?_
  intro r4 μ3 hk
  refine px_icmp_eq (tgt := 3473) C dL_law_276 (by decide) (fun c5 => ?_) (fun c5 => ?_)
  · replace hk := hk.1 c5
    exact PW_at (hN _ hk) (And.intro rfl (And.intro rfl (And.intro rfl (And.intro rfl (And.intro rfl (And.intro rfl trivial)))))) (by omega) (by omega)
  · replace hk := hk.2 c5
    refine px_iconst (v := (0 : Int32)) C dL_law_279 rfl ?_
    exact hk.elim
theorem dL_law_281 : decode cL_law 281 = .ok (.aload_n 1, 1) := by decide +kernel
theorem dL_law_282 : decode cL_law 282 = .ok (.aload_n 0, 1) := by decide +kernel
theorem dL_law_283 : decode cL_law 283 = .ok (.iload 5, 2) := by decide +kernel
theorem dL_law_285 : decode cL_law 285 = .ok (.iconst 1, 1) := by decide +kernel
theorem dL_law_286 : decode cL_law 286 = .ok (.iadd, 1) := by decide +kernel
theorem dL_law_287 : decode cL_law 287 = .ok (.iaload, 1) := by decide +kernel
theorem dL_law_288 : decode cL_law 288 = .ok (.aload_n 0, 1) := by decide +kernel
theorem dL_law_289 : decode cL_law 289 = .ok (.iload 5, 2) := by decide +kernel
theorem dL_law_291 : decode cL_law 291 = .ok (.iconst 2, 1) := by decide +kernel
theorem dL_law_292 : decode cL_law 292 = .ok (.iadd, 1) := by decide +kernel
theorem dL_law_293 : decode cL_law 293 = .ok (.iaload, 1) := by decide +kernel
theorem dL_law_294 : decode cL_law 294 = .ok (.aload_n 0, 1) := by decide +kernel
theorem dL_law_295 : decode cL_law 295 = .ok (.iload 5, 2) := by decide +kernel
theorem dL_law_297 : decode cL_law 297 = .ok (.iconst 3, 1) := by decide +kernel
theorem dL_law_298 : decode cL_law 298 = .ok (.iadd, 1) := by decide +kernel
theorem dL_law_299 : decode cL_law 299 = .ok (.iaload, 1) := by decide +kernel
theorem dL_law_300 : decode cL_law 300 = .ok (.aload_n 0, 1) := by decide +kernel
theorem dL_law_301 : decode cL_law 301 = .ok (.iload 5, 2) := by decide +kernel
theorem dL_law_303 : decode cL_law 303 = .ok (.iconst 4, 1) := by decide +kernel
theorem dL_law_304 : decode cL_law 304 = .ok (.iadd, 1) := by decide +kernel
theorem dL_law_305 : decode cL_law 305 = .ok (.iaload, 1) := by decide +kernel
theorem dL_law_306 : decode cL_law 306 = .ok (.aload_n 0, 1) := by decide +kernel
theorem dL_law_307 : decode cL_law 307 = .ok (.iload 5, 2) := by decide +kernel
theorem dL_law_309 : decode cL_law 309 = .ok (.iconst 5, 1) := by decide +kernel
theorem dL_law_310 : decode cL_law 310 = .ok (.iadd, 1) := by decide +kernel
theorem dL_law_311 : decode cL_law 311 = .ok (.iaload, 1) := by decide +kernel
theorem dL_law_312 : decode cL_law 312 = .ok (.aload_n 0, 1) := by decide +kernel
theorem dL_law_313 : decode cL_law 313 = .ok (.iload 5, 2) := by decide +kernel
theorem dL_law_315 : decode cL_law 315 = .ok (.bipush 6, 2) := by decide +kernel
theorem dL_law_317 : decode cL_law 317 = .ok (.iadd, 1) := by decide +kernel
theorem dL_law_318 : decode cL_law 318 = .ok (.iaload, 1) := by decide +kernel
theorem dL_law_319 : decode cL_law 319 = .ok (.aload_n 3, 1) := by decide +kernel
theorem dL_law_320 : decode cL_law 320 = .ok (.invokestatic 180, 3) := by decide +kernel
theorem dL_law_323 : decode cL_law 323 = .ok (.istore 6, 2) := by decide +kernel
theorem dL_law_325 : decode cL_law 325 = .ok (.aload_n 2, 1) := by decide +kernel
theorem dL_law_326 : decode cL_law 326 = .ok (.aload_n 0, 1) := by decide +kernel
theorem dL_law_327 : decode cL_law 327 = .ok (.iload 5, 2) := by decide +kernel
theorem dL_law_329 : decode cL_law 329 = .ok (.iconst 1, 1) := by decide +kernel
theorem dL_law_330 : decode cL_law 330 = .ok (.iadd, 1) := by decide +kernel
theorem dL_law_331 : decode cL_law 331 = .ok (.iaload, 1) := by decide +kernel
theorem dL_law_332 : decode cL_law 332 = .ok (.aload_n 0, 1) := by decide +kernel
theorem dL_law_333 : decode cL_law 333 = .ok (.iload 5, 2) := by decide +kernel
theorem dL_law_335 : decode cL_law 335 = .ok (.iconst 2, 1) := by decide +kernel
theorem dL_law_336 : decode cL_law 336 = .ok (.iadd, 1) := by decide +kernel
theorem dL_law_337 : decode cL_law 337 = .ok (.iaload, 1) := by decide +kernel
theorem dL_law_338 : decode cL_law 338 = .ok (.aload_n 0, 1) := by decide +kernel
theorem dL_law_339 : decode cL_law 339 = .ok (.iload 5, 2) := by decide +kernel
theorem dL_law_341 : decode cL_law 341 = .ok (.iconst 3, 1) := by decide +kernel
theorem dL_law_342 : decode cL_law 342 = .ok (.iadd, 1) := by decide +kernel
theorem dL_law_343 : decode cL_law 343 = .ok (.iaload, 1) := by decide +kernel
theorem dL_law_344 : decode cL_law 344 = .ok (.aload_n 0, 1) := by decide +kernel
theorem dL_law_345 : decode cL_law 345 = .ok (.iload 5, 2) := by decide +kernel
theorem dL_law_347 : decode cL_law 347 = .ok (.iconst 4, 1) := by decide +kernel
theorem dL_law_348 : decode cL_law 348 = .ok (.iadd, 1) := by decide +kernel
theorem dL_law_349 : decode cL_law 349 = .ok (.iaload, 1) := by decide +kernel
theorem dL_law_350 : decode cL_law 350 = .ok (.aload_n 0, 1) := by decide +kernel
theorem dL_law_351 : decode cL_law 351 = .ok (.iload 5, 2) := by decide +kernel
theorem dL_law_353 : decode cL_law 353 = .ok (.iconst 5, 1) := by decide +kernel
theorem dL_law_354 : decode cL_law 354 = .ok (.iadd, 1) := by decide +kernel
theorem dL_law_355 : decode cL_law 355 = .ok (.iaload, 1) := by decide +kernel
theorem dL_law_356 : decode cL_law 356 = .ok (.aload_n 0, 1) := by decide +kernel
theorem dL_law_357 : decode cL_law 357 = .ok (.iload 5, 2) := by decide +kernel
theorem dL_law_359 : decode cL_law 359 = .ok (.bipush 6, 2) := by decide +kernel
theorem dL_law_361 : decode cL_law 361 = .ok (.iadd, 1) := by decide +kernel
theorem dL_law_362 : decode cL_law 362 = .ok (.iaload, 1) := by decide +kernel
theorem dL_law_363 : decode cL_law 363 = .ok (.invokevirtual 185, 3) := by decide +kernel
theorem dL_law_366 : decode cL_law 366 = .ok (.istore 7, 2) := by decide +kernel
theorem dL_law_368 : decode cL_law 368 = .ok (.aload_n 2, 1) := by decide +kernel
theorem dL_law_369 : decode cL_law 369 = .ok (.invokevirtual 186, 3) := by decide +kernel
theorem dL_law_372 : decode cL_law 372 = .ok (.iload 6, 2) := by decide +kernel
theorem dL_law_374 : decode cL_law 374 = .ok (.if_icmp .eq 5, 3) := by decide +kernel
theorem dL_law_377 : decode cL_law 377 = .ok (.iconst 0, 1) := by decide +kernel
theorem dL_law_378 : decode cL_law 378 = .ok (.ireturn, 1) := by decide +kernel
theorem dL_law_379 : decode cL_law 379 = .ok (.iload 6, 2) := by decide +kernel
theorem dL_law_381 : decode cL_law 381 = .ok (.ifCond .ne 15, 3) := by decide +kernel
theorem dL_law_384 : decode cL_law 384 = .ok (.aload_n 3, 1) := by decide +kernel
theorem dL_law_385 : decode cL_law 385 = .ok (.iconst 0, 1) := by decide +kernel
theorem dL_law_386 : decode cL_law 386 = .ok (.laload, 1) := by decide +kernel
theorem dL_law_387 : decode cL_law 387 = .ok (.iload 7, 2) := by decide +kernel
theorem dL_law_389 : decode cL_law 389 = .ok (.i2l, 1) := by decide +kernel
theorem dL_law_390 : decode cL_law 390 = .ok (.lcmp, 1) := by decide +kernel
theorem dL_law_391 : decode cL_law 391 = .ok (.ifCond .eq 5, 3) := by decide +kernel
theorem dL_law_394 : decode cL_law 394 = .ok (.iconst 0, 1) := by decide +kernel
theorem dL_law_395 : decode cL_law 395 = .ok (.ireturn, 1) := by decide +kernel
theorem dL_law_396 : decode cL_law 396 = .ok (.goto 3077, 3) := by decide +kernel
set_option maxRecDepth 100000 in
set_option maxHeartbeats 4000000 in
theorem lc1_ok {G : GT} {b L A B : Nat} {xs : Nat → Int32} {μ : Mem} {i : Int32} {N : Mem → Prop} (C : PCx G cL_law 9 RL) (hX : Scr G b L xs) (hHR : HR G 10) (hN : ∀ μ : Mem, N μ → PW G A B 3473 [some (pW (.ref b)), some (pR 40 0), some (pR 50 0), some (pR 80 0), some (pR 81 0), some (pI i), none, none, none] [] μ) (hk : lc1_wp xs L μ i N) : PW G (A + 1) (B + 6) 281 [some (pW (.ref b)), some (pR 40 0), some (pR 50 0), some (pR 80 0), some (pR 81 0), some (pI i), none, none, none] [] μ := by
  unfold lc1_wp at hk
  refine px_aload_n (i := 1) C dL_law_281 rfl rfl ?_
  refine px_aload_nw (i := 0) C dL_law_282 rfl rfl ?_
  refine px_iload (i := 5) C dL_law_283 rfl ?_
  refine px_iconst (v := (1 : Int32)) C dL_law_285 rfl ?_
  refine px_iadd C dL_law_286 ?_
  obtain ⟨o1, hk⟩ := hk
  refine px_sld C hX dL_law_287 o1 ?_
  refine px_aload_nw (i := 0) C dL_law_288 rfl rfl ?_
  refine px_iload (i := 5) C dL_law_289 rfl ?_
  refine px_iconst (v := (2 : Int32)) C dL_law_291 rfl ?_
  refine px_iadd C dL_law_292 ?_
  obtain ⟨o2, hk⟩ := hk
  refine px_sld C hX dL_law_293 o2 ?_
  refine px_aload_nw (i := 0) C dL_law_294 rfl rfl ?_
  refine px_iload (i := 5) C dL_law_295 rfl ?_
  refine px_iconst (v := (3 : Int32)) C dL_law_297 rfl ?_
  refine px_iadd C dL_law_298 ?_
  obtain ⟨o3, hk⟩ := hk
  refine px_sld C hX dL_law_299 o3 ?_
  refine px_aload_nw (i := 0) C dL_law_300 rfl rfl ?_
  refine px_iload (i := 5) C dL_law_301 rfl ?_
  refine px_iconst (v := (4 : Int32)) C dL_law_303 rfl ?_
  refine px_iadd C dL_law_304 ?_
  obtain ⟨o4, hk⟩ := hk
  refine px_sld C hX dL_law_305 o4 ?_
  refine px_aload_nw (i := 0) C dL_law_306 rfl rfl ?_
  refine px_iload (i := 5) C dL_law_307 rfl ?_
  refine px_iconst (v := (5 : Int32)) C dL_law_309 rfl ?_
  refine px_iadd C dL_law_310 ?_
  obtain ⟨o5, hk⟩ := hk
  refine px_sld C hX dL_law_311 o5 ?_
  refine px_aload_nw (i := 0) C dL_law_312 rfl rfl ?_
  refine px_iload (i := 5) C dL_law_313 rfl ?_
  refine px_bipush (v := (6 : Int32)) C dL_law_315 rfl ?_
  refine px_iadd C dL_law_317 ?_
  obtain ⟨o6, hk⟩ := hk
  refine px_sld C hX dL_law_318 o6 ?_
  refine px_aload_n (i := 3) C dL_law_319 rfl rfl ?_
  refine px_callSH (h := 9) (rc' := A + 0) (rs' := B + 0) C (HR_le hHR (Nat.le_of_ble_eq_true rfl)) dL_law_320 (gw3 56 rfl rfl) ms_L_add (L_add_ok (PCx_l C) (PCx_I C) hk) rfl rfl (Nat.le_of_ble_eq_true rfl) (Nat.le_of_ble_eq_true rfl) (by omega) (by omega) ?_
  intro r8 μ7 hk
  refine px_istore (i := 6) C dL_law_323 (by decide) rfl ?_
  refine px_aload_n (i := 2) C dL_law_325 rfl rfl ?_
  refine px_aload_nw (i := 0) C dL_law_326 rfl rfl ?_
  refine px_iload (i := 5) C dL_law_327 rfl ?_
  refine px_iconst (v := (1 : Int32)) C dL_law_329 rfl ?_
  refine px_iadd C dL_law_330 ?_
  obtain ⟨o9, hk⟩ := hk
  refine px_sld C hX dL_law_331 o9 ?_
  refine px_aload_nw (i := 0) C dL_law_332 rfl rfl ?_
  refine px_iload (i := 5) C dL_law_333 rfl ?_
  refine px_iconst (v := (2 : Int32)) C dL_law_335 rfl ?_
  refine px_iadd C dL_law_336 ?_
  obtain ⟨o10, hk⟩ := hk
  refine px_sld C hX dL_law_337 o10 ?_
  refine px_aload_nw (i := 0) C dL_law_338 rfl rfl ?_
  refine px_iload (i := 5) C dL_law_339 rfl ?_
  refine px_iconst (v := (3 : Int32)) C dL_law_341 rfl ?_
  refine px_iadd C dL_law_342 ?_
  obtain ⟨o11, hk⟩ := hk
  refine px_sld C hX dL_law_343 o11 ?_
  refine px_aload_nw (i := 0) C dL_law_344 rfl rfl ?_
  refine px_iload (i := 5) C dL_law_345 rfl ?_
  refine px_iconst (v := (4 : Int32)) C dL_law_347 rfl ?_
  refine px_iadd C dL_law_348 ?_
  obtain ⟨o12, hk⟩ := hk
  refine px_sld C hX dL_law_349 o12 ?_
  refine px_aload_nw (i := 0) C dL_law_350 rfl rfl ?_
  refine px_iload (i := 5) C dL_law_351 rfl ?_
  refine px_iconst (v := (5 : Int32)) C dL_law_353 rfl ?_
  refine px_iadd C dL_law_354 ?_
  obtain ⟨o13, hk⟩ := hk
  refine px_sld C hX dL_law_355 o13 ?_
  refine px_aload_nw (i := 0) C dL_law_356 rfl rfl ?_
  refine px_iload (i := 5) C dL_law_357 rfl ?_
  refine px_bipush (v := (6 : Int32)) C dL_law_359 rfl ?_
  refine px_iadd C dL_law_361 ?_
  obtain ⟨o14, hk⟩ := hk
  refine px_sld C hX dL_law_362 o14 ?_
  refine px_callVNi (h := 2) (rc' := A + 0) (rs' := B + 0) C (HR_le hHR (Nat.le_of_ble_eq_true rfl)) dL_law_363 (gw8 131 rfl rfl) mv_X9_add (w9_add_ok (PCx_l C) (PCx_I C) hk) rfl rfl rfl rfl rfl (Nat.le_of_ble_eq_true rfl) (Nat.le_of_ble_eq_true rfl) (by omega) (by omega) ?_
  intro r16 μ15 hk
  refine px_istore (i := 7) C dL_law_366 (by decide) rfl ?_
  refine px_aload_n (i := 2) C dL_law_368 rfl rfl ?_
  refine px_callVNi (h := 0) (rc' := A + 0) (rs' := B + 0) C (HR_le hHR (Nat.le_of_ble_eq_true rfl)) dL_law_369 (gw8 123 rfl rfl) mv_X9_thrown (w9_thrown_ok (PCx_l C) (PCx_I C) hk) rfl rfl rfl rfl rfl (Nat.le_of_ble_eq_true rfl) (Nat.le_of_ble_eq_true rfl) (by omega) (by omega) ?_
  intro r18 μ17 hk
  refine px_iload (i := 6) C dL_law_372 rfl ?_
  refine px_icmp_eq (tgt := 379) C dL_law_374 (by decide) (fun c23 => ?_) (fun c23 => ?_)
  · replace hk := hk.1 c23
    refine px_iload (i := 6) C dL_law_379 rfl ?_
    refine px_if_ne (tgt := 396) C dL_law_381 (by decide) (fun c22 => ?_) (fun c22 => ?_)
    · replace hk := hk.1 c22
      refine px_goto (tgt := 3473) C dL_law_396 (by decide) ?_
      exact PW_at (hN _ hk) (And.intro rfl (And.intro rfl (And.intro rfl (And.intro rfl (And.intro rfl (And.intro rfl trivial)))))) (by omega) (by omega)
    · replace hk := hk.2 c22
      refine px_aload_n (i := 3) C dL_law_384 rfl rfl ?_
      refine px_iconst (v := (0 : Int32)) C dL_law_385 rfl ?_
      obtain ⟨o19, hk⟩ := hk
      refine px_lald 5120 C dL_law_386 rfl rfl rfl rfl o19 ?_
      refine px_iload (i := 7) C dL_law_387 rfl ?_
      refine px_i2l C dL_law_389 ?_
      obtain ⟨o20, hk⟩ := hk
      refine px_lcmp C dL_law_390 o20 ?_
      refine px_if_eq (tgt := 396) C dL_law_391 (by decide) (fun c21 => ?_) (fun c21 => ?_)
      · replace hk := hk.1 c21
        refine px_goto (tgt := 3473) C dL_law_396 (by decide) ?_
        exact PW_at (hN _ hk) (And.intro rfl (And.intro rfl (And.intro rfl (And.intro rfl (And.intro rfl (And.intro rfl trivial)))))) (by omega) (by omega)
      · replace hk := hk.2 c21
        refine px_iconst (v := (0 : Int32)) C dL_law_394 rfl ?_
        exact hk.elim
  · replace hk := hk.2 c23
    refine px_iconst (v := (0 : Int32)) C dL_law_377 rfl ?_
    exact hk.elim
theorem dL_law_399 : decode cL_law 399 = .ok (.aload_n 1, 1) := by decide +kernel
theorem dL_law_400 : decode cL_law 400 = .ok (.aload_n 0, 1) := by decide +kernel
theorem dL_law_401 : decode cL_law 401 = .ok (.iload 5, 2) := by decide +kernel
theorem dL_law_403 : decode cL_law 403 = .ok (.iconst 1, 1) := by decide +kernel
theorem dL_law_404 : decode cL_law 404 = .ok (.iadd, 1) := by decide +kernel
theorem dL_law_405 : decode cL_law 405 = .ok (.iaload, 1) := by decide +kernel
theorem dL_law_406 : decode cL_law 406 = .ok (.aload_n 3, 1) := by decide +kernel
theorem dL_law_407 : decode cL_law 407 = .ok (.invokestatic 189, 3) := by decide +kernel
theorem dL_law_410 : decode cL_law 410 = .ok (.istore 6, 2) := by decide +kernel
theorem dL_law_412 : decode cL_law 412 = .ok (.aload_n 2, 1) := by decide +kernel
theorem dL_law_413 : decode cL_law 413 = .ok (.aload_n 0, 1) := by decide +kernel
theorem dL_law_414 : decode cL_law 414 = .ok (.iload 5, 2) := by decide +kernel
theorem dL_law_416 : decode cL_law 416 = .ok (.iconst 1, 1) := by decide +kernel
theorem dL_law_417 : decode cL_law 417 = .ok (.iadd, 1) := by decide +kernel
theorem dL_law_418 : decode cL_law 418 = .ok (.iaload, 1) := by decide +kernel
theorem dL_law_419 : decode cL_law 419 = .ok (.invokevirtual 192, 3) := by decide +kernel
theorem dL_law_422 : decode cL_law 422 = .ok (.istore 7, 2) := by decide +kernel
theorem dL_law_424 : decode cL_law 424 = .ok (.aload_n 2, 1) := by decide +kernel
theorem dL_law_425 : decode cL_law 425 = .ok (.invokevirtual 186, 3) := by decide +kernel
theorem dL_law_428 : decode cL_law 428 = .ok (.iload 6, 2) := by decide +kernel
theorem dL_law_430 : decode cL_law 430 = .ok (.if_icmp .eq 5, 3) := by decide +kernel
theorem dL_law_433 : decode cL_law 433 = .ok (.iconst 0, 1) := by decide +kernel
theorem dL_law_434 : decode cL_law 434 = .ok (.ireturn, 1) := by decide +kernel
theorem dL_law_435 : decode cL_law 435 = .ok (.iload 6, 2) := by decide +kernel
theorem dL_law_437 : decode cL_law 437 = .ok (.ifCond .ne 15, 3) := by decide +kernel
theorem dL_law_440 : decode cL_law 440 = .ok (.aload_n 3, 1) := by decide +kernel
theorem dL_law_441 : decode cL_law 441 = .ok (.iconst 0, 1) := by decide +kernel
theorem dL_law_442 : decode cL_law 442 = .ok (.laload, 1) := by decide +kernel
theorem dL_law_443 : decode cL_law 443 = .ok (.iload 7, 2) := by decide +kernel
theorem dL_law_445 : decode cL_law 445 = .ok (.i2l, 1) := by decide +kernel
theorem dL_law_446 : decode cL_law 446 = .ok (.lcmp, 1) := by decide +kernel
theorem dL_law_447 : decode cL_law 447 = .ok (.ifCond .eq 5, 3) := by decide +kernel
theorem dL_law_450 : decode cL_law 450 = .ok (.iconst 0, 1) := by decide +kernel
theorem dL_law_451 : decode cL_law 451 = .ok (.ireturn, 1) := by decide +kernel
theorem dL_law_452 : decode cL_law 452 = .ok (.goto 3021, 3) := by decide +kernel
set_option maxRecDepth 100000 in
set_option maxHeartbeats 4000000 in
theorem lc2_ok {G : GT} {b L A B : Nat} {xs : Nat → Int32} {μ : Mem} {i : Int32} {N : Mem → Prop} (C : PCx G cL_law 9 RL) (hX : Scr G b L xs) (hHR : HR G 11) (hN : ∀ μ : Mem, N μ → PW G A B 3473 [some (pW (.ref b)), some (pR 40 0), some (pR 50 0), some (pR 80 0), some (pR 81 0), some (pI i), none, none, none] [] μ) (hk : lc2_wp xs L μ i N) : PW G (A + 1) (B + 6) 399 [some (pW (.ref b)), some (pR 40 0), some (pR 50 0), some (pR 80 0), some (pR 81 0), some (pI i), none, none, none] [] μ := by
  unfold lc2_wp at hk
  refine px_aload_n (i := 1) C dL_law_399 rfl rfl ?_
  refine px_aload_nw (i := 0) C dL_law_400 rfl rfl ?_
  refine px_iload (i := 5) C dL_law_401 rfl ?_
  refine px_iconst (v := (1 : Int32)) C dL_law_403 rfl ?_
  refine px_iadd C dL_law_404 ?_
  obtain ⟨o1, hk⟩ := hk
  refine px_sld C hX dL_law_405 o1 ?_
  refine px_aload_n (i := 3) C dL_law_406 rfl rfl ?_
  refine px_callSH (h := 10) (rc' := A + 0) (rs' := B + 0) C (HR_le hHR (Nat.le_of_ble_eq_true rfl)) dL_law_407 (gw3 178 rfl rfl) ms_L_remove (L_remove_ok (PCx_l C) (PCx_I C) hk) rfl rfl (Nat.le_of_ble_eq_true rfl) (Nat.le_of_ble_eq_true rfl) (by omega) (by omega) ?_
  intro r3 μ2 hk
  refine px_istore (i := 6) C dL_law_410 (by decide) rfl ?_
  refine px_aload_n (i := 2) C dL_law_412 rfl rfl ?_
  refine px_aload_nw (i := 0) C dL_law_413 rfl rfl ?_
  refine px_iload (i := 5) C dL_law_414 rfl ?_
  refine px_iconst (v := (1 : Int32)) C dL_law_416 rfl ?_
  refine px_iadd C dL_law_417 ?_
  obtain ⟨o4, hk⟩ := hk
  refine px_sld C hX dL_law_418 o4 ?_
  refine px_callVNi (h := 3) (rc' := A + 0) (rs' := B + 0) C (HR_le hHR (Nat.le_of_ble_eq_true rfl)) dL_law_419 (gw8 172 rfl rfl) mv_X9_remove (w9_remove_ok (PCx_l C) (PCx_I C) hk) rfl rfl rfl rfl rfl (Nat.le_of_ble_eq_true rfl) (Nat.le_of_ble_eq_true rfl) (by omega) (by omega) ?_
  intro r6 μ5 hk
  refine px_istore (i := 7) C dL_law_422 (by decide) rfl ?_
  refine px_aload_n (i := 2) C dL_law_424 rfl rfl ?_
  refine px_callVNi (h := 0) (rc' := A + 0) (rs' := B + 0) C (HR_le hHR (Nat.le_of_ble_eq_true rfl)) dL_law_425 (gw8 123 rfl rfl) mv_X9_thrown (w9_thrown_ok (PCx_l C) (PCx_I C) hk) rfl rfl rfl rfl rfl (Nat.le_of_ble_eq_true rfl) (Nat.le_of_ble_eq_true rfl) (by omega) (by omega) ?_
  intro r8 μ7 hk
  refine px_iload (i := 6) C dL_law_428 rfl ?_
  refine px_icmp_eq (tgt := 435) C dL_law_430 (by decide) (fun c13 => ?_) (fun c13 => ?_)
  · replace hk := hk.1 c13
    refine px_iload (i := 6) C dL_law_435 rfl ?_
    refine px_if_ne (tgt := 452) C dL_law_437 (by decide) (fun c12 => ?_) (fun c12 => ?_)
    · replace hk := hk.1 c12
      refine px_goto (tgt := 3473) C dL_law_452 (by decide) ?_
      exact PW_at (hN _ hk) (And.intro rfl (And.intro rfl (And.intro rfl (And.intro rfl (And.intro rfl (And.intro rfl trivial)))))) (by omega) (by omega)
    · replace hk := hk.2 c12
      refine px_aload_n (i := 3) C dL_law_440 rfl rfl ?_
      refine px_iconst (v := (0 : Int32)) C dL_law_441 rfl ?_
      obtain ⟨o9, hk⟩ := hk
      refine px_lald 5120 C dL_law_442 rfl rfl rfl rfl o9 ?_
      refine px_iload (i := 7) C dL_law_443 rfl ?_
      refine px_i2l C dL_law_445 ?_
      obtain ⟨o10, hk⟩ := hk
      refine px_lcmp C dL_law_446 o10 ?_
      refine px_if_eq (tgt := 452) C dL_law_447 (by decide) (fun c11 => ?_) (fun c11 => ?_)
      · replace hk := hk.1 c11
        refine px_goto (tgt := 3473) C dL_law_452 (by decide) ?_
        exact PW_at (hN _ hk) (And.intro rfl (And.intro rfl (And.intro rfl (And.intro rfl (And.intro rfl (And.intro rfl trivial)))))) (by omega) (by omega)
      · replace hk := hk.2 c11
        refine px_iconst (v := (0 : Int32)) C dL_law_450 rfl ?_
        exact hk.elim
  · replace hk := hk.2 c13
    refine px_iconst (v := (0 : Int32)) C dL_law_433 rfl ?_
    exact hk.elim
theorem dL_law_455 : decode cL_law 455 = .ok (.aload_n 1, 1) := by decide +kernel
theorem dL_law_456 : decode cL_law 456 = .ok (.aload_n 0, 1) := by decide +kernel
theorem dL_law_457 : decode cL_law 457 = .ok (.iload 5, 2) := by decide +kernel
theorem dL_law_459 : decode cL_law 459 = .ok (.iconst 1, 1) := by decide +kernel
theorem dL_law_460 : decode cL_law 460 = .ok (.iadd, 1) := by decide +kernel
theorem dL_law_461 : decode cL_law 461 = .ok (.iaload, 1) := by decide +kernel
theorem dL_law_462 : decode cL_law 462 = .ok (.aload_n 0, 1) := by decide +kernel
theorem dL_law_463 : decode cL_law 463 = .ok (.iload 5, 2) := by decide +kernel
theorem dL_law_465 : decode cL_law 465 = .ok (.iconst 2, 1) := by decide +kernel
theorem dL_law_466 : decode cL_law 466 = .ok (.iadd, 1) := by decide +kernel
theorem dL_law_467 : decode cL_law 467 = .ok (.iaload, 1) := by decide +kernel
theorem dL_law_468 : decode cL_law 468 = .ok (.aload_n 3, 1) := by decide +kernel
theorem dL_law_469 : decode cL_law 469 = .ok (.invokestatic 193, 3) := by decide +kernel
theorem dL_law_472 : decode cL_law 472 = .ok (.istore 6, 2) := by decide +kernel
theorem dL_law_474 : decode cL_law 474 = .ok (.aload_n 2, 1) := by decide +kernel
theorem dL_law_475 : decode cL_law 475 = .ok (.aload_n 0, 1) := by decide +kernel
theorem dL_law_476 : decode cL_law 476 = .ok (.iload 5, 2) := by decide +kernel
theorem dL_law_478 : decode cL_law 478 = .ok (.iconst 1, 1) := by decide +kernel
theorem dL_law_479 : decode cL_law 479 = .ok (.iadd, 1) := by decide +kernel
theorem dL_law_480 : decode cL_law 480 = .ok (.iaload, 1) := by decide +kernel
theorem dL_law_481 : decode cL_law 481 = .ok (.aload_n 0, 1) := by decide +kernel
theorem dL_law_482 : decode cL_law 482 = .ok (.iload 5, 2) := by decide +kernel
theorem dL_law_484 : decode cL_law 484 = .ok (.iconst 2, 1) := by decide +kernel
theorem dL_law_485 : decode cL_law 485 = .ok (.iadd, 1) := by decide +kernel
theorem dL_law_486 : decode cL_law 486 = .ok (.iaload, 1) := by decide +kernel
theorem dL_law_487 : decode cL_law 487 = .ok (.invokevirtual 196, 3) := by decide +kernel
theorem dL_law_490 : decode cL_law 490 = .ok (.istore 7, 2) := by decide +kernel
theorem dL_law_492 : decode cL_law 492 = .ok (.aload_n 2, 1) := by decide +kernel
theorem dL_law_493 : decode cL_law 493 = .ok (.invokevirtual 186, 3) := by decide +kernel
theorem dL_law_496 : decode cL_law 496 = .ok (.iload 6, 2) := by decide +kernel
theorem dL_law_498 : decode cL_law 498 = .ok (.if_icmp .eq 5, 3) := by decide +kernel
theorem dL_law_501 : decode cL_law 501 = .ok (.iconst 0, 1) := by decide +kernel
theorem dL_law_502 : decode cL_law 502 = .ok (.ireturn, 1) := by decide +kernel
theorem dL_law_503 : decode cL_law 503 = .ok (.iload 6, 2) := by decide +kernel
theorem dL_law_505 : decode cL_law 505 = .ok (.ifCond .ne 15, 3) := by decide +kernel
theorem dL_law_508 : decode cL_law 508 = .ok (.aload_n 3, 1) := by decide +kernel
theorem dL_law_509 : decode cL_law 509 = .ok (.iconst 0, 1) := by decide +kernel
theorem dL_law_510 : decode cL_law 510 = .ok (.laload, 1) := by decide +kernel
theorem dL_law_511 : decode cL_law 511 = .ok (.iload 7, 2) := by decide +kernel
theorem dL_law_513 : decode cL_law 513 = .ok (.i2l, 1) := by decide +kernel
theorem dL_law_514 : decode cL_law 514 = .ok (.lcmp, 1) := by decide +kernel
theorem dL_law_515 : decode cL_law 515 = .ok (.ifCond .eq 5, 3) := by decide +kernel
theorem dL_law_518 : decode cL_law 518 = .ok (.iconst 0, 1) := by decide +kernel
theorem dL_law_519 : decode cL_law 519 = .ok (.ireturn, 1) := by decide +kernel
theorem dL_law_520 : decode cL_law 520 = .ok (.goto 2953, 3) := by decide +kernel
set_option maxRecDepth 100000 in
set_option maxHeartbeats 4000000 in
theorem lc3_ok {G : GT} {b L A B : Nat} {xs : Nat → Int32} {μ : Mem} {i : Int32} {N : Mem → Prop} (C : PCx G cL_law 9 RL) (hX : Scr G b L xs) (hHR : HR G 11) (hN : ∀ μ : Mem, N μ → PW G A B 3473 [some (pW (.ref b)), some (pR 40 0), some (pR 50 0), some (pR 80 0), some (pR 81 0), some (pI i), none, none, none] [] μ) (hk : lc3_wp xs L μ i N) : PW G (A + 2) (B + 12) 455 [some (pW (.ref b)), some (pR 40 0), some (pR 50 0), some (pR 80 0), some (pR 81 0), some (pI i), none, none, none] [] μ := by
  unfold lc3_wp at hk
  refine px_aload_n (i := 1) C dL_law_455 rfl rfl ?_
  refine px_aload_nw (i := 0) C dL_law_456 rfl rfl ?_
  refine px_iload (i := 5) C dL_law_457 rfl ?_
  refine px_iconst (v := (1 : Int32)) C dL_law_459 rfl ?_
  refine px_iadd C dL_law_460 ?_
  obtain ⟨o1, hk⟩ := hk
  refine px_sld C hX dL_law_461 o1 ?_
  refine px_aload_nw (i := 0) C dL_law_462 rfl rfl ?_
  refine px_iload (i := 5) C dL_law_463 rfl ?_
  refine px_iconst (v := (2 : Int32)) C dL_law_465 rfl ?_
  refine px_iadd C dL_law_466 ?_
  obtain ⟨o2, hk⟩ := hk
  refine px_sld C hX dL_law_467 o2 ?_
  refine px_aload_n (i := 3) C dL_law_468 rfl rfl ?_
  refine px_callSH (h := 10) (rc' := A + 0) (rs' := B + 0) C (HR_le hHR (Nat.le_of_ble_eq_true rfl)) dL_law_469 (gw3 234 rfl rfl) ms_L_setParent (L_setParent_ok (PCx_l C) (PCx_I C) hk) rfl rfl (Nat.le_of_ble_eq_true rfl) (Nat.le_of_ble_eq_true rfl) (by omega) (by omega) ?_
  intro r4 μ3 hk
  refine px_istore (i := 6) C dL_law_472 (by decide) rfl ?_
  refine px_aload_n (i := 2) C dL_law_474 rfl rfl ?_
  refine px_aload_nw (i := 0) C dL_law_475 rfl rfl ?_
  refine px_iload (i := 5) C dL_law_476 rfl ?_
  refine px_iconst (v := (1 : Int32)) C dL_law_478 rfl ?_
  refine px_iadd C dL_law_479 ?_
  obtain ⟨o5, hk⟩ := hk
  refine px_sld C hX dL_law_480 o5 ?_
  refine px_aload_nw (i := 0) C dL_law_481 rfl rfl ?_
  refine px_iload (i := 5) C dL_law_482 rfl ?_
  refine px_iconst (v := (2 : Int32)) C dL_law_484 rfl ?_
  refine px_iadd C dL_law_485 ?_
  obtain ⟨o6, hk⟩ := hk
  refine px_sld C hX dL_law_486 o6 ?_
  refine px_callVNi (h := 3) (rc' := A + 0) (rs' := B + 0) C (HR_le hHR (Nat.le_of_ble_eq_true rfl)) dL_law_487 (gw8 184 rfl rfl) mv_X9_setParent (w9_setParent_ok (PCx_l C) (PCx_I C) hk) rfl rfl rfl rfl rfl (Nat.le_of_ble_eq_true rfl) (Nat.le_of_ble_eq_true rfl) (by omega) (by omega) ?_
  intro r8 μ7 hk
  refine px_istore (i := 7) C dL_law_490 (by decide) rfl ?_
  refine px_aload_n (i := 2) C dL_law_492 rfl rfl ?_
  refine px_callVNi (h := 0) (rc' := A + 0) (rs' := B + 0) C (HR_le hHR (Nat.le_of_ble_eq_true rfl)) dL_law_493 (gw8 123 rfl rfl) mv_X9_thrown (w9_thrown_ok (PCx_l C) (PCx_I C) hk) rfl rfl rfl rfl rfl (Nat.le_of_ble_eq_true rfl) (Nat.le_of_ble_eq_true rfl) (by omega) (by omega) ?_
  intro r10 μ9 hk
  refine px_iload (i := 6) C dL_law_496 rfl ?_
  refine px_icmp_eq (tgt := 503) C dL_law_498 (by decide) (fun c15 => ?_) (fun c15 => ?_)
  · replace hk := hk.1 c15
    refine px_iload (i := 6) C dL_law_503 rfl ?_
    refine px_if_ne (tgt := 520) C dL_law_505 (by decide) (fun c14 => ?_) (fun c14 => ?_)
    · replace hk := hk.1 c14
      refine px_goto (tgt := 3473) C dL_law_520 (by decide) ?_
      exact PW_at (hN _ hk) (And.intro rfl (And.intro rfl (And.intro rfl (And.intro rfl (And.intro rfl (And.intro rfl trivial)))))) (by omega) (by omega)
    · replace hk := hk.2 c14
      refine px_aload_n (i := 3) C dL_law_508 rfl rfl ?_
      refine px_iconst (v := (0 : Int32)) C dL_law_509 rfl ?_
      obtain ⟨o11, hk⟩ := hk
      refine px_lald 5120 C dL_law_510 rfl rfl rfl rfl o11 ?_
      refine px_iload (i := 7) C dL_law_511 rfl ?_
      refine px_i2l C dL_law_513 ?_
      obtain ⟨o12, hk⟩ := hk
      refine px_lcmp C dL_law_514 o12 ?_
      refine px_if_eq (tgt := 520) C dL_law_515 (by decide) (fun c13 => ?_) (fun c13 => ?_)
      · replace hk := hk.1 c13
        refine px_goto (tgt := 3473) C dL_law_520 (by decide) ?_
        exact PW_at (hN _ hk) (And.intro rfl (And.intro rfl (And.intro rfl (And.intro rfl (And.intro rfl (And.intro rfl trivial)))))) (by omega) (by omega)
      · replace hk := hk.2 c13
        refine px_iconst (v := (0 : Int32)) C dL_law_518 rfl ?_
        exact hk.elim
  · replace hk := hk.2 c15
    refine px_iconst (v := (0 : Int32)) C dL_law_501 rfl ?_
    exact hk.elim
theorem dL_law_523 : decode cL_law 523 = .ok (.aload_n 1, 1) := by decide +kernel
theorem dL_law_524 : decode cL_law 524 = .ok (.aload_n 0, 1) := by decide +kernel
theorem dL_law_525 : decode cL_law 525 = .ok (.iload 5, 2) := by decide +kernel
theorem dL_law_527 : decode cL_law 527 = .ok (.iconst 1, 1) := by decide +kernel
theorem dL_law_528 : decode cL_law 528 = .ok (.iadd, 1) := by decide +kernel
theorem dL_law_529 : decode cL_law 529 = .ok (.iaload, 1) := by decide +kernel
theorem dL_law_530 : decode cL_law 530 = .ok (.aload_n 0, 1) := by decide +kernel
theorem dL_law_531 : decode cL_law 531 = .ok (.iload 5, 2) := by decide +kernel
theorem dL_law_533 : decode cL_law 533 = .ok (.iconst 2, 1) := by decide +kernel
theorem dL_law_534 : decode cL_law 534 = .ok (.iadd, 1) := by decide +kernel
theorem dL_law_535 : decode cL_law 535 = .ok (.iaload, 1) := by decide +kernel
theorem dL_law_536 : decode cL_law 536 = .ok (.aload_n 0, 1) := by decide +kernel
theorem dL_law_537 : decode cL_law 537 = .ok (.iload 5, 2) := by decide +kernel
theorem dL_law_539 : decode cL_law 539 = .ok (.iconst 3, 1) := by decide +kernel
theorem dL_law_540 : decode cL_law 540 = .ok (.iadd, 1) := by decide +kernel
theorem dL_law_541 : decode cL_law 541 = .ok (.iaload, 1) := by decide +kernel
theorem dL_law_542 : decode cL_law 542 = .ok (.aload_n 3, 1) := by decide +kernel
theorem dL_law_543 : decode cL_law 543 = .ok (.invokestatic 197, 3) := by decide +kernel
theorem dL_law_546 : decode cL_law 546 = .ok (.istore 6, 2) := by decide +kernel
theorem dL_law_548 : decode cL_law 548 = .ok (.aload_n 2, 1) := by decide +kernel
theorem dL_law_549 : decode cL_law 549 = .ok (.aload_n 0, 1) := by decide +kernel
theorem dL_law_550 : decode cL_law 550 = .ok (.iload 5, 2) := by decide +kernel
theorem dL_law_552 : decode cL_law 552 = .ok (.iconst 1, 1) := by decide +kernel
theorem dL_law_553 : decode cL_law 553 = .ok (.iadd, 1) := by decide +kernel
theorem dL_law_554 : decode cL_law 554 = .ok (.iaload, 1) := by decide +kernel
theorem dL_law_555 : decode cL_law 555 = .ok (.aload_n 0, 1) := by decide +kernel
theorem dL_law_556 : decode cL_law 556 = .ok (.iload 5, 2) := by decide +kernel
theorem dL_law_558 : decode cL_law 558 = .ok (.iconst 2, 1) := by decide +kernel
theorem dL_law_559 : decode cL_law 559 = .ok (.iadd, 1) := by decide +kernel
theorem dL_law_560 : decode cL_law 560 = .ok (.iaload, 1) := by decide +kernel
theorem dL_law_561 : decode cL_law 561 = .ok (.aload_n 0, 1) := by decide +kernel
theorem dL_law_562 : decode cL_law 562 = .ok (.iload 5, 2) := by decide +kernel
theorem dL_law_564 : decode cL_law 564 = .ok (.iconst 3, 1) := by decide +kernel
theorem dL_law_565 : decode cL_law 565 = .ok (.iadd, 1) := by decide +kernel
theorem dL_law_566 : decode cL_law 566 = .ok (.iaload, 1) := by decide +kernel
theorem dL_law_567 : decode cL_law 567 = .ok (.invokevirtual 200, 3) := by decide +kernel
theorem dL_law_570 : decode cL_law 570 = .ok (.istore 7, 2) := by decide +kernel
theorem dL_law_572 : decode cL_law 572 = .ok (.aload_n 2, 1) := by decide +kernel
theorem dL_law_573 : decode cL_law 573 = .ok (.invokevirtual 186, 3) := by decide +kernel
theorem dL_law_576 : decode cL_law 576 = .ok (.iload 6, 2) := by decide +kernel
theorem dL_law_578 : decode cL_law 578 = .ok (.if_icmp .eq 5, 3) := by decide +kernel
theorem dL_law_581 : decode cL_law 581 = .ok (.iconst 0, 1) := by decide +kernel
theorem dL_law_582 : decode cL_law 582 = .ok (.ireturn, 1) := by decide +kernel
theorem dL_law_583 : decode cL_law 583 = .ok (.iload 6, 2) := by decide +kernel
theorem dL_law_585 : decode cL_law 585 = .ok (.ifCond .ne 15, 3) := by decide +kernel
theorem dL_law_588 : decode cL_law 588 = .ok (.aload_n 3, 1) := by decide +kernel
theorem dL_law_589 : decode cL_law 589 = .ok (.iconst 0, 1) := by decide +kernel
theorem dL_law_590 : decode cL_law 590 = .ok (.laload, 1) := by decide +kernel
theorem dL_law_591 : decode cL_law 591 = .ok (.iload 7, 2) := by decide +kernel
theorem dL_law_593 : decode cL_law 593 = .ok (.i2l, 1) := by decide +kernel
theorem dL_law_594 : decode cL_law 594 = .ok (.lcmp, 1) := by decide +kernel
theorem dL_law_595 : decode cL_law 595 = .ok (.ifCond .eq 5, 3) := by decide +kernel
theorem dL_law_598 : decode cL_law 598 = .ok (.iconst 0, 1) := by decide +kernel
theorem dL_law_599 : decode cL_law 599 = .ok (.ireturn, 1) := by decide +kernel
theorem dL_law_600 : decode cL_law 600 = .ok (.goto 2873, 3) := by decide +kernel
set_option maxRecDepth 100000 in
set_option maxHeartbeats 4000000 in
theorem lc4_ok {G : GT} {b L A B : Nat} {xs : Nat → Int32} {μ : Mem} {i : Int32} {N : Mem → Prop} (C : PCx G cL_law 9 RL) (hX : Scr G b L xs) (hHR : HR G 11) (hN : ∀ μ : Mem, N μ → PW G A B 3473 [some (pW (.ref b)), some (pR 40 0), some (pR 50 0), some (pR 80 0), some (pR 81 0), some (pI i), none, none, none] [] μ) (hk : lc4_wp xs L μ i N) : PW G (A + 2) (B + 12) 523 [some (pW (.ref b)), some (pR 40 0), some (pR 50 0), some (pR 80 0), some (pR 81 0), some (pI i), none, none, none] [] μ := by
  unfold lc4_wp at hk
  refine px_aload_n (i := 1) C dL_law_523 rfl rfl ?_
  refine px_aload_nw (i := 0) C dL_law_524 rfl rfl ?_
  refine px_iload (i := 5) C dL_law_525 rfl ?_
  refine px_iconst (v := (1 : Int32)) C dL_law_527 rfl ?_
  refine px_iadd C dL_law_528 ?_
  obtain ⟨o1, hk⟩ := hk
  refine px_sld C hX dL_law_529 o1 ?_
  refine px_aload_nw (i := 0) C dL_law_530 rfl rfl ?_
  refine px_iload (i := 5) C dL_law_531 rfl ?_
  refine px_iconst (v := (2 : Int32)) C dL_law_533 rfl ?_
  refine px_iadd C dL_law_534 ?_
  obtain ⟨o2, hk⟩ := hk
  refine px_sld C hX dL_law_535 o2 ?_
  refine px_aload_nw (i := 0) C dL_law_536 rfl rfl ?_
  refine px_iload (i := 5) C dL_law_537 rfl ?_
  refine px_iconst (v := (3 : Int32)) C dL_law_539 rfl ?_
  refine px_iadd C dL_law_540 ?_
  obtain ⟨o3, hk⟩ := hk
  refine px_sld C hX dL_law_541 o3 ?_
  refine px_aload_n (i := 3) C dL_law_542 rfl rfl ?_
  refine px_callSH (h := 10) (rc' := A + 0) (rs' := B + 0) C (HR_le hHR (Nat.le_of_ble_eq_true rfl)) dL_law_543 (gw4 4 rfl rfl) ms_L_setTimes (L_setTimes_ok (PCx_l C) (PCx_I C) hk) rfl rfl (Nat.le_of_ble_eq_true rfl) (Nat.le_of_ble_eq_true rfl) (by omega) (by omega) ?_
  intro r5 μ4 hk
  refine px_istore (i := 6) C dL_law_546 (by decide) rfl ?_
  refine px_aload_n (i := 2) C dL_law_548 rfl rfl ?_
  refine px_aload_nw (i := 0) C dL_law_549 rfl rfl ?_
  refine px_iload (i := 5) C dL_law_550 rfl ?_
  refine px_iconst (v := (1 : Int32)) C dL_law_552 rfl ?_
  refine px_iadd C dL_law_553 ?_
  obtain ⟨o6, hk⟩ := hk
  refine px_sld C hX dL_law_554 o6 ?_
  refine px_aload_nw (i := 0) C dL_law_555 rfl rfl ?_
  refine px_iload (i := 5) C dL_law_556 rfl ?_
  refine px_iconst (v := (2 : Int32)) C dL_law_558 rfl ?_
  refine px_iadd C dL_law_559 ?_
  obtain ⟨o7, hk⟩ := hk
  refine px_sld C hX dL_law_560 o7 ?_
  refine px_aload_nw (i := 0) C dL_law_561 rfl rfl ?_
  refine px_iload (i := 5) C dL_law_562 rfl ?_
  refine px_iconst (v := (3 : Int32)) C dL_law_564 rfl ?_
  refine px_iadd C dL_law_565 ?_
  obtain ⟨o8, hk⟩ := hk
  refine px_sld C hX dL_law_566 o8 ?_
  refine px_callVNi (h := 3) (rc' := A + 0) (rs' := B + 0) C (HR_le hHR (Nat.le_of_ble_eq_true rfl)) dL_law_567 (gw8 188 rfl rfl) mv_X9_setTimes (w9_setTimes_ok (PCx_l C) (PCx_I C) hk) rfl rfl rfl rfl rfl (Nat.le_of_ble_eq_true rfl) (Nat.le_of_ble_eq_true rfl) (by omega) (by omega) ?_
  intro r10 μ9 hk
  refine px_istore (i := 7) C dL_law_570 (by decide) rfl ?_
  refine px_aload_n (i := 2) C dL_law_572 rfl rfl ?_
  refine px_callVNi (h := 0) (rc' := A + 0) (rs' := B + 0) C (HR_le hHR (Nat.le_of_ble_eq_true rfl)) dL_law_573 (gw8 123 rfl rfl) mv_X9_thrown (w9_thrown_ok (PCx_l C) (PCx_I C) hk) rfl rfl rfl rfl rfl (Nat.le_of_ble_eq_true rfl) (Nat.le_of_ble_eq_true rfl) (by omega) (by omega) ?_
  intro r12 μ11 hk
  refine px_iload (i := 6) C dL_law_576 rfl ?_
  refine px_icmp_eq (tgt := 583) C dL_law_578 (by decide) (fun c17 => ?_) (fun c17 => ?_)
  · replace hk := hk.1 c17
    refine px_iload (i := 6) C dL_law_583 rfl ?_
    refine px_if_ne (tgt := 600) C dL_law_585 (by decide) (fun c16 => ?_) (fun c16 => ?_)
    · replace hk := hk.1 c16
      refine px_goto (tgt := 3473) C dL_law_600 (by decide) ?_
      exact PW_at (hN _ hk) (And.intro rfl (And.intro rfl (And.intro rfl (And.intro rfl (And.intro rfl (And.intro rfl trivial)))))) (by omega) (by omega)
    · replace hk := hk.2 c16
      refine px_aload_n (i := 3) C dL_law_588 rfl rfl ?_
      refine px_iconst (v := (0 : Int32)) C dL_law_589 rfl ?_
      obtain ⟨o13, hk⟩ := hk
      refine px_lald 5120 C dL_law_590 rfl rfl rfl rfl o13 ?_
      refine px_iload (i := 7) C dL_law_591 rfl ?_
      refine px_i2l C dL_law_593 ?_
      obtain ⟨o14, hk⟩ := hk
      refine px_lcmp C dL_law_594 o14 ?_
      refine px_if_eq (tgt := 600) C dL_law_595 (by decide) (fun c15 => ?_) (fun c15 => ?_)
      · replace hk := hk.1 c15
        refine px_goto (tgt := 3473) C dL_law_600 (by decide) ?_
        exact PW_at (hN _ hk) (And.intro rfl (And.intro rfl (And.intro rfl (And.intro rfl (And.intro rfl (And.intro rfl trivial)))))) (by omega) (by omega)
      · replace hk := hk.2 c15
        refine px_iconst (v := (0 : Int32)) C dL_law_598 rfl ?_
        exact hk.elim
  · replace hk := hk.2 c17
    refine px_iconst (v := (0 : Int32)) C dL_law_581 rfl ?_
    exact hk.elim
theorem dL_law_603 : decode cL_law 603 = .ok (.aload_n 1, 1) := by decide +kernel
theorem dL_law_604 : decode cL_law 604 = .ok (.aload_n 0, 1) := by decide +kernel
theorem dL_law_605 : decode cL_law 605 = .ok (.iload 5, 2) := by decide +kernel
theorem dL_law_607 : decode cL_law 607 = .ok (.iconst 1, 1) := by decide +kernel
theorem dL_law_608 : decode cL_law 608 = .ok (.iadd, 1) := by decide +kernel
theorem dL_law_609 : decode cL_law 609 = .ok (.iaload, 1) := by decide +kernel
theorem dL_law_610 : decode cL_law 610 = .ok (.aload_n 0, 1) := by decide +kernel
theorem dL_law_611 : decode cL_law 611 = .ok (.iload 5, 2) := by decide +kernel
theorem dL_law_613 : decode cL_law 613 = .ok (.iconst 2, 1) := by decide +kernel
theorem dL_law_614 : decode cL_law 614 = .ok (.iadd, 1) := by decide +kernel
theorem dL_law_615 : decode cL_law 615 = .ok (.iaload, 1) := by decide +kernel
theorem dL_law_616 : decode cL_law 616 = .ok (.ifCond .eq 7, 3) := by decide +kernel
theorem dL_law_619 : decode cL_law 619 = .ok (.iconst 1, 1) := by decide +kernel
theorem dL_law_620 : decode cL_law 620 = .ok (.goto 4, 3) := by decide +kernel
theorem dL_law_623 : decode cL_law 623 = .ok (.iconst 0, 1) := by decide +kernel
theorem dL_law_624 : decode cL_law 624 = .ok (.aload_n 3, 1) := by decide +kernel
theorem dL_law_625 : decode cL_law 625 = .ok (.invokestatic 201, 3) := by decide +kernel
theorem dL_law_628 : decode cL_law 628 = .ok (.istore 6, 2) := by decide +kernel
theorem dL_law_630 : decode cL_law 630 = .ok (.aload_n 2, 1) := by decide +kernel
theorem dL_law_631 : decode cL_law 631 = .ok (.aload_n 0, 1) := by decide +kernel
theorem dL_law_632 : decode cL_law 632 = .ok (.iload 5, 2) := by decide +kernel
theorem dL_law_634 : decode cL_law 634 = .ok (.iconst 1, 1) := by decide +kernel
theorem dL_law_635 : decode cL_law 635 = .ok (.iadd, 1) := by decide +kernel
theorem dL_law_636 : decode cL_law 636 = .ok (.iaload, 1) := by decide +kernel
theorem dL_law_637 : decode cL_law 637 = .ok (.aload_n 0, 1) := by decide +kernel
theorem dL_law_638 : decode cL_law 638 = .ok (.iload 5, 2) := by decide +kernel
theorem dL_law_640 : decode cL_law 640 = .ok (.iconst 2, 1) := by decide +kernel
theorem dL_law_641 : decode cL_law 641 = .ok (.iadd, 1) := by decide +kernel
theorem dL_law_642 : decode cL_law 642 = .ok (.iaload, 1) := by decide +kernel
theorem dL_law_643 : decode cL_law 643 = .ok (.ifCond .eq 7, 3) := by decide +kernel
theorem dL_law_646 : decode cL_law 646 = .ok (.iconst 1, 1) := by decide +kernel
theorem dL_law_647 : decode cL_law 647 = .ok (.goto 4, 3) := by decide +kernel
theorem dL_law_650 : decode cL_law 650 = .ok (.iconst 0, 1) := by decide +kernel
theorem dL_law_651 : decode cL_law 651 = .ok (.invokevirtual 204, 3) := by decide +kernel
theorem dL_law_654 : decode cL_law 654 = .ok (.istore 7, 2) := by decide +kernel
theorem dL_law_656 : decode cL_law 656 = .ok (.aload_n 2, 1) := by decide +kernel
theorem dL_law_657 : decode cL_law 657 = .ok (.invokevirtual 186, 3) := by decide +kernel
theorem dL_law_660 : decode cL_law 660 = .ok (.iload 6, 2) := by decide +kernel
theorem dL_law_662 : decode cL_law 662 = .ok (.if_icmp .eq 5, 3) := by decide +kernel
theorem dL_law_665 : decode cL_law 665 = .ok (.iconst 0, 1) := by decide +kernel
theorem dL_law_666 : decode cL_law 666 = .ok (.ireturn, 1) := by decide +kernel
theorem dL_law_667 : decode cL_law 667 = .ok (.iload 6, 2) := by decide +kernel
theorem dL_law_669 : decode cL_law 669 = .ok (.ifCond .ne 22, 3) := by decide +kernel
theorem dL_law_672 : decode cL_law 672 = .ok (.aload_n 3, 1) := by decide +kernel
theorem dL_law_673 : decode cL_law 673 = .ok (.iconst 0, 1) := by decide +kernel
theorem dL_law_674 : decode cL_law 674 = .ok (.laload, 1) := by decide +kernel
theorem dL_law_675 : decode cL_law 675 = .ok (.iload 7, 2) := by decide +kernel
theorem dL_law_677 : decode cL_law 677 = .ok (.ifCond .eq 7, 3) := by decide +kernel
theorem dL_law_680 : decode cL_law 680 = .ok (.lconst 1, 1) := by decide +kernel
theorem dL_law_681 : decode cL_law 681 = .ok (.goto 4, 3) := by decide +kernel
theorem dL_law_684 : decode cL_law 684 = .ok (.lconst 0, 1) := by decide +kernel
theorem dL_law_685 : decode cL_law 685 = .ok (.lcmp, 1) := by decide +kernel
theorem dL_law_686 : decode cL_law 686 = .ok (.ifCond .eq 5, 3) := by decide +kernel
theorem dL_law_689 : decode cL_law 689 = .ok (.iconst 0, 1) := by decide +kernel
theorem dL_law_690 : decode cL_law 690 = .ok (.ireturn, 1) := by decide +kernel
theorem dL_law_691 : decode cL_law 691 = .ok (.goto 2782, 3) := by decide +kernel
set_option maxRecDepth 100000 in
set_option maxHeartbeats 4000000 in
theorem lc5_ok {G : GT} {b L A B : Nat} {xs : Nat → Int32} {μ : Mem} {i : Int32} {N : Mem → Prop} (C : PCx G cL_law 9 RL) (hX : Scr G b L xs) (hHR : HR G 11) (hN : ∀ μ : Mem, N μ → PW G A B 3473 [some (pW (.ref b)), some (pR 40 0), some (pR 50 0), some (pR 80 0), some (pR 81 0), some (pI i), none, none, none] [] μ) (hk : lc5_wp xs L μ i N) : PW G (A + 1) (B + 6) 603 [some (pW (.ref b)), some (pR 40 0), some (pR 50 0), some (pR 80 0), some (pR 81 0), some (pI i), none, none, none] [] μ := by
  unfold lc5_wp at hk
  refine px_aload_n (i := 1) C dL_law_603 rfl rfl ?_
  refine px_aload_nw (i := 0) C dL_law_604 rfl rfl ?_
  refine px_iload (i := 5) C dL_law_605 rfl ?_
  refine px_iconst (v := (1 : Int32)) C dL_law_607 rfl ?_
  refine px_iadd C dL_law_608 ?_
  obtain ⟨o1, hk⟩ := hk
  refine px_sld C hX dL_law_609 o1 ?_
  refine px_aload_nw (i := 0) C dL_law_610 rfl rfl ?_
  refine px_iload (i := 5) C dL_law_611 rfl ?_
  refine px_iconst (v := (2 : Int32)) C dL_law_613 rfl ?_
  refine px_iadd C dL_law_614 ?_
  obtain ⟨o2, hk⟩ := hk
  refine px_sld C hX dL_law_615 o2 ?_
  refine px_if_eq (tgt := 623) C dL_law_616 (by decide) (fun c61 => ?_) (fun c61 => ?_)
  · replace hk := hk.1 c61
    refine px_iconst (v := (0 : Int32)) C dL_law_623 rfl ?_
    refine px_aload_n (i := 3) C dL_law_624 rfl rfl ?_
    refine px_callSH (h := 10) (rc' := A + 0) (rs' := B + 0) C (HR_le hHR (Nat.le_of_ble_eq_true rfl)) dL_law_625 (gw4 16 rfl rfl) ms_L_mark (L_mark_ok (PCx_l C) (PCx_I C) hk) rfl rfl (Nat.le_of_ble_eq_true rfl) (Nat.le_of_ble_eq_true rfl) (by omega) (by omega) ?_
    intro r4 μ3 hk
    refine px_istore (i := 6) C dL_law_628 (by decide) rfl ?_
    refine px_aload_n (i := 2) C dL_law_630 rfl rfl ?_
    refine px_aload_nw (i := 0) C dL_law_631 rfl rfl ?_
    refine px_iload (i := 5) C dL_law_632 rfl ?_
    refine px_iconst (v := (1 : Int32)) C dL_law_634 rfl ?_
    refine px_iadd C dL_law_635 ?_
    obtain ⟨o5, hk⟩ := hk
    refine px_sld C hX dL_law_636 o5 ?_
    refine px_aload_nw (i := 0) C dL_law_637 rfl rfl ?_
    refine px_iload (i := 5) C dL_law_638 rfl ?_
    refine px_iconst (v := (2 : Int32)) C dL_law_640 rfl ?_
    refine px_iadd C dL_law_641 ?_
    obtain ⟨o6, hk⟩ := hk
    refine px_sld C hX dL_law_642 o6 ?_
    refine px_if_eq (tgt := 650) C dL_law_643 (by decide) (fun c31 => ?_) (fun c31 => ?_)
    · replace hk := hk.1 c31
      refine px_iconst (v := (0 : Int32)) C dL_law_650 rfl ?_
      refine px_callVNi (h := 3) (rc' := A + 0) (rs' := B + 0) C (HR_le hHR (Nat.le_of_ble_eq_true rfl)) dL_law_651 (gw8 192 rfl rfl) mv_X9_mark (w9_mark_ok (PCx_l C) (PCx_I C) hk) rfl rfl rfl rfl rfl (Nat.le_of_ble_eq_true rfl) (Nat.le_of_ble_eq_true rfl) (by omega) (by omega) ?_
      intro r8 μ7 hk
      refine px_istore (i := 7) C dL_law_654 (by decide) rfl ?_
      refine px_aload_n (i := 2) C dL_law_656 rfl rfl ?_
      refine px_callVNi (h := 0) (rc' := A + 0) (rs' := B + 0) C (HR_le hHR (Nat.le_of_ble_eq_true rfl)) dL_law_657 (gw8 123 rfl rfl) mv_X9_thrown (w9_thrown_ok (PCx_l C) (PCx_I C) hk) rfl rfl rfl rfl rfl (Nat.le_of_ble_eq_true rfl) (Nat.le_of_ble_eq_true rfl) (by omega) (by omega) ?_
      intro r10 μ9 hk
      refine px_iload (i := 6) C dL_law_660 rfl ?_
      refine px_icmp_eq (tgt := 667) C dL_law_662 (by decide) (fun c18 => ?_) (fun c18 => ?_)
      · replace hk := hk.1 c18
        refine px_iload (i := 6) C dL_law_667 rfl ?_
        refine px_if_ne (tgt := 691) C dL_law_669 (by decide) (fun c17 => ?_) (fun c17 => ?_)
        · replace hk := hk.1 c17
          refine px_goto (tgt := 3473) C dL_law_691 (by decide) ?_
          exact PW_at (hN _ hk) (And.intro rfl (And.intro rfl (And.intro rfl (And.intro rfl (And.intro rfl (And.intro rfl trivial)))))) (by omega) (by omega)
        · replace hk := hk.2 c17
          refine px_aload_n (i := 3) C dL_law_672 rfl rfl ?_
          refine px_iconst (v := (0 : Int32)) C dL_law_673 rfl ?_
          obtain ⟨o11, hk⟩ := hk
          refine px_lald 5120 C dL_law_674 rfl rfl rfl rfl o11 ?_
          refine px_iload (i := 7) C dL_law_675 rfl ?_
          refine px_if_eq (tgt := 684) C dL_law_677 (by decide) (fun c16 => ?_) (fun c16 => ?_)
          · replace hk := hk.1 c16
            refine px_lconst (v := (0 : Int32)) C dL_law_684 rfl ?_
            obtain ⟨o12, hk⟩ := hk
            refine px_lcmp C dL_law_685 o12 ?_
            refine px_if_eq (tgt := 691) C dL_law_686 (by decide) (fun c13 => ?_) (fun c13 => ?_)
            · replace hk := hk.1 c13
              refine px_goto (tgt := 3473) C dL_law_691 (by decide) ?_
              exact PW_at (hN _ hk) (And.intro rfl (And.intro rfl (And.intro rfl (And.intro rfl (And.intro rfl (And.intro rfl trivial)))))) (by omega) (by omega)
            · replace hk := hk.2 c13
              refine px_iconst (v := (0 : Int32)) C dL_law_689 rfl ?_
              exact hk.elim
          · replace hk := hk.2 c16
            refine px_lconst (v := (1 : Int32)) C dL_law_680 rfl ?_
            refine px_goto (tgt := 685) C dL_law_681 (by decide) ?_
            obtain ⟨o14, hk⟩ := hk
            refine px_lcmp C dL_law_685 o14 ?_
            refine px_if_eq (tgt := 691) C dL_law_686 (by decide) (fun c15 => ?_) (fun c15 => ?_)
            · replace hk := hk.1 c15
              refine px_goto (tgt := 3473) C dL_law_691 (by decide) ?_
              exact PW_at (hN _ hk) (And.intro rfl (And.intro rfl (And.intro rfl (And.intro rfl (And.intro rfl (And.intro rfl trivial)))))) (by omega) (by omega)
            · replace hk := hk.2 c15
              refine px_iconst (v := (0 : Int32)) C dL_law_689 rfl ?_
              exact hk.elim
      · replace hk := hk.2 c18
        refine px_iconst (v := (0 : Int32)) C dL_law_665 rfl ?_
        exact hk.elim
    · replace hk := hk.2 c31
      refine px_iconst (v := (1 : Int32)) C dL_law_646 rfl ?_
      refine px_goto (tgt := 651) C dL_law_647 (by decide) ?_
      refine px_callVNi (h := 3) (rc' := A + 0) (rs' := B + 0) C (HR_le hHR (Nat.le_of_ble_eq_true rfl)) dL_law_651 (gw8 192 rfl rfl) mv_X9_mark (w9_mark_ok (PCx_l C) (PCx_I C) hk) rfl rfl rfl rfl rfl (Nat.le_of_ble_eq_true rfl) (Nat.le_of_ble_eq_true rfl) (by omega) (by omega) ?_
      intro r20 μ19 hk
      refine px_istore (i := 7) C dL_law_654 (by decide) rfl ?_
      refine px_aload_n (i := 2) C dL_law_656 rfl rfl ?_
      refine px_callVNi (h := 0) (rc' := A + 0) (rs' := B + 0) C (HR_le hHR (Nat.le_of_ble_eq_true rfl)) dL_law_657 (gw8 123 rfl rfl) mv_X9_thrown (w9_thrown_ok (PCx_l C) (PCx_I C) hk) rfl rfl rfl rfl rfl (Nat.le_of_ble_eq_true rfl) (Nat.le_of_ble_eq_true rfl) (by omega) (by omega) ?_
      intro r22 μ21 hk
      refine px_iload (i := 6) C dL_law_660 rfl ?_
      refine px_icmp_eq (tgt := 667) C dL_law_662 (by decide) (fun c30 => ?_) (fun c30 => ?_)
      · replace hk := hk.1 c30
        refine px_iload (i := 6) C dL_law_667 rfl ?_
        refine px_if_ne (tgt := 691) C dL_law_669 (by decide) (fun c29 => ?_) (fun c29 => ?_)
        · replace hk := hk.1 c29
          refine px_goto (tgt := 3473) C dL_law_691 (by decide) ?_
          exact PW_at (hN _ hk) (And.intro rfl (And.intro rfl (And.intro rfl (And.intro rfl (And.intro rfl (And.intro rfl trivial)))))) (by omega) (by omega)
        · replace hk := hk.2 c29
          refine px_aload_n (i := 3) C dL_law_672 rfl rfl ?_
          refine px_iconst (v := (0 : Int32)) C dL_law_673 rfl ?_
          obtain ⟨o23, hk⟩ := hk
          refine px_lald 5120 C dL_law_674 rfl rfl rfl rfl o23 ?_
          refine px_iload (i := 7) C dL_law_675 rfl ?_
          refine px_if_eq (tgt := 684) C dL_law_677 (by decide) (fun c28 => ?_) (fun c28 => ?_)
          · replace hk := hk.1 c28
            refine px_lconst (v := (0 : Int32)) C dL_law_684 rfl ?_
            obtain ⟨o24, hk⟩ := hk
            refine px_lcmp C dL_law_685 o24 ?_
            refine px_if_eq (tgt := 691) C dL_law_686 (by decide) (fun c25 => ?_) (fun c25 => ?_)
            · replace hk := hk.1 c25
              refine px_goto (tgt := 3473) C dL_law_691 (by decide) ?_
              exact PW_at (hN _ hk) (And.intro rfl (And.intro rfl (And.intro rfl (And.intro rfl (And.intro rfl (And.intro rfl trivial)))))) (by omega) (by omega)
            · replace hk := hk.2 c25
              refine px_iconst (v := (0 : Int32)) C dL_law_689 rfl ?_
              exact hk.elim
          · replace hk := hk.2 c28
            refine px_lconst (v := (1 : Int32)) C dL_law_680 rfl ?_
            refine px_goto (tgt := 685) C dL_law_681 (by decide) ?_
            obtain ⟨o26, hk⟩ := hk
            refine px_lcmp C dL_law_685 o26 ?_
            refine px_if_eq (tgt := 691) C dL_law_686 (by decide) (fun c27 => ?_) (fun c27 => ?_)
            · replace hk := hk.1 c27
              refine px_goto (tgt := 3473) C dL_law_691 (by decide) ?_
              exact PW_at (hN _ hk) (And.intro rfl (And.intro rfl (And.intro rfl (And.intro rfl (And.intro rfl (And.intro rfl trivial)))))) (by omega) (by omega)
            · replace hk := hk.2 c27
              refine px_iconst (v := (0 : Int32)) C dL_law_689 rfl ?_
              exact hk.elim
      · replace hk := hk.2 c30
        refine px_iconst (v := (0 : Int32)) C dL_law_665 rfl ?_
        exact hk.elim
  · replace hk := hk.2 c61
    refine px_iconst (v := (1 : Int32)) C dL_law_619 rfl ?_
    refine px_goto (tgt := 624) C dL_law_620 (by decide) ?_
    refine px_aload_n (i := 3) C dL_law_624 rfl rfl ?_
    refine px_callSH (h := 10) (rc' := A + 0) (rs' := B + 0) C (HR_le hHR (Nat.le_of_ble_eq_true rfl)) dL_law_625 (gw4 16 rfl rfl) ms_L_mark (L_mark_ok (PCx_l C) (PCx_I C) hk) rfl rfl (Nat.le_of_ble_eq_true rfl) (Nat.le_of_ble_eq_true rfl) (by omega) (by omega) ?_
    intro r33 μ32 hk
    refine px_istore (i := 6) C dL_law_628 (by decide) rfl ?_
    refine px_aload_n (i := 2) C dL_law_630 rfl rfl ?_
    refine px_aload_nw (i := 0) C dL_law_631 rfl rfl ?_
    refine px_iload (i := 5) C dL_law_632 rfl ?_
    refine px_iconst (v := (1 : Int32)) C dL_law_634 rfl ?_
    refine px_iadd C dL_law_635 ?_
    obtain ⟨o34, hk⟩ := hk
    refine px_sld C hX dL_law_636 o34 ?_
    refine px_aload_nw (i := 0) C dL_law_637 rfl rfl ?_
    refine px_iload (i := 5) C dL_law_638 rfl ?_
    refine px_iconst (v := (2 : Int32)) C dL_law_640 rfl ?_
    refine px_iadd C dL_law_641 ?_
    obtain ⟨o35, hk⟩ := hk
    refine px_sld C hX dL_law_642 o35 ?_
    refine px_if_eq (tgt := 650) C dL_law_643 (by decide) (fun c60 => ?_) (fun c60 => ?_)
    · replace hk := hk.1 c60
      refine px_iconst (v := (0 : Int32)) C dL_law_650 rfl ?_
      refine px_callVNi (h := 3) (rc' := A + 0) (rs' := B + 0) C (HR_le hHR (Nat.le_of_ble_eq_true rfl)) dL_law_651 (gw8 192 rfl rfl) mv_X9_mark (w9_mark_ok (PCx_l C) (PCx_I C) hk) rfl rfl rfl rfl rfl (Nat.le_of_ble_eq_true rfl) (Nat.le_of_ble_eq_true rfl) (by omega) (by omega) ?_
      intro r37 μ36 hk
      refine px_istore (i := 7) C dL_law_654 (by decide) rfl ?_
      refine px_aload_n (i := 2) C dL_law_656 rfl rfl ?_
      refine px_callVNi (h := 0) (rc' := A + 0) (rs' := B + 0) C (HR_le hHR (Nat.le_of_ble_eq_true rfl)) dL_law_657 (gw8 123 rfl rfl) mv_X9_thrown (w9_thrown_ok (PCx_l C) (PCx_I C) hk) rfl rfl rfl rfl rfl (Nat.le_of_ble_eq_true rfl) (Nat.le_of_ble_eq_true rfl) (by omega) (by omega) ?_
      intro r39 μ38 hk
      refine px_iload (i := 6) C dL_law_660 rfl ?_
      refine px_icmp_eq (tgt := 667) C dL_law_662 (by decide) (fun c47 => ?_) (fun c47 => ?_)
      · replace hk := hk.1 c47
        refine px_iload (i := 6) C dL_law_667 rfl ?_
        refine px_if_ne (tgt := 691) C dL_law_669 (by decide) (fun c46 => ?_) (fun c46 => ?_)
        · replace hk := hk.1 c46
          refine px_goto (tgt := 3473) C dL_law_691 (by decide) ?_
          exact PW_at (hN _ hk) (And.intro rfl (And.intro rfl (And.intro rfl (And.intro rfl (And.intro rfl (And.intro rfl trivial)))))) (by omega) (by omega)
        · replace hk := hk.2 c46
          refine px_aload_n (i := 3) C dL_law_672 rfl rfl ?_
          refine px_iconst (v := (0 : Int32)) C dL_law_673 rfl ?_
          obtain ⟨o40, hk⟩ := hk
          refine px_lald 5120 C dL_law_674 rfl rfl rfl rfl o40 ?_
          refine px_iload (i := 7) C dL_law_675 rfl ?_
          refine px_if_eq (tgt := 684) C dL_law_677 (by decide) (fun c45 => ?_) (fun c45 => ?_)
          · replace hk := hk.1 c45
            refine px_lconst (v := (0 : Int32)) C dL_law_684 rfl ?_
            obtain ⟨o41, hk⟩ := hk
            refine px_lcmp C dL_law_685 o41 ?_
            refine px_if_eq (tgt := 691) C dL_law_686 (by decide) (fun c42 => ?_) (fun c42 => ?_)
            · replace hk := hk.1 c42
              refine px_goto (tgt := 3473) C dL_law_691 (by decide) ?_
              exact PW_at (hN _ hk) (And.intro rfl (And.intro rfl (And.intro rfl (And.intro rfl (And.intro rfl (And.intro rfl trivial)))))) (by omega) (by omega)
            · replace hk := hk.2 c42
              refine px_iconst (v := (0 : Int32)) C dL_law_689 rfl ?_
              exact hk.elim
          · replace hk := hk.2 c45
            refine px_lconst (v := (1 : Int32)) C dL_law_680 rfl ?_
            refine px_goto (tgt := 685) C dL_law_681 (by decide) ?_
            obtain ⟨o43, hk⟩ := hk
            refine px_lcmp C dL_law_685 o43 ?_
            refine px_if_eq (tgt := 691) C dL_law_686 (by decide) (fun c44 => ?_) (fun c44 => ?_)
            · replace hk := hk.1 c44
              refine px_goto (tgt := 3473) C dL_law_691 (by decide) ?_
              exact PW_at (hN _ hk) (And.intro rfl (And.intro rfl (And.intro rfl (And.intro rfl (And.intro rfl (And.intro rfl trivial)))))) (by omega) (by omega)
            · replace hk := hk.2 c44
              refine px_iconst (v := (0 : Int32)) C dL_law_689 rfl ?_
              exact hk.elim
      · replace hk := hk.2 c47
        refine px_iconst (v := (0 : Int32)) C dL_law_665 rfl ?_
        exact hk.elim
    · replace hk := hk.2 c60
      refine px_iconst (v := (1 : Int32)) C dL_law_646 rfl ?_
      refine px_goto (tgt := 651) C dL_law_647 (by decide) ?_
      refine px_callVNi (h := 3) (rc' := A + 0) (rs' := B + 0) C (HR_le hHR (Nat.le_of_ble_eq_true rfl)) dL_law_651 (gw8 192 rfl rfl) mv_X9_mark (w9_mark_ok (PCx_l C) (PCx_I C) hk) rfl rfl rfl rfl rfl (Nat.le_of_ble_eq_true rfl) (Nat.le_of_ble_eq_true rfl) (by omega) (by omega) ?_
      intro r49 μ48 hk
      refine px_istore (i := 7) C dL_law_654 (by decide) rfl ?_
      refine px_aload_n (i := 2) C dL_law_656 rfl rfl ?_
      refine px_callVNi (h := 0) (rc' := A + 0) (rs' := B + 0) C (HR_le hHR (Nat.le_of_ble_eq_true rfl)) dL_law_657 (gw8 123 rfl rfl) mv_X9_thrown (w9_thrown_ok (PCx_l C) (PCx_I C) hk) rfl rfl rfl rfl rfl (Nat.le_of_ble_eq_true rfl) (Nat.le_of_ble_eq_true rfl) (by omega) (by omega) ?_
      intro r51 μ50 hk
      refine px_iload (i := 6) C dL_law_660 rfl ?_
      refine px_icmp_eq (tgt := 667) C dL_law_662 (by decide) (fun c59 => ?_) (fun c59 => ?_)
      · replace hk := hk.1 c59
        refine px_iload (i := 6) C dL_law_667 rfl ?_
        refine px_if_ne (tgt := 691) C dL_law_669 (by decide) (fun c58 => ?_) (fun c58 => ?_)
        · replace hk := hk.1 c58
          refine px_goto (tgt := 3473) C dL_law_691 (by decide) ?_
          exact PW_at (hN _ hk) (And.intro rfl (And.intro rfl (And.intro rfl (And.intro rfl (And.intro rfl (And.intro rfl trivial)))))) (by omega) (by omega)
        · replace hk := hk.2 c58
          refine px_aload_n (i := 3) C dL_law_672 rfl rfl ?_
          refine px_iconst (v := (0 : Int32)) C dL_law_673 rfl ?_
          obtain ⟨o52, hk⟩ := hk
          refine px_lald 5120 C dL_law_674 rfl rfl rfl rfl o52 ?_
          refine px_iload (i := 7) C dL_law_675 rfl ?_
          refine px_if_eq (tgt := 684) C dL_law_677 (by decide) (fun c57 => ?_) (fun c57 => ?_)
          · replace hk := hk.1 c57
            refine px_lconst (v := (0 : Int32)) C dL_law_684 rfl ?_
            obtain ⟨o53, hk⟩ := hk
            refine px_lcmp C dL_law_685 o53 ?_
            refine px_if_eq (tgt := 691) C dL_law_686 (by decide) (fun c54 => ?_) (fun c54 => ?_)
            · replace hk := hk.1 c54
              refine px_goto (tgt := 3473) C dL_law_691 (by decide) ?_
              exact PW_at (hN _ hk) (And.intro rfl (And.intro rfl (And.intro rfl (And.intro rfl (And.intro rfl (And.intro rfl trivial)))))) (by omega) (by omega)
            · replace hk := hk.2 c54
              refine px_iconst (v := (0 : Int32)) C dL_law_689 rfl ?_
              exact hk.elim
          · replace hk := hk.2 c57
            refine px_lconst (v := (1 : Int32)) C dL_law_680 rfl ?_
            refine px_goto (tgt := 685) C dL_law_681 (by decide) ?_
            obtain ⟨o55, hk⟩ := hk
            refine px_lcmp C dL_law_685 o55 ?_
            refine px_if_eq (tgt := 691) C dL_law_686 (by decide) (fun c56 => ?_) (fun c56 => ?_)
            · replace hk := hk.1 c56
              refine px_goto (tgt := 3473) C dL_law_691 (by decide) ?_
              exact PW_at (hN _ hk) (And.intro rfl (And.intro rfl (And.intro rfl (And.intro rfl (And.intro rfl (And.intro rfl trivial)))))) (by omega) (by omega)
            · replace hk := hk.2 c56
              refine px_iconst (v := (0 : Int32)) C dL_law_689 rfl ?_
              exact hk.elim
      · replace hk := hk.2 c59
        refine px_iconst (v := (0 : Int32)) C dL_law_665 rfl ?_
        exact hk.elim
theorem dL_law_694 : decode cL_law 694 = .ok (.aload_n 1, 1) := by decide +kernel
theorem dL_law_695 : decode cL_law 695 = .ok (.invokevirtual 205, 3) := by decide +kernel
theorem dL_law_698 : decode cL_law 698 = .ok (.aload_n 2, 1) := by decide +kernel
theorem dL_law_699 : decode cL_law 699 = .ok (.invokevirtual 208, 3) := by decide +kernel
theorem dL_law_702 : decode cL_law 702 = .ok (.if_icmp .eq 2771, 3) := by decide +kernel
theorem dL_law_705 : decode cL_law 705 = .ok (.iconst 0, 1) := by decide +kernel
theorem dL_law_706 : decode cL_law 706 = .ok (.ireturn, 1) := by decide +kernel
set_option maxRecDepth 100000 in
set_option maxHeartbeats 4000000 in
theorem lc6_ok {G : GT} {b L A B : Nat} {xs : Nat → Int32} {μ : Mem} {i : Int32} {N : Mem → Prop} (C : PCx G cL_law 9 RL) (hX : Scr G b L xs) (hHR : HR G 1) (hN : ∀ μ : Mem, N μ → PW G A B 3473 [some (pW (.ref b)), some (pR 40 0), some (pR 50 0), some (pR 80 0), some (pR 81 0), some (pI i), none, none, none] [] μ) (hk : lc6_wp xs L μ i N) : PW G (A + 0) (B + 0) 694 [some (pW (.ref b)), some (pR 40 0), some (pR 50 0), some (pR 80 0), some (pR 81 0), some (pI i), none, none, none] [] μ := by
  unfold lc6_wp at hk
  refine px_aload_n (i := 1) C dL_law_694 rfl rfl ?_
  refine px_callVNi (h := 0) (rc' := A + 0) (rs' := B + 0) C (HR_le hHR (Nat.le_of_ble_eq_true rfl)) dL_law_695 (gw2 157 rfl rfl) mv_X8_spanCount (w8_spanCount_ok (PCx_l C) (PCx_I C) hk) rfl rfl rfl rfl rfl (Nat.le_of_ble_eq_true rfl) (Nat.le_of_ble_eq_true rfl) (by omega) (by omega) ?_
  intro r2 μ1 hk
  refine px_aload_n (i := 2) C dL_law_698 rfl rfl ?_
  refine px_callVNi (h := 0) (rc' := A + 0) (rs' := B + 0) C (HR_le hHR (Nat.le_of_ble_eq_true rfl)) dL_law_699 (gw8 196 rfl rfl) mv_X9_spanCount (w9_spanCount_ok (PCx_l C) (PCx_I C) hk) rfl rfl rfl rfl rfl (Nat.le_of_ble_eq_true rfl) (Nat.le_of_ble_eq_true rfl) (by omega) (by omega) ?_
  intro r4 μ3 hk
  refine px_icmp_eq (tgt := 3473) C dL_law_702 (by decide) (fun c5 => ?_) (fun c5 => ?_)
  · replace hk := hk.1 c5
    exact PW_at (hN _ hk) (And.intro rfl (And.intro rfl (And.intro rfl (And.intro rfl (And.intro rfl (And.intro rfl trivial)))))) (by omega) (by omega)
  · replace hk := hk.2 c5
    refine px_iconst (v := (0 : Int32)) C dL_law_705 rfl ?_
    exact hk.elim
theorem dL_law_707 : decode cL_law 707 = .ok (.aload_n 1, 1) := by decide +kernel
theorem dL_law_708 : decode cL_law 708 = .ok (.aload_n 0, 1) := by decide +kernel
theorem dL_law_709 : decode cL_law 709 = .ok (.iload 5, 2) := by decide +kernel
theorem dL_law_711 : decode cL_law 711 = .ok (.iconst 1, 1) := by decide +kernel
theorem dL_law_712 : decode cL_law 712 = .ok (.iadd, 1) := by decide +kernel
theorem dL_law_713 : decode cL_law 713 = .ok (.iaload, 1) := by decide +kernel
theorem dL_law_714 : decode cL_law 714 = .ok (.aload_n 0, 1) := by decide +kernel
theorem dL_law_715 : decode cL_law 715 = .ok (.iload 5, 2) := by decide +kernel
theorem dL_law_717 : decode cL_law 717 = .ok (.iconst 2, 1) := by decide +kernel
theorem dL_law_718 : decode cL_law 718 = .ok (.iadd, 1) := by decide +kernel
theorem dL_law_719 : decode cL_law 719 = .ok (.iaload, 1) := by decide +kernel
theorem dL_law_720 : decode cL_law 720 = .ok (.aload_n 3, 1) := by decide +kernel
theorem dL_law_721 : decode cL_law 721 = .ok (.invokestatic 209, 3) := by decide +kernel
theorem dL_law_724 : decode cL_law 724 = .ok (.istore 6, 2) := by decide +kernel
theorem dL_law_726 : decode cL_law 726 = .ok (.aload_n 2, 1) := by decide +kernel
theorem dL_law_727 : decode cL_law 727 = .ok (.aload_n 0, 1) := by decide +kernel
theorem dL_law_728 : decode cL_law 728 = .ok (.iload 5, 2) := by decide +kernel
theorem dL_law_730 : decode cL_law 730 = .ok (.iconst 1, 1) := by decide +kernel
theorem dL_law_731 : decode cL_law 731 = .ok (.iadd, 1) := by decide +kernel
theorem dL_law_732 : decode cL_law 732 = .ok (.iaload, 1) := by decide +kernel
theorem dL_law_733 : decode cL_law 733 = .ok (.aload_n 0, 1) := by decide +kernel
theorem dL_law_734 : decode cL_law 734 = .ok (.iload 5, 2) := by decide +kernel
theorem dL_law_736 : decode cL_law 736 = .ok (.iconst 2, 1) := by decide +kernel
theorem dL_law_737 : decode cL_law 737 = .ok (.iadd, 1) := by decide +kernel
theorem dL_law_738 : decode cL_law 738 = .ok (.iaload, 1) := by decide +kernel
theorem dL_law_739 : decode cL_law 739 = .ok (.invokevirtual 211, 3) := by decide +kernel
theorem dL_law_742 : decode cL_law 742 = .ok (.istore 7, 2) := by decide +kernel
theorem dL_law_744 : decode cL_law 744 = .ok (.aload_n 2, 1) := by decide +kernel
theorem dL_law_745 : decode cL_law 745 = .ok (.invokevirtual 186, 3) := by decide +kernel
theorem dL_law_748 : decode cL_law 748 = .ok (.iload 6, 2) := by decide +kernel
theorem dL_law_750 : decode cL_law 750 = .ok (.if_icmp .eq 5, 3) := by decide +kernel
theorem dL_law_753 : decode cL_law 753 = .ok (.iconst 0, 1) := by decide +kernel
theorem dL_law_754 : decode cL_law 754 = .ok (.ireturn, 1) := by decide +kernel
theorem dL_law_755 : decode cL_law 755 = .ok (.iload 6, 2) := by decide +kernel
theorem dL_law_757 : decode cL_law 757 = .ok (.ifCond .ne 15, 3) := by decide +kernel
theorem dL_law_760 : decode cL_law 760 = .ok (.aload_n 3, 1) := by decide +kernel
theorem dL_law_761 : decode cL_law 761 = .ok (.iconst 0, 1) := by decide +kernel
theorem dL_law_762 : decode cL_law 762 = .ok (.laload, 1) := by decide +kernel
theorem dL_law_763 : decode cL_law 763 = .ok (.iload 7, 2) := by decide +kernel
theorem dL_law_765 : decode cL_law 765 = .ok (.i2l, 1) := by decide +kernel
theorem dL_law_766 : decode cL_law 766 = .ok (.lcmp, 1) := by decide +kernel
theorem dL_law_767 : decode cL_law 767 = .ok (.ifCond .eq 5, 3) := by decide +kernel
theorem dL_law_770 : decode cL_law 770 = .ok (.iconst 0, 1) := by decide +kernel
theorem dL_law_771 : decode cL_law 771 = .ok (.ireturn, 1) := by decide +kernel
theorem dL_law_772 : decode cL_law 772 = .ok (.goto 2701, 3) := by decide +kernel
set_option maxRecDepth 100000 in
set_option maxHeartbeats 4000000 in
theorem lc7_ok {G : GT} {b L A B : Nat} {xs : Nat → Int32} {μ : Mem} {i : Int32} {N : Mem → Prop} (C : PCx G cL_law 9 RL) (hX : Scr G b L xs) (hHR : HR G 11) (hN : ∀ μ : Mem, N μ → PW G A B 3473 [some (pW (.ref b)), some (pR 40 0), some (pR 50 0), some (pR 80 0), some (pR 81 0), some (pI i), none, none, none] [] μ) (hk : lc7_wp xs L μ i N) : PW G (A + 2) (B + 12) 707 [some (pW (.ref b)), some (pR 40 0), some (pR 50 0), some (pR 80 0), some (pR 81 0), some (pI i), none, none, none] [] μ := by
  unfold lc7_wp at hk
  refine px_aload_n (i := 1) C dL_law_707 rfl rfl ?_
  refine px_aload_nw (i := 0) C dL_law_708 rfl rfl ?_
  refine px_iload (i := 5) C dL_law_709 rfl ?_
  refine px_iconst (v := (1 : Int32)) C dL_law_711 rfl ?_
  refine px_iadd C dL_law_712 ?_
  obtain ⟨o1, hk⟩ := hk
  refine px_sld C hX dL_law_713 o1 ?_
  refine px_aload_nw (i := 0) C dL_law_714 rfl rfl ?_
  refine px_iload (i := 5) C dL_law_715 rfl ?_
  refine px_iconst (v := (2 : Int32)) C dL_law_717 rfl ?_
  refine px_iadd C dL_law_718 ?_
  obtain ⟨o2, hk⟩ := hk
  refine px_sld C hX dL_law_719 o2 ?_
  refine px_aload_n (i := 3) C dL_law_720 rfl rfl ?_
  refine px_callSH (h := 10) (rc' := A + 0) (rs' := B + 0) C (HR_le hHR (Nat.le_of_ble_eq_true rfl)) dL_law_721 (gw4 25 rfl rfl) ms_L_span (L_span_ok (PCx_l C) (PCx_I C) hk) rfl rfl (Nat.le_of_ble_eq_true rfl) (Nat.le_of_ble_eq_true rfl) (by omega) (by omega) ?_
  intro r4 μ3 hk
  refine px_istore (i := 6) C dL_law_724 (by decide) rfl ?_
  refine px_aload_n (i := 2) C dL_law_726 rfl rfl ?_
  refine px_aload_nw (i := 0) C dL_law_727 rfl rfl ?_
  refine px_iload (i := 5) C dL_law_728 rfl ?_
  refine px_iconst (v := (1 : Int32)) C dL_law_730 rfl ?_
  refine px_iadd C dL_law_731 ?_
  obtain ⟨o5, hk⟩ := hk
  refine px_sld C hX dL_law_732 o5 ?_
  refine px_aload_nw (i := 0) C dL_law_733 rfl rfl ?_
  refine px_iload (i := 5) C dL_law_734 rfl ?_
  refine px_iconst (v := (2 : Int32)) C dL_law_736 rfl ?_
  refine px_iadd C dL_law_737 ?_
  obtain ⟨o6, hk⟩ := hk
  refine px_sld C hX dL_law_738 o6 ?_
  refine px_callVNi (h := 3) (rc' := A + 0) (rs' := B + 0) C (HR_le hHR (Nat.le_of_ble_eq_true rfl)) dL_law_739 (gw8 200 rfl rfl) mv_X9_span (w9_span_ok (PCx_l C) (PCx_I C) hk) rfl rfl rfl rfl rfl (Nat.le_of_ble_eq_true rfl) (Nat.le_of_ble_eq_true rfl) (by omega) (by omega) ?_
  intro r8 μ7 hk
  refine px_istore (i := 7) C dL_law_742 (by decide) rfl ?_
  refine px_aload_n (i := 2) C dL_law_744 rfl rfl ?_
  refine px_callVNi (h := 0) (rc' := A + 0) (rs' := B + 0) C (HR_le hHR (Nat.le_of_ble_eq_true rfl)) dL_law_745 (gw8 123 rfl rfl) mv_X9_thrown (w9_thrown_ok (PCx_l C) (PCx_I C) hk) rfl rfl rfl rfl rfl (Nat.le_of_ble_eq_true rfl) (Nat.le_of_ble_eq_true rfl) (by omega) (by omega) ?_
  intro r10 μ9 hk
  refine px_iload (i := 6) C dL_law_748 rfl ?_
  refine px_icmp_eq (tgt := 755) C dL_law_750 (by decide) (fun c15 => ?_) (fun c15 => ?_)
  · replace hk := hk.1 c15
    refine px_iload (i := 6) C dL_law_755 rfl ?_
    refine px_if_ne (tgt := 772) C dL_law_757 (by decide) (fun c14 => ?_) (fun c14 => ?_)
    · replace hk := hk.1 c14
      refine px_goto (tgt := 3473) C dL_law_772 (by decide) ?_
      exact PW_at (hN _ hk) (And.intro rfl (And.intro rfl (And.intro rfl (And.intro rfl (And.intro rfl (And.intro rfl trivial)))))) (by omega) (by omega)
    · replace hk := hk.2 c14
      refine px_aload_n (i := 3) C dL_law_760 rfl rfl ?_
      refine px_iconst (v := (0 : Int32)) C dL_law_761 rfl ?_
      obtain ⟨o11, hk⟩ := hk
      refine px_lald 5120 C dL_law_762 rfl rfl rfl rfl o11 ?_
      refine px_iload (i := 7) C dL_law_763 rfl ?_
      refine px_i2l C dL_law_765 ?_
      obtain ⟨o12, hk⟩ := hk
      refine px_lcmp C dL_law_766 o12 ?_
      refine px_if_eq (tgt := 772) C dL_law_767 (by decide) (fun c13 => ?_) (fun c13 => ?_)
      · replace hk := hk.1 c13
        refine px_goto (tgt := 3473) C dL_law_772 (by decide) ?_
        exact PW_at (hN _ hk) (And.intro rfl (And.intro rfl (And.intro rfl (And.intro rfl (And.intro rfl (And.intro rfl trivial)))))) (by omega) (by omega)
      · replace hk := hk.2 c13
        refine px_iconst (v := (0 : Int32)) C dL_law_770 rfl ?_
        exact hk.elim
  · replace hk := hk.2 c15
    refine px_iconst (v := (0 : Int32)) C dL_law_753 rfl ?_
    exact hk.elim
theorem dL_law_775 : decode cL_law 775 = .ok (.aload_n 1, 1) := by decide +kernel
theorem dL_law_776 : decode cL_law 776 = .ok (.aload_n 0, 1) := by decide +kernel
theorem dL_law_777 : decode cL_law 777 = .ok (.iload 5, 2) := by decide +kernel
theorem dL_law_779 : decode cL_law 779 = .ok (.iconst 1, 1) := by decide +kernel
theorem dL_law_780 : decode cL_law 780 = .ok (.iadd, 1) := by decide +kernel
theorem dL_law_781 : decode cL_law 781 = .ok (.iaload, 1) := by decide +kernel
theorem dL_law_782 : decode cL_law 782 = .ok (.aload_n 3, 1) := by decide +kernel
theorem dL_law_783 : decode cL_law 783 = .ok (.invokestatic 212, 3) := by decide +kernel
theorem dL_law_786 : decode cL_law 786 = .ok (.istore 6, 2) := by decide +kernel
theorem dL_law_788 : decode cL_law 788 = .ok (.aload_n 2, 1) := by decide +kernel
theorem dL_law_789 : decode cL_law 789 = .ok (.aload_n 0, 1) := by decide +kernel
theorem dL_law_790 : decode cL_law 790 = .ok (.iload 5, 2) := by decide +kernel
theorem dL_law_792 : decode cL_law 792 = .ok (.iconst 1, 1) := by decide +kernel
theorem dL_law_793 : decode cL_law 793 = .ok (.iadd, 1) := by decide +kernel
theorem dL_law_794 : decode cL_law 794 = .ok (.iaload, 1) := by decide +kernel
theorem dL_law_795 : decode cL_law 795 = .ok (.invokevirtual 214, 3) := by decide +kernel
theorem dL_law_798 : decode cL_law 798 = .ok (.istore 7, 2) := by decide +kernel
theorem dL_law_800 : decode cL_law 800 = .ok (.aload_n 2, 1) := by decide +kernel
theorem dL_law_801 : decode cL_law 801 = .ok (.invokevirtual 186, 3) := by decide +kernel
theorem dL_law_804 : decode cL_law 804 = .ok (.iload 6, 2) := by decide +kernel
theorem dL_law_806 : decode cL_law 806 = .ok (.if_icmp .eq 5, 3) := by decide +kernel
theorem dL_law_809 : decode cL_law 809 = .ok (.iconst 0, 1) := by decide +kernel
theorem dL_law_810 : decode cL_law 810 = .ok (.ireturn, 1) := by decide +kernel
theorem dL_law_811 : decode cL_law 811 = .ok (.iload 6, 2) := by decide +kernel
theorem dL_law_813 : decode cL_law 813 = .ok (.ifCond .ne 15, 3) := by decide +kernel
theorem dL_law_816 : decode cL_law 816 = .ok (.aload_n 3, 1) := by decide +kernel
theorem dL_law_817 : decode cL_law 817 = .ok (.iconst 0, 1) := by decide +kernel
theorem dL_law_818 : decode cL_law 818 = .ok (.laload, 1) := by decide +kernel
theorem dL_law_819 : decode cL_law 819 = .ok (.iload 7, 2) := by decide +kernel
theorem dL_law_821 : decode cL_law 821 = .ok (.i2l, 1) := by decide +kernel
theorem dL_law_822 : decode cL_law 822 = .ok (.lcmp, 1) := by decide +kernel
theorem dL_law_823 : decode cL_law 823 = .ok (.ifCond .eq 5, 3) := by decide +kernel
theorem dL_law_826 : decode cL_law 826 = .ok (.iconst 0, 1) := by decide +kernel
theorem dL_law_827 : decode cL_law 827 = .ok (.ireturn, 1) := by decide +kernel
theorem dL_law_828 : decode cL_law 828 = .ok (.goto 2645, 3) := by decide +kernel
set_option maxRecDepth 100000 in
set_option maxHeartbeats 4000000 in
theorem lc8_ok {G : GT} {b L A B : Nat} {xs : Nat → Int32} {μ : Mem} {i : Int32} {N : Mem → Prop} (C : PCx G cL_law 9 RL) (hX : Scr G b L xs) (hHR : HR G 11) (hN : ∀ μ : Mem, N μ → PW G A B 3473 [some (pW (.ref b)), some (pR 40 0), some (pR 50 0), some (pR 80 0), some (pR 81 0), some (pI i), none, none, none] [] μ) (hk : lc8_wp xs L μ i N) : PW G (A + 1) (B + 6) 775 [some (pW (.ref b)), some (pR 40 0), some (pR 50 0), some (pR 80 0), some (pR 81 0), some (pI i), none, none, none] [] μ := by
  unfold lc8_wp at hk
  refine px_aload_n (i := 1) C dL_law_775 rfl rfl ?_
  refine px_aload_nw (i := 0) C dL_law_776 rfl rfl ?_
  refine px_iload (i := 5) C dL_law_777 rfl ?_
  refine px_iconst (v := (1 : Int32)) C dL_law_779 rfl ?_
  refine px_iadd C dL_law_780 ?_
  obtain ⟨o1, hk⟩ := hk
  refine px_sld C hX dL_law_781 o1 ?_
  refine px_aload_n (i := 3) C dL_law_782 rfl rfl ?_
  refine px_callSH (h := 10) (rc' := A + 0) (rs' := B + 0) C (HR_le hHR (Nat.le_of_ble_eq_true rfl)) dL_law_783 (gw4 33 rfl rfl) ms_L_offset (L_offset_ok (PCx_l C) (PCx_I C) hk) rfl rfl (Nat.le_of_ble_eq_true rfl) (Nat.le_of_ble_eq_true rfl) (by omega) (by omega) ?_
  intro r3 μ2 hk
  refine px_istore (i := 6) C dL_law_786 (by decide) rfl ?_
  refine px_aload_n (i := 2) C dL_law_788 rfl rfl ?_
  refine px_aload_nw (i := 0) C dL_law_789 rfl rfl ?_
  refine px_iload (i := 5) C dL_law_790 rfl ?_
  refine px_iconst (v := (1 : Int32)) C dL_law_792 rfl ?_
  refine px_iadd C dL_law_793 ?_
  obtain ⟨o4, hk⟩ := hk
  refine px_sld C hX dL_law_794 o4 ?_
  refine px_callVNi (h := 6) (rc' := A + 0) (rs' := B + 0) C (HR_le hHR (Nat.le_of_ble_eq_true rfl)) dL_law_795 (gw8 204 rfl rfl) mv_X9_offset (w9_offset_ok (PCx_l C) (PCx_I C) hk) rfl rfl rfl rfl rfl (Nat.le_of_ble_eq_true rfl) (Nat.le_of_ble_eq_true rfl) (by omega) (by omega) ?_
  intro r6 μ5 hk
  refine px_istore (i := 7) C dL_law_798 (by decide) rfl ?_
  refine px_aload_n (i := 2) C dL_law_800 rfl rfl ?_
  refine px_callVNi (h := 0) (rc' := A + 0) (rs' := B + 0) C (HR_le hHR (Nat.le_of_ble_eq_true rfl)) dL_law_801 (gw8 123 rfl rfl) mv_X9_thrown (w9_thrown_ok (PCx_l C) (PCx_I C) hk) rfl rfl rfl rfl rfl (Nat.le_of_ble_eq_true rfl) (Nat.le_of_ble_eq_true rfl) (by omega) (by omega) ?_
  intro r8 μ7 hk
  refine px_iload (i := 6) C dL_law_804 rfl ?_
  refine px_icmp_eq (tgt := 811) C dL_law_806 (by decide) (fun c13 => ?_) (fun c13 => ?_)
  · replace hk := hk.1 c13
    refine px_iload (i := 6) C dL_law_811 rfl ?_
    refine px_if_ne (tgt := 828) C dL_law_813 (by decide) (fun c12 => ?_) (fun c12 => ?_)
    · replace hk := hk.1 c12
      refine px_goto (tgt := 3473) C dL_law_828 (by decide) ?_
      exact PW_at (hN _ hk) (And.intro rfl (And.intro rfl (And.intro rfl (And.intro rfl (And.intro rfl (And.intro rfl trivial)))))) (by omega) (by omega)
    · replace hk := hk.2 c12
      refine px_aload_n (i := 3) C dL_law_816 rfl rfl ?_
      refine px_iconst (v := (0 : Int32)) C dL_law_817 rfl ?_
      obtain ⟨o9, hk⟩ := hk
      refine px_lald 5120 C dL_law_818 rfl rfl rfl rfl o9 ?_
      refine px_iload (i := 7) C dL_law_819 rfl ?_
      refine px_i2l C dL_law_821 ?_
      obtain ⟨o10, hk⟩ := hk
      refine px_lcmp C dL_law_822 o10 ?_
      refine px_if_eq (tgt := 828) C dL_law_823 (by decide) (fun c11 => ?_) (fun c11 => ?_)
      · replace hk := hk.1 c11
        refine px_goto (tgt := 3473) C dL_law_828 (by decide) ?_
        exact PW_at (hN _ hk) (And.intro rfl (And.intro rfl (And.intro rfl (And.intro rfl (And.intro rfl (And.intro rfl trivial)))))) (by omega) (by omega)
      · replace hk := hk.2 c11
        refine px_iconst (v := (0 : Int32)) C dL_law_826 rfl ?_
        exact hk.elim
  · replace hk := hk.2 c13
    refine px_iconst (v := (0 : Int32)) C dL_law_809 rfl ?_
    exact hk.elim
