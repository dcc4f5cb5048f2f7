section ARM
variable {h : eg_H} {σ : eg_S} {tm i L g : Nat} {xs : Nat → Int32} {nm : String}
theorem arm_0 (LL : LI h σ B00 tm) (ht : tm < 1000) (hi : i + 6 ≤ L) (hL : L ≤ 3072) (kk : ∀ (h' : eg_H) (σ' : eg_S), LI h' σ' B00 (tm + 1) → eg_AW (RLw, cL_law, 7, 460, some (L, xs, g), nm, ret) lz_Z 3000 70000 h00 2717 [(4, .int (nI i)), (3, .ref 94), (2, .ref 54), (1, .ref 16), (0, .ref 0)] [] h') : eg_AW (RLw, cL_law, 7, 460, some (L, xs, g), nm, ret) lz_Z 3000 70000 h00 264 [(4, .int (nI i)), (3, .ref 94), (2, .ref 54), (1, .ref 16), (0, .ref 0)] [] h := by
  have ld1 := ld_1 hi hL
  have ld2 := ld_2 hi hL
  have ld3 := ld_3 hi hL
  have ld4 := ld_4 hi hL
  have ld5 := ld_5 hi hL
  refine eg_aload_n (i := 1) 3 dL_law_264 rfl rfl ?_
  refine eg_aload_n (i := 0) 4 dL_law_265 rfl rfl ?_
  refine eg_iload (i := 4) 0 dL_law_266 rfl ?_
  refine eg_iconst (v := (1 : Int32)) dL_law_268 (by decide) ?_
  refine eg_iadd dL_law_269 ?_
  refine eg_sld dL_law_270 ld1 ?_
  refine eg_aload_n (i := 0) 4 dL_law_271 rfl rfl ?_
  refine eg_iload (i := 4) 0 dL_law_272 rfl ?_
  refine eg_iconst (v := (2 : Int32)) dL_law_274 (by decide) ?_
  refine eg_iadd dL_law_275 ?_
  refine eg_sld dL_law_276 ld2 ?_
  refine eg_aload_n (i := 0) 4 dL_law_277 rfl rfl ?_
  refine eg_iload (i := 4) 0 dL_law_278 rfl ?_
  refine eg_iconst (v := (3 : Int32)) dL_law_280 (by decide) ?_
  refine eg_iadd dL_law_281 ?_
  refine eg_sld dL_law_282 ld3 ?_
  refine eg_aload_n (i := 0) 4 dL_law_283 rfl rfl ?_
  refine eg_iload (i := 4) 0 dL_law_284 rfl ?_
  refine eg_iconst (v := (4 : Int32)) dL_law_286 (by decide) ?_
  refine eg_iadd dL_law_287 ?_
  refine eg_sld dL_law_288 ld4 ?_
  refine eg_aload_n (i := 0) 4 dL_law_289 rfl rfl ?_
  refine eg_iload (i := 4) 0 dL_law_290 rfl ?_
  refine eg_iconst (v := (5 : Int32)) dL_law_292 (by decide) ?_
  refine eg_iadd dL_law_293 ?_
  refine eg_sld dL_law_294 ld5 ?_
  obtain ⟨h1, h2, e1, e2, LN⟩ := L_feed LL (xs ((nI i) + (1 : Int32)).toNatClampNeg) (xs ((nI i) + (2 : Int32)).toNatClampNeg) (xs ((nI i) + (3 : Int32)).toNatClampNeg) (xs ((nI i) + (4 : Int32)).toNatClampNeg) (xs ((nI i) + (5 : Int32)).toNatClampNeg)
  refine eg_callV (c := 12) (n := 5) [.int ((xs ((nI i) + (1 : Int32)).toNatClampNeg)), .int ((xs ((nI i) + (2 : Int32)).toNatClampNeg)), .int ((xs ((nI i) + (3 : Int32)).toNatClampNeg)), .int ((xs ((nI i) + (4 : Int32)).toNatClampNeg)), .int ((xs ((nI i) + (5 : Int32)).toNatClampNeg))] dL_law_295 (mX12_feed e1) rfl (fX12_feed_O e1) (Nat.le_of_ble_eq_true rfl) rfl ew_414 ew_415 ew_416 ew_100 ew_417 hy_X12_feed rfl (Nat.le_of_ble_eq_true rfl) (Nat.le_of_ble_eq_true rfl) (Nat.le_of_ble_eq_true rfl) ?_
  refine eg_aload_n (i := 2) 2 dL_law_298 rfl rfl ?_
  refine eg_aload_n (i := 0) 4 dL_law_299 rfl rfl ?_
  refine eg_iload (i := 4) 0 dL_law_300 rfl ?_
  refine eg_iconst (v := (1 : Int32)) dL_law_302 (by decide) ?_
  refine eg_iadd dL_law_303 ?_
  refine eg_sld dL_law_304 ld1 ?_
  refine eg_aload_n (i := 0) 4 dL_law_305 rfl rfl ?_
  refine eg_iload (i := 4) 0 dL_law_306 rfl ?_
  refine eg_iconst (v := (2 : Int32)) dL_law_308 (by decide) ?_
  refine eg_iadd dL_law_309 ?_
  refine eg_sld dL_law_310 ld2 ?_
  refine eg_aload_n (i := 0) 4 dL_law_311 rfl rfl ?_
  refine eg_iload (i := 4) 0 dL_law_312 rfl ?_
  refine eg_iconst (v := (3 : Int32)) dL_law_314 (by decide) ?_
  refine eg_iadd dL_law_315 ?_
  refine eg_sld dL_law_316 ld3 ?_
  refine eg_aload_n (i := 0) 4 dL_law_317 rfl rfl ?_
  refine eg_iload (i := 4) 0 dL_law_318 rfl ?_
  refine eg_iconst (v := (4 : Int32)) dL_law_320 (by decide) ?_
  refine eg_iadd dL_law_321 ?_
  refine eg_sld dL_law_322 ld4 ?_
  refine eg_aload_n (i := 0) 4 dL_law_323 rfl rfl ?_
  refine eg_iload (i := 4) 0 dL_law_324 rfl ?_
  refine eg_iconst (v := (5 : Int32)) dL_law_326 (by decide) ?_
  refine eg_iadd dL_law_327 ?_
  refine eg_sld dL_law_328 ld5 ?_
  refine eg_callV (c := 13) (n := 5) [.int ((xs ((nI i) + (1 : Int32)).toNatClampNeg)), .int ((xs ((nI i) + (2 : Int32)).toNatClampNeg)), .int ((xs ((nI i) + (3 : Int32)).toNatClampNeg)), .int ((xs ((nI i) + (4 : Int32)).toNatClampNeg)), .int ((xs ((nI i) + (5 : Int32)).toNatClampNeg))] dL_law_329 (mX13_feed e2) rfl (fX13_feed_O e2) (Nat.le_of_ble_eq_true rfl) rfl ew_1677 ew_1678 ew_1679 ew_110 ew_1680 hy_X13_feed rfl (Nat.le_of_ble_eq_true rfl) (Nat.le_of_ble_eq_true rfl) (Nat.le_of_ble_eq_true rfl) ?_
  refine eg_ic_eq 2717 dL_law_332 rfl (fun _ => ?_) (fun z => absurd rfl z)
  exact kk _ _ LN
theorem arm_1 (LL : LI h σ B00 tm) (ht : tm < 1000) (hi : i + 6 ≤ L) (hL : L ≤ 3072) (kk : ∀ (h' : eg_H) (σ' : eg_S), LI h' σ' B00 (tm + 1) → eg_AW (RLw, cL_law, 7, 460, some (L, xs, g), nm, ret) lz_Z 3000 70000 h00 2717 [(4, .int (nI i)), (3, .ref 94), (2, .ref 54), (1, .ref 16), (0, .ref 0)] [] h') : eg_AW (RLw, cL_law, 7, 460, some (L, xs, g), nm, ret) lz_Z 3000 70000 h00 337 [(4, .int (nI i)), (3, .ref 94), (2, .ref 54), (1, .ref 16), (0, .ref 0)] [] h := by
  have ld1 := ld_1 hi hL
  refine eg_aload_n (i := 1) 3 dL_law_337 rfl rfl ?_
  refine eg_aload_n (i := 0) 4 dL_law_338 rfl rfl ?_
  refine eg_iload (i := 4) 0 dL_law_339 rfl ?_
  refine eg_iconst (v := (1 : Int32)) dL_law_341 (by decide) ?_
  refine eg_iadd dL_law_342 ?_
  refine eg_sld dL_law_343 ld1 ?_
  obtain ⟨h1, h2, e1, e2, LN⟩ := L_end LL (xs ((nI i) + (1 : Int32)).toNatClampNeg)
  refine eg_callV (c := 12) (n := 1) [.int ((xs ((nI i) + (1 : Int32)).toNatClampNeg))] dL_law_344 (mX12_end e1) rfl (fX12_end_O e1) (Nat.le_of_ble_eq_true rfl) rfl ew_430 ew_431 ew_432 ew_100 ew_433 hy_X12_end rfl (Nat.le_of_ble_eq_true rfl) (Nat.le_of_ble_eq_true rfl) (Nat.le_of_ble_eq_true rfl) ?_
  refine eg_aload_n (i := 2) 2 dL_law_347 rfl rfl ?_
  refine eg_aload_n (i := 0) 4 dL_law_348 rfl rfl ?_
  refine eg_iload (i := 4) 0 dL_law_349 rfl ?_
  refine eg_iconst (v := (1 : Int32)) dL_law_351 (by decide) ?_
  refine eg_iadd dL_law_352 ?_
  refine eg_sld dL_law_353 ld1 ?_
  refine eg_callV (c := 13) (n := 1) [.int ((xs ((nI i) + (1 : Int32)).toNatClampNeg))] dL_law_354 (mX13_end e2) rfl (fX13_end_O e2) (Nat.le_of_ble_eq_true rfl) rfl ew_1688 ew_1689 ew_1690 ew_110 ew_1691 hy_X13_end rfl (Nat.le_of_ble_eq_true rfl) (Nat.le_of_ble_eq_true rfl) (Nat.le_of_ble_eq_true rfl) ?_
  refine eg_ic_eq 2717 dL_law_357 rfl (fun _ => ?_) (fun z => absurd rfl z)
  exact kk _ _ LN
theorem arm_2 (LL : LI h σ B00 tm) (ht : tm < 1000) (hi : i + 6 ≤ L) (hL : L ≤ 3072) (kk : ∀ (h' : eg_H) (σ' : eg_S), LI h' σ' B00 (tm + 1) → eg_AW (RLw, cL_law, 7, 460, some (L, xs, g), nm, ret) lz_Z 3000 70000 h00 2717 [(4, .int (nI i)), (3, .ref 94), (2, .ref 54), (1, .ref 16), (0, .ref 0)] [] h') : eg_AW (RLw, cL_law, 7, 460, some (L, xs, g), nm, ret) lz_Z 3000 70000 h00 362 [(4, .int (nI i)), (3, .ref 94), (2, .ref 54), (1, .ref 16), (0, .ref 0)] [] h := by
  have ld1 := ld_1 hi hL
  refine eg_aload_n (i := 1) 3 dL_law_362 rfl rfl ?_
  refine eg_aload_n (i := 0) 4 dL_law_363 rfl rfl ?_
  refine eg_iload (i := 4) 0 dL_law_364 rfl ?_
  refine eg_iconst (v := (1 : Int32)) dL_law_366 (by decide) ?_
  refine eg_iadd dL_law_367 ?_
  refine eg_sld dL_law_368 ld1 ?_
  obtain ⟨h1, h2, e1, e2, LN⟩ := L_fault LL (xs ((nI i) + (1 : Int32)).toNatClampNeg)
  refine eg_callV (c := 12) (n := 1) [.int ((xs ((nI i) + (1 : Int32)).toNatClampNeg))] dL_law_369 (mX12_fault e1) rfl (fX12_fault_O e1) (Nat.le_of_ble_eq_true rfl) rfl ew_438 ew_439 ew_440 ew_100 ew_441 hy_X12_fault rfl (Nat.le_of_ble_eq_true rfl) (Nat.le_of_ble_eq_true rfl) (Nat.le_of_ble_eq_true rfl) ?_
  refine eg_aload_n (i := 2) 2 dL_law_372 rfl rfl ?_
  refine eg_aload_n (i := 0) 4 dL_law_373 rfl rfl ?_
  refine eg_iload (i := 4) 0 dL_law_374 rfl ?_
  refine eg_iconst (v := (1 : Int32)) dL_law_376 (by decide) ?_
  refine eg_iadd dL_law_377 ?_
  refine eg_sld dL_law_378 ld1 ?_
  refine eg_callV (c := 13) (n := 1) [.int ((xs ((nI i) + (1 : Int32)).toNatClampNeg))] dL_law_379 (mX13_fault e2) rfl (fX13_fault_O e2) (Nat.le_of_ble_eq_true rfl) rfl ew_1692 ew_1693 ew_1694 ew_110 ew_1695 hy_X13_fault rfl (Nat.le_of_ble_eq_true rfl) (Nat.le_of_ble_eq_true rfl) (Nat.le_of_ble_eq_true rfl) ?_
  refine eg_ic_eq 2717 dL_law_382 rfl (fun _ => ?_) (fun z => absurd rfl z)
  exact kk _ _ LN
theorem arm_3 (LL : LI h σ B00 tm) (ht : tm < 1000) (hi : i + 6 ≤ L) (hL : L ≤ 3072) (kk : ∀ (h' : eg_H) (σ' : eg_S), LI h' σ' B00 (tm + 1) → eg_AW (RLw, cL_law, 7, 460, some (L, xs, g), nm, ret) lz_Z 3000 70000 h00 2717 [(4, .int (nI i)), (3, .ref 94), (2, .ref 54), (1, .ref 16), (0, .ref 0)] [] h') : eg_AW (RLw, cL_law, 7, 460, some (L, xs, g), nm, ret) lz_Z 3000 70000 h00 387 [(4, .int (nI i)), (3, .ref 94), (2, .ref 54), (1, .ref 16), (0, .ref 0)] [] h := by
  have ld1 := ld_1 hi hL
  refine eg_aload_n (i := 1) 3 dL_law_387 rfl rfl ?_
  refine eg_aload_n (i := 0) 4 dL_law_388 rfl rfl ?_
  refine eg_iload (i := 4) 0 dL_law_389 rfl ?_
  refine eg_iconst (v := (1 : Int32)) dL_law_391 (by decide) ?_
  refine eg_iadd dL_law_392 ?_
  refine eg_sld dL_law_393 ld1 ?_
  obtain ⟨h1, h2, e1, e2, LN⟩ := L_text LL (xs ((nI i) + (1 : Int32)).toNatClampNeg) (by omega)
  refine eg_callV (c := 12) (n := 1) [.int ((xs ((nI i) + (1 : Int32)).toNatClampNeg))] dL_law_394 (mX12_text e1) rfl (fX12_text_O e1) (Nat.le_of_ble_eq_true rfl) rfl ew_585 ew_586 ew_587 ew_100 ew_588 hy_X12_text rfl (Nat.le_of_ble_eq_true rfl) (Nat.le_of_ble_eq_true rfl) (Nat.le_of_ble_eq_true rfl) ?_
  refine eg_aload_n (i := 2) 2 dL_law_397 rfl rfl ?_
  refine eg_aload_n (i := 0) 4 dL_law_398 rfl rfl ?_
  refine eg_iload (i := 4) 0 dL_law_399 rfl ?_
  refine eg_iconst (v := (1 : Int32)) dL_law_401 (by decide) ?_
  refine eg_iadd dL_law_402 ?_
  refine eg_sld dL_law_403 ld1 ?_
  refine eg_callV (c := 13) (n := 1) [.int ((xs ((nI i) + (1 : Int32)).toNatClampNeg))] dL_law_404 (mX13_text e2) rfl (fX13_text_O e2) (Nat.le_of_ble_eq_true rfl) rfl ew_1863 ew_1864 ew_1865 ew_110 ew_1866 hy_X13_text rfl (Nat.le_of_ble_eq_true rfl) (Nat.le_of_ble_eq_true rfl) (Nat.le_of_ble_eq_true rfl) ?_
  refine eg_ic_eq 2717 dL_law_407 rfl (fun _ => ?_) (fun z => absurd rfl z)
  exact kk _ _ LN
theorem arm_5 (LL : LI h σ B00 tm) (ht : tm < 1000) (hi : i + 6 ≤ L) (hL : L ≤ 3072) (kk : ∀ (h' : eg_H) (σ' : eg_S), LI h' σ' B00 (tm + 1) → eg_AW (RLw, cL_law, 7, 460, some (L, xs, g), nm, ret) lz_Z 3000 70000 h00 2717 [(4, .int (nI i)), (3, .ref 94), (2, .ref 54), (1, .ref 16), (0, .ref 0)] [] h') : eg_AW (RLw, cL_law, 7, 460, some (L, xs, g), nm, ret) lz_Z 3000 70000 h00 480 [(4, .int (nI i)), (3, .ref 94), (2, .ref 54), (1, .ref 16), (0, .ref 0)] [] h := by
  have ld1 := ld_1 hi hL
  have ld2 := ld_2 hi hL
  refine eg_aload_n (i := 1) 3 dL_law_480 rfl rfl ?_
  refine eg_aload_n (i := 0) 4 dL_law_481 rfl rfl ?_
  refine eg_iload (i := 4) 0 dL_law_482 rfl ?_
  refine eg_iconst (v := (1 : Int32)) dL_law_484 (by decide) ?_
  refine eg_iadd dL_law_485 ?_
  refine eg_sld dL_law_486 ld1 ?_
  refine eg_aload_n (i := 0) 4 dL_law_487 rfl rfl ?_
  refine eg_iload (i := 4) 0 dL_law_488 rfl ?_
  refine eg_iconst (v := (2 : Int32)) dL_law_490 (by decide) ?_
  refine eg_iadd dL_law_491 ?_
  refine eg_sld dL_law_492 ld2 ?_
  obtain ⟨h1, h2, e1, e2, LN⟩ := L_egg LL (xs ((nI i) + (1 : Int32)).toNatClampNeg) (xs ((nI i) + (2 : Int32)).toNatClampNeg)
  refine eg_callV (c := 12) (n := 2) [.int ((xs ((nI i) + (1 : Int32)).toNatClampNeg)), .int ((xs ((nI i) + (2 : Int32)).toNatClampNeg))] dL_law_493 (mX12_egg e1) rfl (fX12_egg_O e1) (Nat.le_of_ble_eq_true rfl) rfl ew_691 ew_692 ew_693 ew_100 ew_694 hy_X12_egg rfl (Nat.le_of_ble_eq_true rfl) (Nat.le_of_ble_eq_true rfl) (Nat.le_of_ble_eq_true rfl) ?_
  refine eg_aload_n (i := 2) 2 dL_law_496 rfl rfl ?_
  refine eg_aload_n (i := 0) 4 dL_law_497 rfl rfl ?_
  refine eg_iload (i := 4) 0 dL_law_498 rfl ?_
  refine eg_iconst (v := (1 : Int32)) dL_law_500 (by decide) ?_
  refine eg_iadd dL_law_501 ?_
  refine eg_sld dL_law_502 ld1 ?_
  refine eg_aload_n (i := 0) 4 dL_law_503 rfl rfl ?_
  refine eg_iload (i := 4) 0 dL_law_504 rfl ?_
  refine eg_iconst (v := (2 : Int32)) dL_law_506 (by decide) ?_
  refine eg_iadd dL_law_507 ?_
  refine eg_sld dL_law_508 ld2 ?_
  refine eg_callV (c := 13) (n := 2) [.int ((xs ((nI i) + (1 : Int32)).toNatClampNeg)), .int ((xs ((nI i) + (2 : Int32)).toNatClampNeg))] dL_law_509 (mX13_egg e2) rfl (fX13_egg_O e2) (Nat.le_of_ble_eq_true rfl) rfl ew_1877 ew_1878 ew_1879 ew_110 ew_1880 hy_X13_egg rfl (Nat.le_of_ble_eq_true rfl) (Nat.le_of_ble_eq_true rfl) (Nat.le_of_ble_eq_true rfl) ?_
  refine eg_ic_eq 2717 dL_law_512 rfl (fun _ => ?_) (fun z => absurd rfl z)
  exact kk _ _ LN
theorem arm_6 (LL : LI h σ B00 tm) (ht : tm < 1000) (hi : i + 6 ≤ L) (hL : L ≤ 3072) (kk : ∀ (h' : eg_H) (σ' : eg_S), LI h' σ' B00 (tm + 1) → eg_AW (RLw, cL_law, 7, 460, some (L, xs, g), nm, ret) lz_Z 3000 70000 h00 2717 [(4, .int (nI i)), (3, .ref 94), (2, .ref 54), (1, .ref 16), (0, .ref 0)] [] h') : eg_AW (RLw, cL_law, 7, 460, some (L, xs, g), nm, ret) lz_Z 3000 70000 h00 517 [(4, .int (nI i)), (3, .ref 94), (2, .ref 54), (1, .ref 16), (0, .ref 0)] [] h := by
  have ld1 := ld_1 hi hL
  refine eg_aload_n (i := 1) 3 dL_law_517 rfl rfl ?_
  refine eg_aload_n (i := 0) 4 dL_law_518 rfl rfl ?_
  refine eg_iload (i := 4) 0 dL_law_519 rfl ?_
  refine eg_iconst (v := (1 : Int32)) dL_law_521 (by decide) ?_
  refine eg_iadd dL_law_522 ?_
  refine eg_sld dL_law_523 ld1 ?_
  obtain ⟨h1, h2, e1, e2, LN⟩ := L_law LL (xs ((nI i) + (1 : Int32)).toNatClampNeg) (by omega)
  refine eg_callV (c := 12) (n := 1) [.int ((xs ((nI i) + (1 : Int32)).toNatClampNeg))] dL_law_524 (mX12_law e1) rfl (fX12_law_O e1) (Nat.le_of_ble_eq_true rfl) rfl ew_703 ew_704 ew_705 ew_100 ew_706 hy_X12_law rfl (Nat.le_of_ble_eq_true rfl) (Nat.le_of_ble_eq_true rfl) (Nat.le_of_ble_eq_true rfl) ?_
  refine eg_aload_n (i := 2) 2 dL_law_527 rfl rfl ?_
  refine eg_aload_n (i := 0) 4 dL_law_528 rfl rfl ?_
  refine eg_iload (i := 4) 0 dL_law_529 rfl ?_
  refine eg_iconst (v := (1 : Int32)) dL_law_531 (by decide) ?_
  refine eg_iadd dL_law_532 ?_
  refine eg_sld dL_law_533 ld1 ?_
  refine eg_callV (c := 13) (n := 1) [.int ((xs ((nI i) + (1 : Int32)).toNatClampNeg))] dL_law_534 (mX13_law e2) rfl (fX13_law_O e2) (Nat.le_of_ble_eq_true rfl) rfl ew_1885 ew_1886 ew_1887 ew_110 ew_1888 hy_X13_law rfl (Nat.le_of_ble_eq_true rfl) (Nat.le_of_ble_eq_true rfl) (Nat.le_of_ble_eq_true rfl) ?_
  refine eg_ic_eq 2717 dL_law_537 rfl (fun _ => ?_) (fun z => absurd rfl z)
  exact kk _ _ LN
theorem arm_7 (LL : LI h σ B00 tm) (ht : tm < 1000) (hi : i + 6 ≤ L) (hL : L ≤ 3072) (kk : ∀ (h' : eg_H) (σ' : eg_S), LI h' σ' B00 (tm + 1) → eg_AW (RLw, cL_law, 7, 460, some (L, xs, g), nm, ret) lz_Z 3000 70000 h00 2717 [(4, .int (nI i)), (3, .ref 94), (2, .ref 54), (1, .ref 16), (0, .ref 0)] [] h') : eg_AW (RLw, cL_law, 7, 460, some (L, xs, g), nm, ret) lz_Z 3000 70000 h00 542 [(4, .int (nI i)), (3, .ref 94), (2, .ref 54), (1, .ref 16), (0, .ref 0)] [] h := by
  have ld1 := ld_1 hi hL
  have ld2 := ld_2 hi hL
  refine eg_aload_n (i := 1) 3 dL_law_542 rfl rfl ?_
  refine eg_aload_n (i := 0) 4 dL_law_543 rfl rfl ?_
  refine eg_iload (i := 4) 0 dL_law_544 rfl ?_
  refine eg_iconst (v := (1 : Int32)) dL_law_546 (by decide) ?_
  refine eg_iadd dL_law_547 ?_
  refine eg_sld dL_law_548 ld1 ?_
  refine eg_aload_n (i := 0) 4 dL_law_549 rfl rfl ?_
  refine eg_iload (i := 4) 0 dL_law_550 rfl ?_
  refine eg_iconst (v := (2 : Int32)) dL_law_552 (by decide) ?_
  refine eg_iadd dL_law_553 ?_
  refine eg_sld dL_law_554 ld2 ?_
  obtain ⟨h1, h2, e1, e2, LN⟩ := L_set LL (xs ((nI i) + (1 : Int32)).toNatClampNeg) (xs ((nI i) + (2 : Int32)).toNatClampNeg) (by omega)
  refine eg_callV (c := 12) (n := 2) [.int ((xs ((nI i) + (1 : Int32)).toNatClampNeg)), .int ((xs ((nI i) + (2 : Int32)).toNatClampNeg))] dL_law_555 (mX12_set e1) rfl (fX12_set_O e1) (Nat.le_of_ble_eq_true rfl) rfl ew_711 ew_712 ew_713 ew_100 ew_714 hy_X12_set rfl (Nat.le_of_ble_eq_true rfl) (Nat.le_of_ble_eq_true rfl) (Nat.le_of_ble_eq_true rfl) ?_
  refine eg_aload_n (i := 2) 2 dL_law_558 rfl rfl ?_
  refine eg_aload_n (i := 0) 4 dL_law_559 rfl rfl ?_
  refine eg_iload (i := 4) 0 dL_law_560 rfl ?_
  refine eg_iconst (v := (1 : Int32)) dL_law_562 (by decide) ?_
  refine eg_iadd dL_law_563 ?_
  refine eg_sld dL_law_564 ld1 ?_
  refine eg_aload_n (i := 0) 4 dL_law_565 rfl rfl ?_
  refine eg_iload (i := 4) 0 dL_law_566 rfl ?_
  refine eg_iconst (v := (2 : Int32)) dL_law_568 (by decide) ?_
  refine eg_iadd dL_law_569 ?_
  refine eg_sld dL_law_570 ld2 ?_
  refine eg_callV (c := 13) (n := 2) [.int ((xs ((nI i) + (1 : Int32)).toNatClampNeg)), .int ((xs ((nI i) + (2 : Int32)).toNatClampNeg))] dL_law_571 (mX13_set e2) rfl (fX13_set_O e2) (Nat.le_of_ble_eq_true rfl) rfl ew_1889 ew_1890 ew_1891 ew_110 ew_1892 hy_X13_set rfl (Nat.le_of_ble_eq_true rfl) (Nat.le_of_ble_eq_true rfl) (Nat.le_of_ble_eq_true rfl) ?_
  refine eg_ic_eq 2717 dL_law_574 rfl (fun _ => ?_) (fun z => absurd rfl z)
  exact kk _ _ LN
theorem arm_8 (LL : LI h σ B00 tm) (ht : tm < 1000) (hi : i + 6 ≤ L) (hL : L ≤ 3072) (kk : ∀ (h' : eg_H) (σ' : eg_S), LI h' σ' B00 (tm + 1) → eg_AW (RLw, cL_law, 7, 460, some (L, xs, g), nm, ret) lz_Z 3000 70000 h00 2717 [(4, .int (nI i)), (3, .ref 94), (2, .ref 54), (1, .ref 16), (0, .ref 0)] [] h') : eg_AW (RLw, cL_law, 7, 460, some (L, xs, g), nm, ret) lz_Z 3000 70000 h00 579 [(4, .int (nI i)), (3, .ref 94), (2, .ref 54), (1, .ref 16), (0, .ref 0)] [] h := by
  have ld1 := ld_1 hi hL
  have ld2 := ld_2 hi hL
  have ld3 := ld_3 hi hL
  have ld4 := ld_4 hi hL
  have ld5 := ld_5 hi hL
  refine eg_aload_n (i := 1) 3 dL_law_579 rfl rfl ?_
  refine eg_aload_n (i := 0) 4 dL_law_580 rfl rfl ?_
  refine eg_iload (i := 4) 0 dL_law_581 rfl ?_
  refine eg_iconst (v := (1 : Int32)) dL_law_583 (by decide) ?_
  refine eg_iadd dL_law_584 ?_
  refine eg_sld dL_law_585 ld1 ?_
  refine eg_aload_n (i := 0) 4 dL_law_586 rfl rfl ?_
  refine eg_iload (i := 4) 0 dL_law_587 rfl ?_
  refine eg_iconst (v := (2 : Int32)) dL_law_589 (by decide) ?_
  refine eg_iadd dL_law_590 ?_
  refine eg_sld dL_law_591 ld2 ?_
  refine eg_aload_n (i := 0) 4 dL_law_592 rfl rfl ?_
  refine eg_iload (i := 4) 0 dL_law_593 rfl ?_
  refine eg_iconst (v := (3 : Int32)) dL_law_595 (by decide) ?_
  refine eg_iadd dL_law_596 ?_
  refine eg_sld dL_law_597 ld3 ?_
  refine eg_aload_n (i := 0) 4 dL_law_598 rfl rfl ?_
  refine eg_iload (i := 4) 0 dL_law_599 rfl ?_
  refine eg_iconst (v := (4 : Int32)) dL_law_601 (by decide) ?_
  refine eg_iadd dL_law_602 ?_
  refine eg_sld dL_law_603 ld4 ?_
  refine eg_aload_n (i := 0) 4 dL_law_604 rfl rfl ?_
  refine eg_iload (i := 4) 0 dL_law_605 rfl ?_
  refine eg_iconst (v := (5 : Int32)) dL_law_607 (by decide) ?_
  refine eg_iadd dL_law_608 ?_
  refine eg_sld dL_law_609 ld5 ?_
  obtain ⟨h1, h2, e1, e2, LN⟩ := L_off LL (xs ((nI i) + (1 : Int32)).toNatClampNeg) (xs ((nI i) + (2 : Int32)).toNatClampNeg) (xs ((nI i) + (3 : Int32)).toNatClampNeg) (xs ((nI i) + (4 : Int32)).toNatClampNeg) (xs ((nI i) + (5 : Int32)).toNatClampNeg)
  refine eg_callV (c := 12) (n := 5) [.int ((xs ((nI i) + (1 : Int32)).toNatClampNeg)), .int ((xs ((nI i) + (2 : Int32)).toNatClampNeg)), .int ((xs ((nI i) + (3 : Int32)).toNatClampNeg)), .int ((xs ((nI i) + (4 : Int32)).toNatClampNeg)), .int ((xs ((nI i) + (5 : Int32)).toNatClampNeg))] dL_law_610 (mX12_off e1) rfl (fX12_off_O e1) (Nat.le_of_ble_eq_true rfl) rfl ew_725 ew_726 ew_727 ew_100 ew_728 hy_X12_off rfl (Nat.le_of_ble_eq_true rfl) (Nat.le_of_ble_eq_true rfl) (Nat.le_of_ble_eq_true rfl) ?_
  refine eg_aload_n (i := 2) 2 dL_law_613 rfl rfl ?_
  refine eg_aload_n (i := 0) 4 dL_law_614 rfl rfl ?_
  refine eg_iload (i := 4) 0 dL_law_615 rfl ?_
  refine eg_iconst (v := (1 : Int32)) dL_law_617 (by decide) ?_
  refine eg_iadd dL_law_618 ?_
  refine eg_sld dL_law_619 ld1 ?_
  refine eg_aload_n (i := 0) 4 dL_law_620 rfl rfl ?_
  refine eg_iload (i := 4) 0 dL_law_621 rfl ?_
  refine eg_iconst (v := (2 : Int32)) dL_law_623 (by decide) ?_
  refine eg_iadd dL_law_624 ?_
  refine eg_sld dL_law_625 ld2 ?_
  refine eg_aload_n (i := 0) 4 dL_law_626 rfl rfl ?_
  refine eg_iload (i := 4) 0 dL_law_627 rfl ?_
  refine eg_iconst (v := (3 : Int32)) dL_law_629 (by decide) ?_
  refine eg_iadd dL_law_630 ?_
  refine eg_sld dL_law_631 ld3 ?_
  refine eg_aload_n (i := 0) 4 dL_law_632 rfl rfl ?_
  refine eg_iload (i := 4) 0 dL_law_633 rfl ?_
  refine eg_iconst (v := (4 : Int32)) dL_law_635 (by decide) ?_
  refine eg_iadd dL_law_636 ?_
  refine eg_sld dL_law_637 ld4 ?_
  refine eg_aload_n (i := 0) 4 dL_law_638 rfl rfl ?_
  refine eg_iload (i := 4) 0 dL_law_639 rfl ?_
  refine eg_iconst (v := (5 : Int32)) dL_law_641 (by decide) ?_
  refine eg_iadd dL_law_642 ?_
  refine eg_sld dL_law_643 ld5 ?_
  refine eg_callV (c := 13) (n := 5) [.int ((xs ((nI i) + (1 : Int32)).toNatClampNeg)), .int ((xs ((nI i) + (2 : Int32)).toNatClampNeg)), .int ((xs ((nI i) + (3 : Int32)).toNatClampNeg)), .int ((xs ((nI i) + (4 : Int32)).toNatClampNeg)), .int ((xs ((nI i) + (5 : Int32)).toNatClampNeg))] dL_law_644 (mX13_off e2) rfl (fX13_off_O e2) (Nat.le_of_ble_eq_true rfl) rfl ew_1893 ew_1894 ew_1895 ew_110 ew_1896 hy_X13_off rfl (Nat.le_of_ble_eq_true rfl) (Nat.le_of_ble_eq_true rfl) (Nat.le_of_ble_eq_true rfl) ?_
  refine eg_ic_eq 2717 dL_law_647 rfl (fun _ => ?_) (fun z => absurd rfl z)
  exact kk _ _ LN
theorem arm_9 (LL : LI h σ B00 tm) (ht : tm < 1000) (hi : i + 6 ≤ L) (hL : L ≤ 3072) (kk : ∀ (h' : eg_H) (σ' : eg_S), LI h' σ' B00 (tm + 1) → eg_AW (RLw, cL_law, 7, 460, some (L, xs, g), nm, ret) lz_Z 3000 70000 h00 2717 [(4, .int (nI i)), (3, .ref 94), (2, .ref 54), (1, .ref 16), (0, .ref 0)] [] h') : eg_AW (RLw, cL_law, 7, 460, some (L, xs, g), nm, ret) lz_Z 3000 70000 h00 652 [(4, .int (nI i)), (3, .ref 94), (2, .ref 54), (1, .ref 16), (0, .ref 0)] [] h := by
  have ld1 := ld_1 hi hL
  have ld2 := ld_2 hi hL
  have ld3 := ld_3 hi hL
  have ld4 := ld_4 hi hL
  have ld5 := ld_5 hi hL
  refine eg_aload_n (i := 1) 3 dL_law_652 rfl rfl ?_
  refine eg_aload_n (i := 0) 4 dL_law_653 rfl rfl ?_
  refine eg_iload (i := 4) 0 dL_law_654 rfl ?_
  refine eg_iconst (v := (1 : Int32)) dL_law_656 (by decide) ?_
  refine eg_iadd dL_law_657 ?_
  refine eg_sld dL_law_658 ld1 ?_
  refine eg_aload_n (i := 0) 4 dL_law_659 rfl rfl ?_
  refine eg_iload (i := 4) 0 dL_law_660 rfl ?_
  refine eg_iconst (v := (2 : Int32)) dL_law_662 (by decide) ?_
  refine eg_iadd dL_law_663 ?_
  refine eg_sld dL_law_664 ld2 ?_
  refine eg_aload_n (i := 0) 4 dL_law_665 rfl rfl ?_
  refine eg_iload (i := 4) 0 dL_law_666 rfl ?_
  refine eg_iconst (v := (3 : Int32)) dL_law_668 (by decide) ?_
  refine eg_iadd dL_law_669 ?_
  refine eg_sld dL_law_670 ld3 ?_
  refine eg_aload_n (i := 0) 4 dL_law_671 rfl rfl ?_
  refine eg_iload (i := 4) 0 dL_law_672 rfl ?_
  refine eg_iconst (v := (4 : Int32)) dL_law_674 (by decide) ?_
  refine eg_iadd dL_law_675 ?_
  refine eg_sld dL_law_676 ld4 ?_
  refine eg_aload_n (i := 0) 4 dL_law_677 rfl rfl ?_
  refine eg_iload (i := 4) 0 dL_law_678 rfl ?_
  refine eg_iconst (v := (5 : Int32)) dL_law_680 (by decide) ?_
  refine eg_iadd dL_law_681 ?_
  refine eg_sld dL_law_682 ld5 ?_
  obtain ⟨h1, h2, e1, e2, LN⟩ := L_force LL (xs ((nI i) + (1 : Int32)).toNatClampNeg) (xs ((nI i) + (2 : Int32)).toNatClampNeg) (xs ((nI i) + (3 : Int32)).toNatClampNeg) (xs ((nI i) + (4 : Int32)).toNatClampNeg) (xs ((nI i) + (5 : Int32)).toNatClampNeg)
  refine eg_callV (c := 12) (n := 5) [.int ((xs ((nI i) + (1 : Int32)).toNatClampNeg)), .int ((xs ((nI i) + (2 : Int32)).toNatClampNeg)), .int ((xs ((nI i) + (3 : Int32)).toNatClampNeg)), .int ((xs ((nI i) + (4 : Int32)).toNatClampNeg)), .int ((xs ((nI i) + (5 : Int32)).toNatClampNeg))] dL_law_683 (mX12_force e1) rfl (fX12_force_O e1) (Nat.le_of_ble_eq_true rfl) rfl ew_748 ew_749 ew_750 ew_100 ew_751 hy_X12_force rfl (Nat.le_of_ble_eq_true rfl) (Nat.le_of_ble_eq_true rfl) (Nat.le_of_ble_eq_true rfl) ?_
  refine eg_aload_n (i := 2) 2 dL_law_686 rfl rfl ?_
  refine eg_aload_n (i := 0) 4 dL_law_687 rfl rfl ?_
  refine eg_iload (i := 4) 0 dL_law_688 rfl ?_
  refine eg_iconst (v := (1 : Int32)) dL_law_690 (by decide) ?_
  refine eg_iadd dL_law_691 ?_
  refine eg_sld dL_law_692 ld1 ?_
  refine eg_aload_n (i := 0) 4 dL_law_693 rfl rfl ?_
  refine eg_iload (i := 4) 0 dL_law_694 rfl ?_
  refine eg_iconst (v := (2 : Int32)) dL_law_696 (by decide) ?_
  refine eg_iadd dL_law_697 ?_
  refine eg_sld dL_law_698 ld2 ?_
  refine eg_aload_n (i := 0) 4 dL_law_699 rfl rfl ?_
  refine eg_iload (i := 4) 0 dL_law_700 rfl ?_
  refine eg_iconst (v := (3 : Int32)) dL_law_702 (by decide) ?_
  refine eg_iadd dL_law_703 ?_
  refine eg_sld dL_law_704 ld3 ?_
  refine eg_aload_n (i := 0) 4 dL_law_705 rfl rfl ?_
  refine eg_iload (i := 4) 0 dL_law_706 rfl ?_
  refine eg_iconst (v := (4 : Int32)) dL_law_708 (by decide) ?_
  refine eg_iadd dL_law_709 ?_
  refine eg_sld dL_law_710 ld4 ?_
  refine eg_aload_n (i := 0) 4 dL_law_711 rfl rfl ?_
  refine eg_iload (i := 4) 0 dL_law_712 rfl ?_
  refine eg_iconst (v := (5 : Int32)) dL_law_714 (by decide) ?_
  refine eg_iadd dL_law_715 ?_
  refine eg_sld dL_law_716 ld5 ?_
  refine eg_callV (c := 13) (n := 5) [.int ((xs ((nI i) + (1 : Int32)).toNatClampNeg)), .int ((xs ((nI i) + (2 : Int32)).toNatClampNeg)), .int ((xs ((nI i) + (3 : Int32)).toNatClampNeg)), .int ((xs ((nI i) + (4 : Int32)).toNatClampNeg)), .int ((xs ((nI i) + (5 : Int32)).toNatClampNeg))] dL_law_717 (mX13_force e2) rfl (fX13_force_O e2) (Nat.le_of_ble_eq_true rfl) rfl ew_1908 ew_1909 ew_1910 ew_110 ew_1911 hy_X13_force rfl (Nat.le_of_ble_eq_true rfl) (Nat.le_of_ble_eq_true rfl) (Nat.le_of_ble_eq_true rfl) ?_
  refine eg_ic_eq 2717 dL_law_720 rfl (fun _ => ?_) (fun z => absurd rfl z)
  exact kk _ _ LN
end ARM
