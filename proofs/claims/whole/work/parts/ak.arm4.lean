section ARM
variable {h : eg_H} {σ : eg_S} {tm i L g : Nat} {xs : Nat → Int32} {nm : String}
theorem arm_4 (LL : LI h σ B00 tm) (hi : i + 6 ≤ L) (hL : L ≤ 3072) (kk : ∀ (h' : eg_H) (σ' : eg_S), LI h' σ' B00 (tm + 1) → eg_AW (RLw, cL_law, 7, 460, some (L, xs, g + 1), nm, ret) lz_Z 3000 70000 h00 2717 [(4, .int (nI i)), (3, .ref 94), (2, .ref 54), (1, .ref 16), (0, .ref 0)] [] h') : eg_AW (RLw, cL_law, 7, 460, some (L, xs, g), nm, ret) lz_Z 3000 70000 h00 412 [(4, .int (nI i)), (3, .ref 94), (2, .ref 54), (1, .ref 16), (0, .ref 0)] [] h := by
  have ld1 := ld_1 hi hL
  have ld2 := ld_2 hi hL
  have hs := LL.1.2.2.1.1
  have V := LL.1.2.2.1.2.1
  have hP := (XI_P LL.1).1
  refine eg_aload_n (i := 1) 3 dL_law_412 rfl rfl ?_
  refine eg_aload_n (i := 0) 4 dL_law_413 rfl rfl ?_
  refine eg_iload (i := 4) 0 dL_law_414 rfl ?_
  refine eg_iconst (v := (1 : Int32)) dL_law_416 (by decide) ?_
  refine eg_iadd dL_law_417 ?_
  refine eg_sld dL_law_418 ld1 ?_
  refine eg_aload_n (i := 0) 4 dL_law_419 rfl rfl ?_
  refine eg_iload (i := 4) 0 dL_law_420 rfl ?_
  refine eg_iconst (v := (2 : Int32)) dL_law_422 (by decide) ?_
  refine eg_iadd dL_law_423 ?_
  refine eg_sld dL_law_424 ld2 ?_
  refine eg_aload_n (i := 3) 1 dL_law_425 rfl rfl ?_
  by_cases gg : gPer σ (xs (nI i + (1 : Int32)).toNatClampNeg) (xs (nI i + (2 : Int32)).toNatClampNeg)
  · refine pl_call (av := [.ref 16, .int (xs (nI i + (1 : Int32)).toNatClampNeg), .int (xs (nI i + (2 : Int32)).toNatClampNeg), .ref 94]) (st := []) lz_no dL_law_426 (pl_returns hs V (fun h0 => XI_U LL.1 h0) (by omega) gg) rfl rfl (Nat.le_of_ble_eq_true rfl) (Nat.le_of_ble_eq_true rfl) rfl (Nat.le_of_ble_eq_true rfl) (Nat.le_of_ble_eq_true rfl) ?_
    refine eg_istore (i := 5) [(5, .int 0), (4, .int (nI i)), (3, .ref 94), (2, .ref 54), (1, .ref 16), (0, .ref 0)] dL_law_429 (Nat.le_of_ble_eq_true rfl) rfl ?_
    refine eg_aload_n (i := 2) 3 dL_law_431 rfl rfl ?_
    refine eg_aload_n (i := 0) 5 dL_law_432 rfl rfl ?_
    refine eg_iload (i := 4) 1 dL_law_433 rfl ?_
    refine eg_iconst (v := (1 : Int32)) dL_law_435 (by decide) ?_
    refine eg_iadd dL_law_436 ?_
    refine eg_sld dL_law_437 ld1 ?_
    refine eg_aload_n (i := 0) 5 dL_law_438 rfl rfl ?_
    refine eg_iload (i := 4) 1 dL_law_439 rfl ?_
    refine eg_iconst (v := (2 : Int32)) dL_law_441 (by decide) ?_
    refine eg_iadd dL_law_442 ?_
    refine eg_sld dL_law_443 ld2 ?_
    have R1 : RI (eg_sL h 94 0 (nI (sU σ (4 + 4 * dN (xs (nI i + (1 : Int32)).toNatClampNeg) + dN (xs (nI i + (2 : Int32)).toNatClampNeg)))).toInt64) σ := LL.2.1
    have X1 : XI (eg_sL h 94 0 (nI (sU σ (4 + 4 * dN (xs (nI i + (1 : Int32)).toNatClampNeg) + dN (xs (nI i + (2 : Int32)).toNatClampNeg)))).toInt64) σ (bRm B00 σ) := LL.1
    obtain ⟨h2, e2, ⟨R2, r2⟩, i2⟩ := M_person R1 (xs (nI i + (1 : Int32)).toNatClampNeg) (xs (nI i + (2 : Int32)).toNatClampNeg)
    rw [if_pos gg] at i2
    have hs2 := R2.1
    have e3 : fX13_thrown h2 54 = some (eg_I h2 54 0, h2) := by unfold fX13_thrown; rw [if_pos (iO_54 hs2), gI_54 hs2, Option.bind_some]
    refine eg_callV (c := 13) (n := 2) [.int (xs (nI i + (1 : Int32)).toNatClampNeg), .int (xs (nI i + (2 : Int32)).toNatClampNeg)] dL_law_444 (mX13_person e2) rfl (fX13_person_O e2) (Nat.le_of_ble_eq_true rfl) rfl ew_1868 ew_1869 ew_1870 ew_110 ew_1871 hy_X13_person rfl (Nat.le_of_ble_eq_true rfl) (Nat.le_of_ble_eq_true rfl) (Nat.le_of_ble_eq_true rfl) ?_
    refine eg_istore (i := 6) [(6, .int (aPer σ (xs (nI i + (1 : Int32)).toNatClampNeg) (xs (nI i + (2 : Int32)).toNatClampNeg))), (5, .int 0), (4, .int (nI i)), (3, .ref 94), (2, .ref 54), (1, .ref 16), (0, .ref 0)] dL_law_447 (Nat.le_of_ble_eq_true rfl) rfl ?_
    refine eg_aload_n (i := 2) 4 dL_law_449 rfl rfl ?_
    refine eg_callV (c := 13) (n := 0) [] dL_law_450 (mX13_thrown e3) rfl (fX13_thrown_O e3) (Nat.le_of_ble_eq_true rfl) rfl ew_1673 ew_1674 ew_1675 ew_110 ew_1676 hy_X13_thrown rfl (Nat.le_of_ble_eq_true rfl) (Nat.le_of_ble_eq_true rfl) (Nat.le_of_ble_eq_true rfl) ?_
    refine eg_iload (i := 5) 1 dL_law_453 rfl ?_
    refine eg_ic_eq 460 dL_law_455 rfl (fun _ => ?_) (fun z => absurd i2 z)
    refine eg_iload (i := 5) 1 dL_law_460 rfl ?_
    refine eg_if_ne 477 dL_law_462 rfl (fun _ => ?_) (fun z => absurd rfl z)
    refine eg_aload_n (i := 3) 3 dL_law_465 rfl rfl ?_
    refine eg_iconst (v := (0 : Int32)) dL_law_466 (by decide) ?_
    refine eg_lald dL_law_467 (aL_94 (i := 0) hs2 (by decide) (by decide)) ?_
    refine eg_iload (i := 6) 0 dL_law_468 rfl ?_
    refine eg_i2l dL_law_470 ?_
    have hz : eg_L h2 94 (0 : Int32).toNatClampNeg = (aPer σ (xs (nI i + (1 : Int32)).toNatClampNeg) (xs (nI i + (2 : Int32)).toNatClampNeg)).toInt64 := by
      rw [show (0 : Int32).toNatClampNeg = 0 from rfl, (r2.2 94 0 (Or.inr (Nat.le_refl _))).2.1]
      unfold aPer
      rw [if_pos gg]
      show eg_up h.2.2.1 94 0 _ 94 0 = _
      exact eg_up_at
    refine eg_lc_eq 477 dL_law_471 dL_law_472 rfl (fun _ => ?_) (fun z => absurd hz z)
    refine eg_goto 2717 dL_law_477 rfl ?_
    refine eg_sub [2, 3, 4, 5, 6] [(4, .int (nI i)), (3, .ref 94), (2, .ref 54), (1, .ref 16), (0, .ref 0)] rfl ?_
    exact kk h2 σ ⟨XI_rf X1 R2.1 r2, R2, by have := LL.2.2; omega⟩
  · refine pl_call (av := [.ref 16, .int (xs (nI i + (1 : Int32)).toNatClampNeg), .int (xs (nI i + (2 : Int32)).toNatClampNeg), .ref 94]) (st := []) lz_no dL_law_426 (pl_throws hs V gg) rfl rfl (Nat.le_of_ble_eq_true rfl) (Nat.le_of_ble_eq_true rfl) rfl (Nat.le_of_ble_eq_true rfl) (Nat.le_of_ble_eq_true rfl) ?_
    refine eg_istore (i := 5) [(5, .int 1), (4, .int (nI i)), (3, .ref 94), (2, .ref 54), (1, .ref 16), (0, .ref 0)] dL_law_429 (Nat.le_of_ble_eq_true rfl) rfl ?_
    refine eg_aload_n (i := 2) 3 dL_law_431 rfl rfl ?_
    refine eg_aload_n (i := 0) 5 dL_law_432 rfl rfl ?_
    refine eg_iload (i := 4) 1 dL_law_433 rfl ?_
    refine eg_iconst (v := (1 : Int32)) dL_law_435 (by decide) ?_
    refine eg_iadd dL_law_436 ?_
    refine eg_sld dL_law_437 ld1 ?_
    refine eg_aload_n (i := 0) 5 dL_law_438 rfl rfl ?_
    refine eg_iload (i := 4) 1 dL_law_439 rfl ?_
    refine eg_iconst (v := (2 : Int32)) dL_law_441 (by decide) ?_
    refine eg_iadd dL_law_442 ?_
    refine eg_sld dL_law_443 ld2 ?_
    have R1 : RI h σ := LL.2.1
    have X1 : XI h σ (bRm B00 σ) := LL.1
    obtain ⟨h2, e2, ⟨R2, r2⟩, i2⟩ := M_person R1 (xs (nI i + (1 : Int32)).toNatClampNeg) (xs (nI i + (2 : Int32)).toNatClampNeg)
    rw [if_neg gg] at i2
    have hs2 := R2.1
    have e3 : fX13_thrown h2 54 = some (eg_I h2 54 0, h2) := by unfold fX13_thrown; rw [if_pos (iO_54 hs2), gI_54 hs2, Option.bind_some]
    refine eg_callV (c := 13) (n := 2) [.int (xs (nI i + (1 : Int32)).toNatClampNeg), .int (xs (nI i + (2 : Int32)).toNatClampNeg)] dL_law_444 (mX13_person e2) rfl (fX13_person_O e2) (Nat.le_of_ble_eq_true rfl) rfl ew_1868 ew_1869 ew_1870 ew_110 ew_1871 hy_X13_person rfl (Nat.le_of_ble_eq_true rfl) (Nat.le_of_ble_eq_true rfl) (Nat.le_of_ble_eq_true rfl) ?_
    refine eg_istore (i := 6) [(6, .int (aPer σ (xs (nI i + (1 : Int32)).toNatClampNeg) (xs (nI i + (2 : Int32)).toNatClampNeg))), (5, .int 1), (4, .int (nI i)), (3, .ref 94), (2, .ref 54), (1, .ref 16), (0, .ref 0)] dL_law_447 (Nat.le_of_ble_eq_true rfl) rfl ?_
    refine eg_aload_n (i := 2) 4 dL_law_449 rfl rfl ?_
    refine eg_callV (c := 13) (n := 0) [] dL_law_450 (mX13_thrown e3) rfl (fX13_thrown_O e3) (Nat.le_of_ble_eq_true rfl) rfl ew_1673 ew_1674 ew_1675 ew_110 ew_1676 hy_X13_thrown rfl (Nat.le_of_ble_eq_true rfl) (Nat.le_of_ble_eq_true rfl) (Nat.le_of_ble_eq_true rfl) ?_
    refine eg_iload (i := 5) 1 dL_law_453 rfl ?_
    refine eg_ic_eq 460 dL_law_455 rfl (fun _ => ?_) (fun z => absurd i2 z)
    refine eg_iload (i := 5) 1 dL_law_460 rfl ?_
    refine eg_if_ne 477 dL_law_462 rfl (fun z => absurd z (by decide)) (fun _ => ?_)
    refine eg_goto 2717 dL_law_477 rfl ?_
    refine eg_sub [2, 3, 4, 5, 6] [(4, .int (nI i)), (3, .ref 94), (2, .ref 54), (1, .ref 16), (0, .ref 0)] rfl ?_
    exact kk h2 σ ⟨XI_rf X1 R2.1 r2, R2, by have := LL.2.2; omega⟩
end ARM
