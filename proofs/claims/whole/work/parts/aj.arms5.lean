section ARM
variable {h : eg_H} {σ : eg_S} {tm i L g : Nat} {xs : Nat → Int32} {nm : String}
theorem arm_46 (LL : LI h σ B00 tm) (ht : tm < 1000) (hi : i + 6 ≤ L) (hL : L ≤ 3072) (kk : ∀ (h' : eg_H) (σ' : eg_S), LI h' σ' B00 (tm + 1) → eg_AW (RLw, cL_law, 7, 460, some (L, xs, g), nm, ret) lz_Z 3000 70000 h00 2717 [(4, .int (nI i)), (3, .ref 94), (2, .ref 54), (1, .ref 16), (0, .ref 0)] [] h') : eg_AW (RLw, cL_law, 7, 460, some (L, xs, g), nm, ret) lz_Z 3000 70000 h00 2603 [(4, .int (nI i)), (3, .ref 94), (2, .ref 54), (1, .ref 16), (0, .ref 0)] [] h := by
  have ld1 := ld_1 hi hL
  have ld2 := ld_2 hi hL
  refine eg_aload_n (i := 1) 3 dL_law_2603 rfl rfl ?_
  refine eg_aload_n (i := 0) 4 dL_law_2604 rfl rfl ?_
  refine eg_iload (i := 4) 0 dL_law_2605 rfl ?_
  refine eg_iconst (v := (1 : Int32)) dL_law_2607 (by decide) ?_
  refine eg_iadd dL_law_2608 ?_
  refine eg_sld dL_law_2609 ld1 ?_
  refine eg_aload_n (i := 0) 4 dL_law_2610 rfl rfl ?_
  refine eg_iload (i := 4) 0 dL_law_2611 rfl ?_
  refine eg_iconst (v := (2 : Int32)) dL_law_2613 (by decide) ?_
  refine eg_iadd dL_law_2614 ?_
  refine eg_sld dL_law_2615 ld2 ?_
  obtain ⟨h1, h2, e1, e2, LN⟩ := L_played LL (xs ((nI i) + (1 : Int32)).toNatClampNeg) (xs ((nI i) + (2 : Int32)).toNatClampNeg)
  refine eg_callV (c := 12) (n := 2) [.int ((xs ((nI i) + (1 : Int32)).toNatClampNeg)), .int ((xs ((nI i) + (2 : Int32)).toNatClampNeg))] dL_law_2616 (mX12_played e1) rfl (fX12_played_O e1) (Nat.le_of_ble_eq_true rfl) rfl ew_1317 ew_1318 ew_1319 ew_100 ew_1320 hy_X12_played rfl (Nat.le_of_ble_eq_true rfl) (Nat.le_of_ble_eq_true rfl) (Nat.le_of_ble_eq_true rfl) ?_
  refine eg_aload_n (i := 2) 2 dL_law_2619 rfl rfl ?_
  refine eg_aload_n (i := 0) 4 dL_law_2620 rfl rfl ?_
  refine eg_iload (i := 4) 0 dL_law_2621 rfl ?_
  refine eg_iconst (v := (1 : Int32)) dL_law_2623 (by decide) ?_
  refine eg_iadd dL_law_2624 ?_
  refine eg_sld dL_law_2625 ld1 ?_
  refine eg_aload_n (i := 0) 4 dL_law_2626 rfl rfl ?_
  refine eg_iload (i := 4) 0 dL_law_2627 rfl ?_
  refine eg_iconst (v := (2 : Int32)) dL_law_2629 (by decide) ?_
  refine eg_iadd dL_law_2630 ?_
  refine eg_sld dL_law_2631 ld2 ?_
  refine eg_callV (c := 13) (n := 2) [.int ((xs ((nI i) + (1 : Int32)).toNatClampNeg)), .int ((xs ((nI i) + (2 : Int32)).toNatClampNeg))] dL_law_2632 (mX13_played e2) rfl (fX13_played_O e2) (Nat.le_of_ble_eq_true rfl) rfl ew_2177 ew_2178 ew_2179 ew_110 ew_2180 hy_X13_played rfl (Nat.le_of_ble_eq_true rfl) (Nat.le_of_ble_eq_true rfl) (Nat.le_of_ble_eq_true rfl) ?_
  refine eg_ic_eq 2717 dL_law_2635 rfl (fun _ => ?_) (fun z => absurd rfl z)
  exact kk _ _ LN
theorem arm_47 (LL : LI h σ B00 tm) (ht : tm < 1000) (hi : i + 6 ≤ L) (hL : L ≤ 3072) (kk : ∀ (h' : eg_H) (σ' : eg_S), LI h' σ' B00 (tm + 1) → eg_AW (RLw, cL_law, 7, 460, some (L, xs, g), nm, ret) lz_Z 3000 70000 h00 2717 [(4, .int (nI i)), (3, .ref 94), (2, .ref 54), (1, .ref 16), (0, .ref 0)] [] h') : eg_AW (RLw, cL_law, 7, 460, some (L, xs, g), nm, ret) lz_Z 3000 70000 h00 2640 [(4, .int (nI i)), (3, .ref 94), (2, .ref 54), (1, .ref 16), (0, .ref 0)] [] h := by
  refine eg_aload_n (i := 1) 3 dL_law_2640 rfl rfl ?_
  obtain ⟨h1, h2, e1, e2, LN⟩ := L_champion LL
  refine eg_callV (c := 12) (n := 0) [] dL_law_2641 (mX12_champion e1) rfl (fX12_champion_O e1) (Nat.le_of_ble_eq_true rfl) rfl ew_1321 ew_1322 ew_1323 ew_100 ew_1324 hy_X12_champion rfl (Nat.le_of_ble_eq_true rfl) (Nat.le_of_ble_eq_true rfl) (Nat.le_of_ble_eq_true rfl) ?_
  refine eg_aload_n (i := 2) 2 dL_law_2644 rfl rfl ?_
  refine eg_callV (c := 13) (n := 0) [] dL_law_2645 (mX13_champion e2) rfl (fX13_champion_O e2) (Nat.le_of_ble_eq_true rfl) rfl ew_2181 ew_2182 ew_2183 ew_110 ew_2184 hy_X13_champion rfl (Nat.le_of_ble_eq_true rfl) (Nat.le_of_ble_eq_true rfl) (Nat.le_of_ble_eq_true rfl) ?_
  refine eg_ic_eq 2717 dL_law_2648 rfl (fun _ => ?_) (fun z => absurd rfl z)
  exact kk _ _ LN
theorem arm_48 (LL : LI h σ B00 tm) (ht : tm < 1000) (hi : i + 6 ≤ L) (hL : L ≤ 3072) (kk : ∀ (h' : eg_H) (σ' : eg_S), LI h' σ' B00 (tm + 1) → eg_AW (RLw, cL_law, 7, 460, some (L, xs, g), nm, ret) lz_Z 3000 70000 h00 2717 [(4, .int (nI i)), (3, .ref 94), (2, .ref 54), (1, .ref 16), (0, .ref 0)] [] h') : eg_AW (RLw, cL_law, 7, 460, some (L, xs, g), nm, ret) lz_Z 3000 70000 h00 2653 [(4, .int (nI i)), (3, .ref 94), (2, .ref 54), (1, .ref 16), (0, .ref 0)] [] h := by
  refine eg_aload_n (i := 1) 3 dL_law_2653 rfl rfl ?_
  obtain ⟨h1, h2, e1, e2, LN⟩ := L_undo LL
  refine eg_callV (c := 12) (n := 0) [] dL_law_2654 (mX12_undo e1) rfl (fX12_undo_O e1) (Nat.le_of_ble_eq_true rfl) rfl ew_1325 ew_1326 ew_1327 ew_100 ew_1328 hy_X12_undo rfl (Nat.le_of_ble_eq_true rfl) (Nat.le_of_ble_eq_true rfl) (Nat.le_of_ble_eq_true rfl) ?_
  refine eg_aload_n (i := 2) 2 dL_law_2657 rfl rfl ?_
  refine eg_callV (c := 13) (n := 0) [] dL_law_2658 (mX13_undo e2) rfl (fX13_undo_O e2) (Nat.le_of_ble_eq_true rfl) rfl ew_2185 ew_2186 ew_2187 ew_110 ew_2188 hy_X13_undo rfl (Nat.le_of_ble_eq_true rfl) (Nat.le_of_ble_eq_true rfl) (Nat.le_of_ble_eq_true rfl) ?_
  refine eg_ic_eq 2717 dL_law_2661 rfl (fun _ => ?_) (fun z => absurd rfl z)
  exact kk _ _ LN
theorem arm_49 (LL : LI h σ B00 tm) (ht : tm < 1000) (hi : i + 6 ≤ L) (hL : L ≤ 3072) (kk : ∀ (h' : eg_H) (σ' : eg_S), LI h' σ' B00 (tm + 1) → eg_AW (RLw, cL_law, 7, 460, some (L, xs, g), nm, ret) lz_Z 3000 70000 h00 2717 [(4, .int (nI i)), (3, .ref 94), (2, .ref 54), (1, .ref 16), (0, .ref 0)] [] h') : eg_AW (RLw, cL_law, 7, 460, some (L, xs, g), nm, ret) lz_Z 3000 70000 h00 2666 [(4, .int (nI i)), (3, .ref 94), (2, .ref 54), (1, .ref 16), (0, .ref 0)] [] h := by
  refine eg_aload_n (i := 1) 3 dL_law_2666 rfl rfl ?_
  obtain ⟨h1, h2, e1, e2, LN⟩ := L_image LL
  refine eg_callV (c := 12) (n := 0) [] dL_law_2667 (mX12_image e1) rfl (fX12_image_O e1) (Nat.le_of_ble_eq_true rfl) rfl ew_1333 ew_1334 ew_1335 ew_100 ew_1336 hy_X12_image rfl (Nat.le_of_ble_eq_true rfl) (Nat.le_of_ble_eq_true rfl) (Nat.le_of_ble_eq_true rfl) ?_
  refine eg_aload_n (i := 2) 2 dL_law_2670 rfl rfl ?_
  refine eg_callV (c := 13) (n := 0) [] dL_law_2671 (mX13_image e2) rfl (fX13_image_O e2) (Nat.le_of_ble_eq_true rfl) rfl ew_2189 ew_2190 ew_2191 ew_110 ew_2192 hy_X13_image rfl (Nat.le_of_ble_eq_true rfl) (Nat.le_of_ble_eq_true rfl) (Nat.le_of_ble_eq_true rfl) ?_
  refine eg_ic_eq 2717 dL_law_2674 rfl (fun _ => ?_) (fun z => absurd rfl z)
  exact kk _ _ LN
theorem arm_50 (LL : LI h σ B00 tm) (ht : tm < 1000) (hi : i + 6 ≤ L) (hL : L ≤ 3072) (kk : ∀ (h' : eg_H) (σ' : eg_S), LI h' σ' B00 (tm + 1) → eg_AW (RLw, cL_law, 7, 460, some (L, xs, g), nm, ret) lz_Z 3000 70000 h00 2717 [(4, .int (nI i)), (3, .ref 94), (2, .ref 54), (1, .ref 16), (0, .ref 0)] [] h') : eg_AW (RLw, cL_law, 7, 460, some (L, xs, g), nm, ret) lz_Z 3000 70000 h00 2679 [(4, .int (nI i)), (3, .ref 94), (2, .ref 54), (1, .ref 16), (0, .ref 0)] [] h := by
  refine eg_aload_n (i := 1) 3 dL_law_2679 rfl rfl ?_
  obtain ⟨h1, h2, e1, e2, LN⟩ := L_back LL  (by omega)
  refine eg_callV (c := 12) (n := 0) [] dL_law_2680 (mX12_back e1) rfl (fX12_back_O e1) (Nat.le_of_ble_eq_true rfl) rfl ew_1344 ew_1345 ew_1346 ew_100 ew_1347 hy_X12_back rfl (Nat.le_of_ble_eq_true rfl) (Nat.le_of_ble_eq_true rfl) (Nat.le_of_ble_eq_true rfl) ?_
  refine eg_aload_n (i := 2) 2 dL_law_2683 rfl rfl ?_
  refine eg_callV (c := 13) (n := 0) [] dL_law_2684 (mX13_back e2) rfl (fX13_back_O e2) (Nat.le_of_ble_eq_true rfl) rfl ew_2193 ew_2194 ew_2195 ew_110 ew_2196 hy_X13_back rfl (Nat.le_of_ble_eq_true rfl) (Nat.le_of_ble_eq_true rfl) (Nat.le_of_ble_eq_true rfl) ?_
  refine eg_ic_eq 2717 dL_law_2687 rfl (fun _ => ?_) (fun z => absurd rfl z)
  exact kk _ _ LN
theorem arm_51 (LL : LI h σ B00 tm) (ht : tm < 1000) (hi : i + 6 ≤ L) (hL : L ≤ 3072) (kk : ∀ (h' : eg_H) (σ' : eg_S), LI h' σ' B00 (tm + 1) → eg_AW (RLw, cL_law, 7, 460, some (L, xs, g), nm, ret) lz_Z 3000 70000 h00 2717 [(4, .int (nI i)), (3, .ref 94), (2, .ref 54), (1, .ref 16), (0, .ref 0)] [] h') : eg_AW (RLw, cL_law, 7, 460, some (L, xs, g), nm, ret) lz_Z 3000 70000 h00 2692 [(4, .int (nI i)), (3, .ref 94), (2, .ref 54), (1, .ref 16), (0, .ref 0)] [] h := by
  have ld1 := ld_1 hi hL
  refine eg_aload_n (i := 1) 3 dL_law_2692 rfl rfl ?_
  refine eg_aload_n (i := 0) 4 dL_law_2693 rfl rfl ?_
  refine eg_iload (i := 4) 0 dL_law_2694 rfl ?_
  refine eg_iconst (v := (1 : Int32)) dL_law_2696 (by decide) ?_
  refine eg_iadd dL_law_2697 ?_
  refine eg_sld dL_law_2698 ld1 ?_
  obtain ⟨h1, h2, e1, e2, LN⟩ := L_count LL (xs ((nI i) + (1 : Int32)).toNatClampNeg)
  refine eg_callV (c := 12) (n := 1) [.int ((xs ((nI i) + (1 : Int32)).toNatClampNeg))] dL_law_2699 (mX12_count e1) rfl (fX12_count_O e1) (Nat.le_of_ble_eq_true rfl) rfl ew_1348 ew_1349 ew_1350 ew_100 ew_1351 hy_X12_count rfl (Nat.le_of_ble_eq_true rfl) (Nat.le_of_ble_eq_true rfl) (Nat.le_of_ble_eq_true rfl) ?_
  refine eg_aload_n (i := 2) 2 dL_law_2702 rfl rfl ?_
  refine eg_aload_n (i := 0) 4 dL_law_2703 rfl rfl ?_
  refine eg_iload (i := 4) 0 dL_law_2704 rfl ?_
  refine eg_iconst (v := (1 : Int32)) dL_law_2706 (by decide) ?_
  refine eg_iadd dL_law_2707 ?_
  refine eg_sld dL_law_2708 ld1 ?_
  refine eg_callV (c := 13) (n := 1) [.int ((xs ((nI i) + (1 : Int32)).toNatClampNeg))] dL_law_2709 (mX13_count e2) rfl (fX13_count_O e2) (Nat.le_of_ble_eq_true rfl) rfl ew_2197 ew_2198 ew_2199 ew_110 ew_2200 hy_X13_count rfl (Nat.le_of_ble_eq_true rfl) (Nat.le_of_ble_eq_true rfl) (Nat.le_of_ble_eq_true rfl) ?_
  refine eg_ic_eq 2717 dL_law_2712 rfl (fun _ => ?_) (fun z => absurd rfl z)
  exact kk _ _ LN
end ARM
