section ARM
variable {h : eg_H} {σ : eg_S} {tm i L g : Nat} {xs : Nat → Int32} {nm : String}
theorem arm_10 (LL : LI h σ B00 tm) (ht : tm < 1000) (hi : i + 6 ≤ L) (hL : L ≤ 3072) (kk : ∀ (h' : eg_H) (σ' : eg_S), LI h' σ' B00 (tm + 1) → eg_AW (RLw, cL_law, 7, 460, some (L, xs, g), nm, ret) lz_Z 3000 70000 h00 2717 [(4, .int (nI i)), (3, .ref 94), (2, .ref 54), (1, .ref 16), (0, .ref 0)] [] h') : eg_AW (RLw, cL_law, 7, 460, some (L, xs, g), nm, ret) lz_Z 3000 70000 h00 725 [(4, .int (nI i)), (3, .ref 94), (2, .ref 54), (1, .ref 16), (0, .ref 0)] [] h := by
  have ld1 := ld_1 hi hL
  have ld2 := ld_2 hi hL
  have ld3 := ld_3 hi hL
  have ld4 := ld_4 hi hL
  refine eg_aload_n (i := 1) 3 dL_law_725 rfl rfl ?_
  refine eg_aload_n (i := 0) 4 dL_law_726 rfl rfl ?_
  refine eg_iload (i := 4) 0 dL_law_727 rfl ?_
  refine eg_iconst (v := (1 : Int32)) dL_law_729 (by decide) ?_
  refine eg_iadd dL_law_730 ?_
  refine eg_sld dL_law_731 ld1 ?_
  refine eg_aload_n (i := 0) 4 dL_law_732 rfl rfl ?_
  refine eg_iload (i := 4) 0 dL_law_733 rfl ?_
  refine eg_iconst (v := (2 : Int32)) dL_law_735 (by decide) ?_
  refine eg_iadd dL_law_736 ?_
  refine eg_sld dL_law_737 ld2 ?_
  refine eg_aload_n (i := 0) 4 dL_law_738 rfl rfl ?_
  refine eg_iload (i := 4) 0 dL_law_739 rfl ?_
  refine eg_iconst (v := (3 : Int32)) dL_law_741 (by decide) ?_
  refine eg_iadd dL_law_742 ?_
  refine eg_sld dL_law_743 ld3 ?_
  refine eg_aload_n (i := 0) 4 dL_law_744 rfl rfl ?_
  refine eg_iload (i := 4) 0 dL_law_745 rfl ?_
  refine eg_iconst (v := (4 : Int32)) dL_law_747 (by decide) ?_
  refine eg_iadd dL_law_748 ?_
  refine eg_sld dL_law_749 ld4 ?_
  obtain ⟨h1, h2, e1, e2, LN⟩ := L_good LL (xs ((nI i) + (1 : Int32)).toNatClampNeg) (xs ((nI i) + (2 : Int32)).toNatClampNeg) (xs ((nI i) + (3 : Int32)).toNatClampNeg) (xs ((nI i) + (4 : Int32)).toNatClampNeg)
  refine eg_callV (c := 12) (n := 4) [.int ((xs ((nI i) + (1 : Int32)).toNatClampNeg)), .int ((xs ((nI i) + (2 : Int32)).toNatClampNeg)), .int ((xs ((nI i) + (3 : Int32)).toNatClampNeg)), .int ((xs ((nI i) + (4 : Int32)).toNatClampNeg))] dL_law_750 (mX12_good e1) rfl (fX12_good_O e1) (Nat.le_of_ble_eq_true rfl) rfl ew_778 ew_779 ew_780 ew_100 ew_781 hy_X12_good rfl (Nat.le_of_ble_eq_true rfl) (Nat.le_of_ble_eq_true rfl) (Nat.le_of_ble_eq_true rfl) ?_
  refine eg_aload_n (i := 2) 2 dL_law_753 rfl rfl ?_
  refine eg_aload_n (i := 0) 4 dL_law_754 rfl rfl ?_
  refine eg_iload (i := 4) 0 dL_law_755 rfl ?_
  refine eg_iconst (v := (1 : Int32)) dL_law_757 (by decide) ?_
  refine eg_iadd dL_law_758 ?_
  refine eg_sld dL_law_759 ld1 ?_
  refine eg_aload_n (i := 0) 4 dL_law_760 rfl rfl ?_
  refine eg_iload (i := 4) 0 dL_law_761 rfl ?_
  refine eg_iconst (v := (2 : Int32)) dL_law_763 (by decide) ?_
  refine eg_iadd dL_law_764 ?_
  refine eg_sld dL_law_765 ld2 ?_
  refine eg_aload_n (i := 0) 4 dL_law_766 rfl rfl ?_
  refine eg_iload (i := 4) 0 dL_law_767 rfl ?_
  refine eg_iconst (v := (3 : Int32)) dL_law_769 (by decide) ?_
  refine eg_iadd dL_law_770 ?_
  refine eg_sld dL_law_771 ld3 ?_
  refine eg_aload_n (i := 0) 4 dL_law_772 rfl rfl ?_
  refine eg_iload (i := 4) 0 dL_law_773 rfl ?_
  refine eg_iconst (v := (4 : Int32)) dL_law_775 (by decide) ?_
  refine eg_iadd dL_law_776 ?_
  refine eg_sld dL_law_777 ld4 ?_
  refine eg_callV (c := 13) (n := 4) [.int ((xs ((nI i) + (1 : Int32)).toNatClampNeg)), .int ((xs ((nI i) + (2 : Int32)).toNatClampNeg)), .int ((xs ((nI i) + (3 : Int32)).toNatClampNeg)), .int ((xs ((nI i) + (4 : Int32)).toNatClampNeg))] dL_law_778 (mX13_good e2) rfl (fX13_good_O e2) (Nat.le_of_ble_eq_true rfl) rfl ew_1925 ew_1926 ew_1927 ew_110 ew_1928 hy_X13_good rfl (Nat.le_of_ble_eq_true rfl) (Nat.le_of_ble_eq_true rfl) (Nat.le_of_ble_eq_true rfl) ?_
  refine eg_ic_eq 2717 dL_law_781 rfl (fun _ => ?_) (fun z => absurd rfl z)
  exact kk _ _ LN
theorem arm_11 (LL : LI h σ B00 tm) (ht : tm < 1000) (hi : i + 6 ≤ L) (hL : L ≤ 3072) (kk : ∀ (h' : eg_H) (σ' : eg_S), LI h' σ' B00 (tm + 1) → eg_AW (RLw, cL_law, 7, 460, some (L, xs, g), nm, ret) lz_Z 3000 70000 h00 2717 [(4, .int (nI i)), (3, .ref 94), (2, .ref 54), (1, .ref 16), (0, .ref 0)] [] h') : eg_AW (RLw, cL_law, 7, 460, some (L, xs, g), nm, ret) lz_Z 3000 70000 h00 786 [(4, .int (nI i)), (3, .ref 94), (2, .ref 54), (1, .ref 16), (0, .ref 0)] [] h := by
  have ld1 := ld_1 hi hL
  have ld2 := ld_2 hi hL
  have ld3 := ld_3 hi hL
  have ld4 := ld_4 hi hL
  refine eg_aload_n (i := 1) 3 dL_law_786 rfl rfl ?_
  refine eg_aload_n (i := 0) 4 dL_law_787 rfl rfl ?_
  refine eg_iload (i := 4) 0 dL_law_788 rfl ?_
  refine eg_iconst (v := (1 : Int32)) dL_law_790 (by decide) ?_
  refine eg_iadd dL_law_791 ?_
  refine eg_sld dL_law_792 ld1 ?_
  refine eg_aload_n (i := 0) 4 dL_law_793 rfl rfl ?_
  refine eg_iload (i := 4) 0 dL_law_794 rfl ?_
  refine eg_iconst (v := (2 : Int32)) dL_law_796 (by decide) ?_
  refine eg_iadd dL_law_797 ?_
  refine eg_sld dL_law_798 ld2 ?_
  refine eg_aload_n (i := 0) 4 dL_law_799 rfl rfl ?_
  refine eg_iload (i := 4) 0 dL_law_800 rfl ?_
  refine eg_iconst (v := (3 : Int32)) dL_law_802 (by decide) ?_
  refine eg_iadd dL_law_803 ?_
  refine eg_sld dL_law_804 ld3 ?_
  refine eg_aload_n (i := 0) 4 dL_law_805 rfl rfl ?_
  refine eg_iload (i := 4) 0 dL_law_806 rfl ?_
  refine eg_iconst (v := (4 : Int32)) dL_law_808 (by decide) ?_
  refine eg_iadd dL_law_809 ?_
  refine eg_sld dL_law_810 ld4 ?_
  obtain ⟨h1, h2, e1, e2, LN⟩ := L_best LL (xs ((nI i) + (1 : Int32)).toNatClampNeg) (xs ((nI i) + (2 : Int32)).toNatClampNeg) (xs ((nI i) + (3 : Int32)).toNatClampNeg) (xs ((nI i) + (4 : Int32)).toNatClampNeg)
  refine eg_callV (c := 12) (n := 4) [.int ((xs ((nI i) + (1 : Int32)).toNatClampNeg)), .int ((xs ((nI i) + (2 : Int32)).toNatClampNeg)), .int ((xs ((nI i) + (3 : Int32)).toNatClampNeg)), .int ((xs ((nI i) + (4 : Int32)).toNatClampNeg))] dL_law_811 (mX12_best e1) rfl (fX12_best_O e1) (Nat.le_of_ble_eq_true rfl) rfl ew_830 ew_831 ew_832 ew_100 ew_833 hy_X12_best rfl (Nat.le_of_ble_eq_true rfl) (Nat.le_of_ble_eq_true rfl) (Nat.le_of_ble_eq_true rfl) ?_
  refine eg_aload_n (i := 2) 2 dL_law_814 rfl rfl ?_
  refine eg_aload_n (i := 0) 4 dL_law_815 rfl rfl ?_
  refine eg_iload (i := 4) 0 dL_law_816 rfl ?_
  refine eg_iconst (v := (1 : Int32)) dL_law_818 (by decide) ?_
  refine eg_iadd dL_law_819 ?_
  refine eg_sld dL_law_820 ld1 ?_
  refine eg_aload_n (i := 0) 4 dL_law_821 rfl rfl ?_
  refine eg_iload (i := 4) 0 dL_law_822 rfl ?_
  refine eg_iconst (v := (2 : Int32)) dL_law_824 (by decide) ?_
  refine eg_iadd dL_law_825 ?_
  refine eg_sld dL_law_826 ld2 ?_
  refine eg_aload_n (i := 0) 4 dL_law_827 rfl rfl ?_
  refine eg_iload (i := 4) 0 dL_law_828 rfl ?_
  refine eg_iconst (v := (3 : Int32)) dL_law_830 (by decide) ?_
  refine eg_iadd dL_law_831 ?_
  refine eg_sld dL_law_832 ld3 ?_
  refine eg_aload_n (i := 0) 4 dL_law_833 rfl rfl ?_
  refine eg_iload (i := 4) 0 dL_law_834 rfl ?_
  refine eg_iconst (v := (4 : Int32)) dL_law_836 (by decide) ?_
  refine eg_iadd dL_law_837 ?_
  refine eg_sld dL_law_838 ld4 ?_
  refine eg_callV (c := 13) (n := 4) [.int ((xs ((nI i) + (1 : Int32)).toNatClampNeg)), .int ((xs ((nI i) + (2 : Int32)).toNatClampNeg)), .int ((xs ((nI i) + (3 : Int32)).toNatClampNeg)), .int ((xs ((nI i) + (4 : Int32)).toNatClampNeg))] dL_law_839 (mX13_best e2) rfl (fX13_best_O e2) (Nat.le_of_ble_eq_true rfl) rfl ew_1961 ew_1962 ew_1963 ew_110 ew_1964 hy_X13_best rfl (Nat.le_of_ble_eq_true rfl) (Nat.le_of_ble_eq_true rfl) (Nat.le_of_ble_eq_true rfl) ?_
  refine eg_ic_eq 2717 dL_law_842 rfl (fun _ => ?_) (fun z => absurd rfl z)
  exact kk _ _ LN
theorem arm_12 (LL : LI h σ B00 tm) (ht : tm < 1000) (hi : i + 6 ≤ L) (hL : L ≤ 3072) (kk : ∀ (h' : eg_H) (σ' : eg_S), LI h' σ' B00 (tm + 1) → eg_AW (RLw, cL_law, 7, 460, some (L, xs, g), nm, ret) lz_Z 3000 70000 h00 2717 [(4, .int (nI i)), (3, .ref 94), (2, .ref 54), (1, .ref 16), (0, .ref 0)] [] h') : eg_AW (RLw, cL_law, 7, 460, some (L, xs, g), nm, ret) lz_Z 3000 70000 h00 847 [(4, .int (nI i)), (3, .ref 94), (2, .ref 54), (1, .ref 16), (0, .ref 0)] [] h := by
  have ld1 := ld_1 hi hL
  have ld2 := ld_2 hi hL
  have ld3 := ld_3 hi hL
  refine eg_aload_n (i := 1) 3 dL_law_847 rfl rfl ?_
  refine eg_aload_n (i := 0) 4 dL_law_848 rfl rfl ?_
  refine eg_iload (i := 4) 0 dL_law_849 rfl ?_
  refine eg_iconst (v := (1 : Int32)) dL_law_851 (by decide) ?_
  refine eg_iadd dL_law_852 ?_
  refine eg_sld dL_law_853 ld1 ?_
  refine eg_aload_n (i := 0) 4 dL_law_854 rfl rfl ?_
  refine eg_iload (i := 4) 0 dL_law_855 rfl ?_
  refine eg_iconst (v := (2 : Int32)) dL_law_857 (by decide) ?_
  refine eg_iadd dL_law_858 ?_
  refine eg_sld dL_law_859 ld2 ?_
  refine eg_aload_n (i := 0) 4 dL_law_860 rfl rfl ?_
  refine eg_iload (i := 4) 0 dL_law_861 rfl ?_
  refine eg_iconst (v := (3 : Int32)) dL_law_863 (by decide) ?_
  refine eg_iadd dL_law_864 ?_
  refine eg_sld dL_law_865 ld3 ?_
  obtain ⟨h1, h2, e1, e2, LN⟩ := L_comes LL (xs ((nI i) + (1 : Int32)).toNatClampNeg) (xs ((nI i) + (2 : Int32)).toNatClampNeg) (xs ((nI i) + (3 : Int32)).toNatClampNeg)
  refine eg_callV (c := 12) (n := 3) [.int ((xs ((nI i) + (1 : Int32)).toNatClampNeg)), .int ((xs ((nI i) + (2 : Int32)).toNatClampNeg)), .int ((xs ((nI i) + (3 : Int32)).toNatClampNeg))] dL_law_866 (mX12_comes e1) rfl (fX12_comes_O e1) (Nat.le_of_ble_eq_true rfl) rfl ew_940 ew_941 ew_942 ew_100 ew_943 hy_X12_comes rfl (Nat.le_of_ble_eq_true rfl) (Nat.le_of_ble_eq_true rfl) (Nat.le_of_ble_eq_true rfl) ?_
  refine eg_aload_n (i := 2) 2 dL_law_869 rfl rfl ?_
  refine eg_aload_n (i := 0) 4 dL_law_870 rfl rfl ?_
  refine eg_iload (i := 4) 0 dL_law_871 rfl ?_
  refine eg_iconst (v := (1 : Int32)) dL_law_873 (by decide) ?_
  refine eg_iadd dL_law_874 ?_
  refine eg_sld dL_law_875 ld1 ?_
  refine eg_aload_n (i := 0) 4 dL_law_876 rfl rfl ?_
  refine eg_iload (i := 4) 0 dL_law_877 rfl ?_
  refine eg_iconst (v := (2 : Int32)) dL_law_879 (by decide) ?_
  refine eg_iadd dL_law_880 ?_
  refine eg_sld dL_law_881 ld2 ?_
  refine eg_aload_n (i := 0) 4 dL_law_882 rfl rfl ?_
  refine eg_iload (i := 4) 0 dL_law_883 rfl ?_
  refine eg_iconst (v := (3 : Int32)) dL_law_885 (by decide) ?_
  refine eg_iadd dL_law_886 ?_
  refine eg_sld dL_law_887 ld3 ?_
  refine eg_callV (c := 13) (n := 3) [.int ((xs ((nI i) + (1 : Int32)).toNatClampNeg)), .int ((xs ((nI i) + (2 : Int32)).toNatClampNeg)), .int ((xs ((nI i) + (3 : Int32)).toNatClampNeg))] dL_law_888 (mX13_comes e2) rfl (fX13_comes_O e2) (Nat.le_of_ble_eq_true rfl) rfl ew_1969 ew_1970 ew_1971 ew_110 ew_1972 hy_X13_comes rfl (Nat.le_of_ble_eq_true rfl) (Nat.le_of_ble_eq_true rfl) (Nat.le_of_ble_eq_true rfl) ?_
  refine eg_ic_eq 2717 dL_law_891 rfl (fun _ => ?_) (fun z => absurd rfl z)
  exact kk _ _ LN
theorem arm_13 (LL : LI h σ B00 tm) (ht : tm < 1000) (hi : i + 6 ≤ L) (hL : L ≤ 3072) (kk : ∀ (h' : eg_H) (σ' : eg_S), LI h' σ' B00 (tm + 1) → eg_AW (RLw, cL_law, 7, 460, some (L, xs, g), nm, ret) lz_Z 3000 70000 h00 2717 [(4, .int (nI i)), (3, .ref 94), (2, .ref 54), (1, .ref 16), (0, .ref 0)] [] h') : eg_AW (RLw, cL_law, 7, 460, some (L, xs, g), nm, ret) lz_Z 3000 70000 h00 896 [(4, .int (nI i)), (3, .ref 94), (2, .ref 54), (1, .ref 16), (0, .ref 0)] [] h := by
  have ld1 := ld_1 hi hL
  have ld2 := ld_2 hi hL
  refine eg_aload_n (i := 1) 3 dL_law_896 rfl rfl ?_
  refine eg_aload_n (i := 0) 4 dL_law_897 rfl rfl ?_
  refine eg_iload (i := 4) 0 dL_law_898 rfl ?_
  refine eg_iconst (v := (1 : Int32)) dL_law_900 (by decide) ?_
  refine eg_iadd dL_law_901 ?_
  refine eg_sld dL_law_902 ld1 ?_
  refine eg_aload_n (i := 0) 4 dL_law_903 rfl rfl ?_
  refine eg_iload (i := 4) 0 dL_law_904 rfl ?_
  refine eg_iconst (v := (2 : Int32)) dL_law_906 (by decide) ?_
  refine eg_iadd dL_law_907 ?_
  refine eg_sld dL_law_908 ld2 ?_
  obtain ⟨h1, h2, e1, e2, LN⟩ := L_far LL (xs ((nI i) + (1 : Int32)).toNatClampNeg) (xs ((nI i) + (2 : Int32)).toNatClampNeg)
  refine eg_callV (c := 12) (n := 2) [.int ((xs ((nI i) + (1 : Int32)).toNatClampNeg)), .int ((xs ((nI i) + (2 : Int32)).toNatClampNeg))] dL_law_909 (mX12_far e1) rfl (fX12_far_O e1) (Nat.le_of_ble_eq_true rfl) rfl ew_972 ew_973 ew_974 ew_100 ew_975 hy_X12_far rfl (Nat.le_of_ble_eq_true rfl) (Nat.le_of_ble_eq_true rfl) (Nat.le_of_ble_eq_true rfl) ?_
  refine eg_aload_n (i := 2) 2 dL_law_912 rfl rfl ?_
  refine eg_aload_n (i := 0) 4 dL_law_913 rfl rfl ?_
  refine eg_iload (i := 4) 0 dL_law_914 rfl ?_
  refine eg_iconst (v := (1 : Int32)) dL_law_916 (by decide) ?_
  refine eg_iadd dL_law_917 ?_
  refine eg_sld dL_law_918 ld1 ?_
  refine eg_aload_n (i := 0) 4 dL_law_919 rfl rfl ?_
  refine eg_iload (i := 4) 0 dL_law_920 rfl ?_
  refine eg_iconst (v := (2 : Int32)) dL_law_922 (by decide) ?_
  refine eg_iadd dL_law_923 ?_
  refine eg_sld dL_law_924 ld2 ?_
  refine eg_callV (c := 13) (n := 2) [.int ((xs ((nI i) + (1 : Int32)).toNatClampNeg)), .int ((xs ((nI i) + (2 : Int32)).toNatClampNeg))] dL_law_925 (mX13_far e2) rfl (fX13_far_O e2) (Nat.le_of_ble_eq_true rfl) rfl ew_1978 ew_1979 ew_1980 ew_110 ew_1981 hy_X13_far rfl (Nat.le_of_ble_eq_true rfl) (Nat.le_of_ble_eq_true rfl) (Nat.le_of_ble_eq_true rfl) ?_
  refine eg_ic_eq 2717 dL_law_928 rfl (fun _ => ?_) (fun z => absurd rfl z)
  exact kk _ _ LN
theorem arm_14 (LL : LI h σ B00 tm) (ht : tm < 1000) (hi : i + 6 ≤ L) (hL : L ≤ 3072) (kk : ∀ (h' : eg_H) (σ' : eg_S), LI h' σ' B00 (tm + 1) → eg_AW (RLw, cL_law, 7, 460, some (L, xs, g), nm, ret) lz_Z 3000 70000 h00 2717 [(4, .int (nI i)), (3, .ref 94), (2, .ref 54), (1, .ref 16), (0, .ref 0)] [] h') : eg_AW (RLw, cL_law, 7, 460, some (L, xs, g), nm, ret) lz_Z 3000 70000 h00 933 [(4, .int (nI i)), (3, .ref 94), (2, .ref 54), (1, .ref 16), (0, .ref 0)] [] h := by
  have ld1 := ld_1 hi hL
  have ld2 := ld_2 hi hL
  refine eg_aload_n (i := 1) 3 dL_law_933 rfl rfl ?_
  refine eg_aload_n (i := 0) 4 dL_law_934 rfl rfl ?_
  refine eg_iload (i := 4) 0 dL_law_935 rfl ?_
  refine eg_iconst (v := (1 : Int32)) dL_law_937 (by decide) ?_
  refine eg_iadd dL_law_938 ?_
  refine eg_sld dL_law_939 ld1 ?_
  refine eg_aload_n (i := 0) 4 dL_law_940 rfl rfl ?_
  refine eg_iload (i := 4) 0 dL_law_941 rfl ?_
  refine eg_iconst (v := (2 : Int32)) dL_law_943 (by decide) ?_
  refine eg_iadd dL_law_944 ?_
  refine eg_sld dL_law_945 ld2 ?_
  obtain ⟨h1, h2, e1, e2, LN⟩ := L_hope LL (xs ((nI i) + (1 : Int32)).toNatClampNeg) (xs ((nI i) + (2 : Int32)).toNatClampNeg)
  refine eg_callV (c := 12) (n := 2) [.int ((xs ((nI i) + (1 : Int32)).toNatClampNeg)), .int ((xs ((nI i) + (2 : Int32)).toNatClampNeg))] dL_law_946 (mX12_hope e1) rfl (fX12_hope_O e1) (Nat.le_of_ble_eq_true rfl) rfl ew_980 ew_981 ew_982 ew_100 ew_983 hy_X12_hope rfl (Nat.le_of_ble_eq_true rfl) (Nat.le_of_ble_eq_true rfl) (Nat.le_of_ble_eq_true rfl) ?_
  refine eg_aload_n (i := 2) 2 dL_law_949 rfl rfl ?_
  refine eg_aload_n (i := 0) 4 dL_law_950 rfl rfl ?_
  refine eg_iload (i := 4) 0 dL_law_951 rfl ?_
  refine eg_iconst (v := (1 : Int32)) dL_law_953 (by decide) ?_
  refine eg_iadd dL_law_954 ?_
  refine eg_sld dL_law_955 ld1 ?_
  refine eg_aload_n (i := 0) 4 dL_law_956 rfl rfl ?_
  refine eg_iload (i := 4) 0 dL_law_957 rfl ?_
  refine eg_iconst (v := (2 : Int32)) dL_law_959 (by decide) ?_
  refine eg_iadd dL_law_960 ?_
  refine eg_sld dL_law_961 ld2 ?_
  refine eg_callV (c := 13) (n := 2) [.int ((xs ((nI i) + (1 : Int32)).toNatClampNeg)), .int ((xs ((nI i) + (2 : Int32)).toNatClampNeg))] dL_law_962 (mX13_hope e2) rfl (fX13_hope_O e2) (Nat.le_of_ble_eq_true rfl) rfl ew_1986 ew_1987 ew_1988 ew_110 ew_1989 hy_X13_hope rfl (Nat.le_of_ble_eq_true rfl) (Nat.le_of_ble_eq_true rfl) (Nat.le_of_ble_eq_true rfl) ?_
  refine eg_lc_eq 2717 dL_law_965 dL_law_966 rfl (fun _ => ?_) (fun z => absurd rfl z)
  exact kk _ _ LN
theorem arm_15 (LL : LI h σ B00 tm) (ht : tm < 1000) (hi : i + 6 ≤ L) (hL : L ≤ 3072) (kk : ∀ (h' : eg_H) (σ' : eg_S), LI h' σ' B00 (tm + 1) → eg_AW (RLw, cL_law, 7, 460, some (L, xs, g), nm, ret) lz_Z 3000 70000 h00 2717 [(4, .int (nI i)), (3, .ref 94), (2, .ref 54), (1, .ref 16), (0, .ref 0)] [] h') : eg_AW (RLw, cL_law, 7, 460, some (L, xs, g), nm, ret) lz_Z 3000 70000 h00 971 [(4, .int (nI i)), (3, .ref 94), (2, .ref 54), (1, .ref 16), (0, .ref 0)] [] h := by
  have ld1 := ld_1 hi hL
  have ld2 := ld_2 hi hL
  have ld3 := ld_3 hi hL
  refine eg_aload_n (i := 1) 3 dL_law_971 rfl rfl ?_
  refine eg_aload_n (i := 0) 4 dL_law_972 rfl rfl ?_
  refine eg_iload (i := 4) 0 dL_law_973 rfl ?_
  refine eg_iconst (v := (1 : Int32)) dL_law_975 (by decide) ?_
  refine eg_iadd dL_law_976 ?_
  refine eg_sld dL_law_977 ld1 ?_
  refine eg_aload_n (i := 0) 4 dL_law_978 rfl rfl ?_
  refine eg_iload (i := 4) 0 dL_law_979 rfl ?_
  refine eg_iconst (v := (2 : Int32)) dL_law_981 (by decide) ?_
  refine eg_iadd dL_law_982 ?_
  refine eg_sld dL_law_983 ld2 ?_
  refine eg_aload_n (i := 0) 4 dL_law_984 rfl rfl ?_
  refine eg_iload (i := 4) 0 dL_law_985 rfl ?_
  refine eg_iconst (v := (3 : Int32)) dL_law_987 (by decide) ?_
  refine eg_iadd dL_law_988 ?_
  refine eg_sld dL_law_989 ld3 ?_
  obtain ⟨h1, h2, e1, e2, LN⟩ := L_first LL (xs ((nI i) + (1 : Int32)).toNatClampNeg) (xs ((nI i) + (2 : Int32)).toNatClampNeg) (xs ((nI i) + (3 : Int32)).toNatClampNeg)
  refine eg_callV (c := 12) (n := 3) [.int ((xs ((nI i) + (1 : Int32)).toNatClampNeg)), .int ((xs ((nI i) + (2 : Int32)).toNatClampNeg)), .int ((xs ((nI i) + (3 : Int32)).toNatClampNeg))] dL_law_990 (mX12_first e1) rfl (fX12_first_O e1) (Nat.le_of_ble_eq_true rfl) rfl ew_989 ew_990 ew_991 ew_100 ew_992 hy_X12_first rfl (Nat.le_of_ble_eq_true rfl) (Nat.le_of_ble_eq_true rfl) (Nat.le_of_ble_eq_true rfl) ?_
  refine eg_aload_n (i := 2) 2 dL_law_993 rfl rfl ?_
  refine eg_aload_n (i := 0) 4 dL_law_994 rfl rfl ?_
  refine eg_iload (i := 4) 0 dL_law_995 rfl ?_
  refine eg_iconst (v := (1 : Int32)) dL_law_997 (by decide) ?_
  refine eg_iadd dL_law_998 ?_
  refine eg_sld dL_law_999 ld1 ?_
  refine eg_aload_n (i := 0) 4 dL_law_1000 rfl rfl ?_
  refine eg_iload (i := 4) 0 dL_law_1001 rfl ?_
  refine eg_iconst (v := (2 : Int32)) dL_law_1003 (by decide) ?_
  refine eg_iadd dL_law_1004 ?_
  refine eg_sld dL_law_1005 ld2 ?_
  refine eg_aload_n (i := 0) 4 dL_law_1006 rfl rfl ?_
  refine eg_iload (i := 4) 0 dL_law_1007 rfl ?_
  refine eg_iconst (v := (3 : Int32)) dL_law_1009 (by decide) ?_
  refine eg_iadd dL_law_1010 ?_
  refine eg_sld dL_law_1011 ld3 ?_
  refine eg_callV (c := 13) (n := 3) [.int ((xs ((nI i) + (1 : Int32)).toNatClampNeg)), .int ((xs ((nI i) + (2 : Int32)).toNatClampNeg)), .int ((xs ((nI i) + (3 : Int32)).toNatClampNeg))] dL_law_1012 (mX13_first e2) rfl (fX13_first_O e2) (Nat.le_of_ble_eq_true rfl) rfl ew_1991 ew_1992 ew_1993 ew_110 ew_1994 hy_X13_first rfl (Nat.le_of_ble_eq_true rfl) (Nat.le_of_ble_eq_true rfl) (Nat.le_of_ble_eq_true rfl) ?_
  refine eg_lc_eq 2717 dL_law_1015 dL_law_1016 rfl (fun _ => ?_) (fun z => absurd rfl z)
  exact kk _ _ LN
theorem arm_16 (LL : LI h σ B00 tm) (ht : tm < 1000) (hi : i + 6 ≤ L) (hL : L ≤ 3072) (kk : ∀ (h' : eg_H) (σ' : eg_S), LI h' σ' B00 (tm + 1) → eg_AW (RLw, cL_law, 7, 460, some (L, xs, g), nm, ret) lz_Z 3000 70000 h00 2717 [(4, .int (nI i)), (3, .ref 94), (2, .ref 54), (1, .ref 16), (0, .ref 0)] [] h') : eg_AW (RLw, cL_law, 7, 460, some (L, xs, g), nm, ret) lz_Z 3000 70000 h00 1021 [(4, .int (nI i)), (3, .ref 94), (2, .ref 54), (1, .ref 16), (0, .ref 0)] [] h := by
  have ld1 := ld_1 hi hL
  refine eg_aload_n (i := 1) 3 dL_law_1021 rfl rfl ?_
  refine eg_aload_n (i := 0) 4 dL_law_1022 rfl rfl ?_
  refine eg_iload (i := 4) 0 dL_law_1023 rfl ?_
  refine eg_iconst (v := (1 : Int32)) dL_law_1025 (by decide) ?_
  refine eg_iadd dL_law_1026 ?_
  refine eg_sld dL_law_1027 ld1 ?_
  obtain ⟨h1, h2, e1, e2, LN⟩ := L_whom LL (xs ((nI i) + (1 : Int32)).toNatClampNeg)
  refine eg_callV (c := 12) (n := 1) [.int ((xs ((nI i) + (1 : Int32)).toNatClampNeg))] dL_law_1028 (mX12_whom e1) rfl (fX12_whom_O e1) (Nat.le_of_ble_eq_true rfl) rfl ew_1065 ew_1066 ew_1067 ew_100 ew_1068 hy_X12_whom rfl (Nat.le_of_ble_eq_true rfl) (Nat.le_of_ble_eq_true rfl) (Nat.le_of_ble_eq_true rfl) ?_
  refine eg_aload_n (i := 2) 2 dL_law_1031 rfl rfl ?_
  refine eg_aload_n (i := 0) 4 dL_law_1032 rfl rfl ?_
  refine eg_iload (i := 4) 0 dL_law_1033 rfl ?_
  refine eg_iconst (v := (1 : Int32)) dL_law_1035 (by decide) ?_
  refine eg_iadd dL_law_1036 ?_
  refine eg_sld dL_law_1037 ld1 ?_
  refine eg_callV (c := 13) (n := 1) [.int ((xs ((nI i) + (1 : Int32)).toNatClampNeg))] dL_law_1038 (mX13_whom e2) rfl (fX13_whom_O e2) (Nat.le_of_ble_eq_true rfl) rfl ew_1998 ew_1999 ew_2000 ew_110 ew_2001 hy_X13_whom rfl (Nat.le_of_ble_eq_true rfl) (Nat.le_of_ble_eq_true rfl) (Nat.le_of_ble_eq_true rfl) ?_
  refine eg_lc_eq 2717 dL_law_1041 dL_law_1042 rfl (fun _ => ?_) (fun z => absurd rfl z)
  exact kk _ _ LN
theorem arm_17 (LL : LI h σ B00 tm) (ht : tm < 1000) (hi : i + 6 ≤ L) (hL : L ≤ 3072) (kk : ∀ (h' : eg_H) (σ' : eg_S), LI h' σ' B00 (tm + 1) → eg_AW (RLw, cL_law, 7, 460, some (L, xs, g), nm, ret) lz_Z 3000 70000 h00 2717 [(4, .int (nI i)), (3, .ref 94), (2, .ref 54), (1, .ref 16), (0, .ref 0)] [] h') : eg_AW (RLw, cL_law, 7, 460, some (L, xs, g), nm, ret) lz_Z 3000 70000 h00 1047 [(4, .int (nI i)), (3, .ref 94), (2, .ref 54), (1, .ref 16), (0, .ref 0)] [] h := by
  have ld1 := ld_1 hi hL
  have ld2 := ld_2 hi hL
  have ld3 := ld_3 hi hL
  refine eg_aload_n (i := 1) 3 dL_law_1047 rfl rfl ?_
  refine eg_aload_n (i := 0) 4 dL_law_1048 rfl rfl ?_
  refine eg_iload (i := 4) 0 dL_law_1049 rfl ?_
  refine eg_iconst (v := (1 : Int32)) dL_law_1051 (by decide) ?_
  refine eg_iadd dL_law_1052 ?_
  refine eg_sld dL_law_1053 ld1 ?_
  refine eg_aload_n (i := 0) 4 dL_law_1054 rfl rfl ?_
  refine eg_iload (i := 4) 0 dL_law_1055 rfl ?_
  refine eg_iconst (v := (2 : Int32)) dL_law_1057 (by decide) ?_
  refine eg_iadd dL_law_1058 ?_
  refine eg_sld dL_law_1059 ld2 ?_
  refine eg_aload_n (i := 0) 4 dL_law_1060 rfl rfl ?_
  refine eg_iload (i := 4) 0 dL_law_1061 rfl ?_
  refine eg_iconst (v := (3 : Int32)) dL_law_1063 (by decide) ?_
  refine eg_iadd dL_law_1064 ?_
  refine eg_sld dL_law_1065 ld3 ?_
  obtain ⟨h1, h2, e1, e2, LN⟩ := L_which LL (xs ((nI i) + (1 : Int32)).toNatClampNeg) (xs ((nI i) + (2 : Int32)).toNatClampNeg) (xs ((nI i) + (3 : Int32)).toNatClampNeg)
  refine eg_callV (c := 12) (n := 3) [.int ((xs ((nI i) + (1 : Int32)).toNatClampNeg)), .int ((xs ((nI i) + (2 : Int32)).toNatClampNeg)), .int ((xs ((nI i) + (3 : Int32)).toNatClampNeg))] dL_law_1066 (mX12_which e1) rfl (fX12_which_O e1) (Nat.le_of_ble_eq_true rfl) rfl ew_1000 ew_1001 ew_1002 ew_100 ew_1003 hy_X12_which rfl (Nat.le_of_ble_eq_true rfl) (Nat.le_of_ble_eq_true rfl) (Nat.le_of_ble_eq_true rfl) ?_
  refine eg_aload_n (i := 2) 2 dL_law_1069 rfl rfl ?_
  refine eg_aload_n (i := 0) 4 dL_law_1070 rfl rfl ?_
  refine eg_iload (i := 4) 0 dL_law_1071 rfl ?_
  refine eg_iconst (v := (1 : Int32)) dL_law_1073 (by decide) ?_
  refine eg_iadd dL_law_1074 ?_
  refine eg_sld dL_law_1075 ld1 ?_
  refine eg_aload_n (i := 0) 4 dL_law_1076 rfl rfl ?_
  refine eg_iload (i := 4) 0 dL_law_1077 rfl ?_
  refine eg_iconst (v := (2 : Int32)) dL_law_1079 (by decide) ?_
  refine eg_iadd dL_law_1080 ?_
  refine eg_sld dL_law_1081 ld2 ?_
  refine eg_aload_n (i := 0) 4 dL_law_1082 rfl rfl ?_
  refine eg_iload (i := 4) 0 dL_law_1083 rfl ?_
  refine eg_iconst (v := (3 : Int32)) dL_law_1085 (by decide) ?_
  refine eg_iadd dL_law_1086 ?_
  refine eg_sld dL_law_1087 ld3 ?_
  refine eg_callV (c := 13) (n := 3) [.int ((xs ((nI i) + (1 : Int32)).toNatClampNeg)), .int ((xs ((nI i) + (2 : Int32)).toNatClampNeg)), .int ((xs ((nI i) + (3 : Int32)).toNatClampNeg))] dL_law_1088 (mX13_which e2) rfl (fX13_which_O e2) (Nat.le_of_ble_eq_true rfl) rfl ew_2007 ew_2008 ew_2009 ew_110 ew_2010 hy_X13_which rfl (Nat.le_of_ble_eq_true rfl) (Nat.le_of_ble_eq_true rfl) (Nat.le_of_ble_eq_true rfl) ?_
  refine eg_lc_eq 2717 dL_law_1091 dL_law_1092 rfl (fun _ => ?_) (fun z => absurd rfl z)
  exact kk _ _ LN
theorem arm_18 (LL : LI h σ B00 tm) (ht : tm < 1000) (hi : i + 6 ≤ L) (hL : L ≤ 3072) (kk : ∀ (h' : eg_H) (σ' : eg_S), LI h' σ' B00 (tm + 1) → eg_AW (RLw, cL_law, 7, 460, some (L, xs, g), nm, ret) lz_Z 3000 70000 h00 2717 [(4, .int (nI i)), (3, .ref 94), (2, .ref 54), (1, .ref 16), (0, .ref 0)] [] h') : eg_AW (RLw, cL_law, 7, 460, some (L, xs, g), nm, ret) lz_Z 3000 70000 h00 1097 [(4, .int (nI i)), (3, .ref 94), (2, .ref 54), (1, .ref 16), (0, .ref 0)] [] h := by
  have ld1 := ld_1 hi hL
  have ld2 := ld_2 hi hL
  have ld3 := ld_3 hi hL
  refine eg_aload_n (i := 1) 3 dL_law_1097 rfl rfl ?_
  refine eg_aload_n (i := 0) 4 dL_law_1098 rfl rfl ?_
  refine eg_iload (i := 4) 0 dL_law_1099 rfl ?_
  refine eg_iconst (v := (1 : Int32)) dL_law_1101 (by decide) ?_
  refine eg_iadd dL_law_1102 ?_
  refine eg_sld dL_law_1103 ld1 ?_
  refine eg_aload_n (i := 0) 4 dL_law_1104 rfl rfl ?_
  refine eg_iload (i := 4) 0 dL_law_1105 rfl ?_
  refine eg_iconst (v := (2 : Int32)) dL_law_1107 (by decide) ?_
  refine eg_iadd dL_law_1108 ?_
  refine eg_sld dL_law_1109 ld2 ?_
  refine eg_aload_n (i := 0) 4 dL_law_1110 rfl rfl ?_
  refine eg_iload (i := 4) 0 dL_law_1111 rfl ?_
  refine eg_iconst (v := (3 : Int32)) dL_law_1113 (by decide) ?_
  refine eg_iadd dL_law_1114 ?_
  refine eg_sld dL_law_1115 ld3 ?_
  by_cases cb : (xs ((nI i) + (3 : Int32)).toNatClampNeg) = 0
  · refine eg_if_eq 1123 dL_law_1116 rfl (fun _ => ?_) (fun z => absurd cb z)
    refine eg_iconst (v := (0 : Int32)) dL_law_1123 (by decide) ?_
    obtain ⟨h1, h2, e1, e2, LN⟩ := L_witness LL (xs ((nI i) + (1 : Int32)).toNatClampNeg) (xs ((nI i) + (2 : Int32)).toNatClampNeg) (0 : Int32) (by decide)
    refine eg_callV (c := 12) (n := 3) [.int ((xs ((nI i) + (1 : Int32)).toNatClampNeg)), .int ((xs ((nI i) + (2 : Int32)).toNatClampNeg)), .int ((0 : Int32))] dL_law_1124 (mX12_witness e1) rfl (fX12_witness_O e1) (Nat.le_of_ble_eq_true rfl) rfl ew_1234 ew_1235 ew_1236 ew_100 ew_1237 hy_X12_witness rfl (Nat.le_of_ble_eq_true rfl) (Nat.le_of_ble_eq_true rfl) (Nat.le_of_ble_eq_true rfl) ?_
    refine eg_aload_n (i := 2) 2 dL_law_1127 rfl rfl ?_
    refine eg_aload_n (i := 0) 4 dL_law_1128 rfl rfl ?_
    refine eg_iload (i := 4) 0 dL_law_1129 rfl ?_
    refine eg_iconst (v := (1 : Int32)) dL_law_1131 (by decide) ?_
    refine eg_iadd dL_law_1132 ?_
    refine eg_sld dL_law_1133 ld1 ?_
    refine eg_aload_n (i := 0) 4 dL_law_1134 rfl rfl ?_
    refine eg_iload (i := 4) 0 dL_law_1135 rfl ?_
    refine eg_iconst (v := (2 : Int32)) dL_law_1137 (by decide) ?_
    refine eg_iadd dL_law_1138 ?_
    refine eg_sld dL_law_1139 ld2 ?_
    refine eg_aload_n (i := 0) 4 dL_law_1140 rfl rfl ?_
    refine eg_iload (i := 4) 0 dL_law_1141 rfl ?_
    refine eg_iconst (v := (3 : Int32)) dL_law_1143 (by decide) ?_
    refine eg_iadd dL_law_1144 ?_
    refine eg_sld dL_law_1145 ld3 ?_
    refine eg_if_eq 1153 dL_law_1146 rfl (fun _ => ?_) (fun z => absurd cb z)
    refine eg_iconst (v := (0 : Int32)) dL_law_1153 (by decide) ?_
    refine eg_callV (c := 13) (n := 3) [.int ((xs ((nI i) + (1 : Int32)).toNatClampNeg)), .int ((xs ((nI i) + (2 : Int32)).toNatClampNeg)), .int ((0 : Int32))] dL_law_1154 (mX13_witness e2) rfl (fX13_witness_O e2) (Nat.le_of_ble_eq_true rfl) rfl ew_2011 ew_2012 ew_2013 ew_110 ew_2014 hy_X13_witness rfl (Nat.le_of_ble_eq_true rfl) (Nat.le_of_ble_eq_true rfl) (Nat.le_of_ble_eq_true rfl) ?_
    refine eg_ic_eq 2717 dL_law_1157 rfl (fun _ => ?_) (fun z => absurd rfl z)
    exact kk _ _ LN
  · refine eg_if_eq 1123 dL_law_1116 rfl (fun z => absurd z cb) (fun _ => ?_)
    refine eg_iconst (v := (1 : Int32)) dL_law_1119 (by decide) ?_
    refine eg_goto 1124 dL_law_1120 rfl ?_
    obtain ⟨h1, h2, e1, e2, LN⟩ := L_witness LL (xs ((nI i) + (1 : Int32)).toNatClampNeg) (xs ((nI i) + (2 : Int32)).toNatClampNeg) (1 : Int32) (by decide)
    refine eg_callV (c := 12) (n := 3) [.int ((xs ((nI i) + (1 : Int32)).toNatClampNeg)), .int ((xs ((nI i) + (2 : Int32)).toNatClampNeg)), .int ((1 : Int32))] dL_law_1124 (mX12_witness e1) rfl (fX12_witness_O e1) (Nat.le_of_ble_eq_true rfl) rfl ew_1234 ew_1235 ew_1236 ew_100 ew_1237 hy_X12_witness rfl (Nat.le_of_ble_eq_true rfl) (Nat.le_of_ble_eq_true rfl) (Nat.le_of_ble_eq_true rfl) ?_
    refine eg_aload_n (i := 2) 2 dL_law_1127 rfl rfl ?_
    refine eg_aload_n (i := 0) 4 dL_law_1128 rfl rfl ?_
    refine eg_iload (i := 4) 0 dL_law_1129 rfl ?_
    refine eg_iconst (v := (1 : Int32)) dL_law_1131 (by decide) ?_
    refine eg_iadd dL_law_1132 ?_
    refine eg_sld dL_law_1133 ld1 ?_
    refine eg_aload_n (i := 0) 4 dL_law_1134 rfl rfl ?_
    refine eg_iload (i := 4) 0 dL_law_1135 rfl ?_
    refine eg_iconst (v := (2 : Int32)) dL_law_1137 (by decide) ?_
    refine eg_iadd dL_law_1138 ?_
    refine eg_sld dL_law_1139 ld2 ?_
    refine eg_aload_n (i := 0) 4 dL_law_1140 rfl rfl ?_
    refine eg_iload (i := 4) 0 dL_law_1141 rfl ?_
    refine eg_iconst (v := (3 : Int32)) dL_law_1143 (by decide) ?_
    refine eg_iadd dL_law_1144 ?_
    refine eg_sld dL_law_1145 ld3 ?_
    refine eg_if_eq 1153 dL_law_1146 rfl (fun z => absurd z cb) (fun _ => ?_)
    refine eg_iconst (v := (1 : Int32)) dL_law_1149 (by decide) ?_
    refine eg_goto 1154 dL_law_1150 rfl ?_
    refine eg_callV (c := 13) (n := 3) [.int ((xs ((nI i) + (1 : Int32)).toNatClampNeg)), .int ((xs ((nI i) + (2 : Int32)).toNatClampNeg)), .int ((1 : Int32))] dL_law_1154 (mX13_witness e2) rfl (fX13_witness_O e2) (Nat.le_of_ble_eq_true rfl) rfl ew_2011 ew_2012 ew_2013 ew_110 ew_2014 hy_X13_witness rfl (Nat.le_of_ble_eq_true rfl) (Nat.le_of_ble_eq_true rfl) (Nat.le_of_ble_eq_true rfl) ?_
    refine eg_ic_eq 2717 dL_law_1157 rfl (fun _ => ?_) (fun z => absurd rfl z)
    exact kk _ _ LN
end ARM
