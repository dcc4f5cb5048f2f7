section ARM
variable {h : eg_H} {σ : eg_S} {tm i L g : Nat} {xs : Nat → Int32} {nm : String}
theorem arm_28 (LL : LI h σ B00 tm) (ht : tm < 1000) (hi : i + 6 ≤ L) (hL : L ≤ 3072) (kk : ∀ (h' : eg_H) (σ' : eg_S), LI h' σ' B00 (tm + 1) → eg_AW (RLw, cL_law, 7, 460, some (L, xs, g), nm, ret) lz_Z 3000 70000 h00 2717 [(4, .int (nI i)), (3, .ref 94), (2, .ref 54), (1, .ref 16), (0, .ref 0)] [] h') : eg_AW (RLw, cL_law, 7, 460, some (L, xs, g), nm, ret) lz_Z 3000 70000 h00 1666 [(4, .int (nI i)), (3, .ref 94), (2, .ref 54), (1, .ref 16), (0, .ref 0)] [] h := by
  have ld1 := ld_1 hi hL
  have ld2 := ld_2 hi hL
  refine eg_aload_n (i := 1) 3 dL_law_1666 rfl rfl ?_
  refine eg_aload_n (i := 0) 4 dL_law_1667 rfl rfl ?_
  refine eg_iload (i := 4) 0 dL_law_1668 rfl ?_
  refine eg_iconst (v := (1 : Int32)) dL_law_1670 (by decide) ?_
  refine eg_iadd dL_law_1671 ?_
  refine eg_sld dL_law_1672 ld1 ?_
  refine eg_aload_n (i := 0) 4 dL_law_1673 rfl rfl ?_
  refine eg_iload (i := 4) 0 dL_law_1674 rfl ?_
  refine eg_iconst (v := (2 : Int32)) dL_law_1676 (by decide) ?_
  refine eg_iadd dL_law_1677 ?_
  refine eg_sld dL_law_1678 ld2 ?_
  obtain ⟨h1, h2, e1, e2, LN⟩ := L_rank LL (xs ((nI i) + (1 : Int32)).toNatClampNeg) (xs ((nI i) + (2 : Int32)).toNatClampNeg)
  refine eg_callV (c := 12) (n := 2) [.int ((xs ((nI i) + (1 : Int32)).toNatClampNeg)), .int ((xs ((nI i) + (2 : Int32)).toNatClampNeg))] dL_law_1679 (mX12_rank e1) rfl (fX12_rank_O e1) (Nat.le_of_ble_eq_true rfl) rfl ew_1098 ew_1099 ew_1100 ew_100 ew_1101 hy_X12_rank rfl (Nat.le_of_ble_eq_true rfl) (Nat.le_of_ble_eq_true rfl) (Nat.le_of_ble_eq_true rfl) ?_
  refine eg_aload_n (i := 2) 2 dL_law_1682 rfl rfl ?_
  refine eg_aload_n (i := 0) 4 dL_law_1683 rfl rfl ?_
  refine eg_iload (i := 4) 0 dL_law_1684 rfl ?_
  refine eg_iconst (v := (1 : Int32)) dL_law_1686 (by decide) ?_
  refine eg_iadd dL_law_1687 ?_
  refine eg_sld dL_law_1688 ld1 ?_
  refine eg_aload_n (i := 0) 4 dL_law_1689 rfl rfl ?_
  refine eg_iload (i := 4) 0 dL_law_1690 rfl ?_
  refine eg_iconst (v := (2 : Int32)) dL_law_1692 (by decide) ?_
  refine eg_iadd dL_law_1693 ?_
  refine eg_sld dL_law_1694 ld2 ?_
  refine eg_callV (c := 13) (n := 2) [.int ((xs ((nI i) + (1 : Int32)).toNatClampNeg)), .int ((xs ((nI i) + (2 : Int32)).toNatClampNeg))] dL_law_1695 (mX13_rank e2) rfl (fX13_rank_O e2) (Nat.le_of_ble_eq_true rfl) rfl ew_2062 ew_2063 ew_2064 ew_110 ew_2065 hy_X13_rank rfl (Nat.le_of_ble_eq_true rfl) (Nat.le_of_ble_eq_true rfl) (Nat.le_of_ble_eq_true rfl) ?_
  refine eg_ic_eq 2717 dL_law_1698 rfl (fun _ => ?_) (fun z => absurd rfl z)
  exact kk _ _ LN
theorem arm_29 (LL : LI h σ B00 tm) (ht : tm < 1000) (hi : i + 6 ≤ L) (hL : L ≤ 3072) (kk : ∀ (h' : eg_H) (σ' : eg_S), LI h' σ' B00 (tm + 1) → eg_AW (RLw, cL_law, 7, 460, some (L, xs, g), nm, ret) lz_Z 3000 70000 h00 2717 [(4, .int (nI i)), (3, .ref 94), (2, .ref 54), (1, .ref 16), (0, .ref 0)] [] h') : eg_AW (RLw, cL_law, 7, 460, some (L, xs, g), nm, ret) lz_Z 3000 70000 h00 1703 [(4, .int (nI i)), (3, .ref 94), (2, .ref 54), (1, .ref 16), (0, .ref 0)] [] h := by
  have ld1 := ld_1 hi hL
  have ld2 := ld_2 hi hL
  have ld3 := ld_3 hi hL
  refine eg_aload_n (i := 1) 3 dL_law_1703 rfl rfl ?_
  refine eg_aload_n (i := 0) 4 dL_law_1704 rfl rfl ?_
  refine eg_iload (i := 4) 0 dL_law_1705 rfl ?_
  refine eg_iconst (v := (1 : Int32)) dL_law_1707 (by decide) ?_
  refine eg_iadd dL_law_1708 ?_
  refine eg_sld dL_law_1709 ld1 ?_
  refine eg_aload_n (i := 0) 4 dL_law_1710 rfl rfl ?_
  refine eg_iload (i := 4) 0 dL_law_1711 rfl ?_
  refine eg_iconst (v := (2 : Int32)) dL_law_1713 (by decide) ?_
  refine eg_iadd dL_law_1714 ?_
  refine eg_sld dL_law_1715 ld2 ?_
  refine eg_aload_n (i := 0) 4 dL_law_1716 rfl rfl ?_
  refine eg_iload (i := 4) 0 dL_law_1717 rfl ?_
  refine eg_iconst (v := (3 : Int32)) dL_law_1719 (by decide) ?_
  refine eg_iadd dL_law_1720 ?_
  refine eg_sld dL_law_1721 ld3 ?_
  obtain ⟨h1, h2, e1, e2, LN⟩ := L_calm LL (xs ((nI i) + (1 : Int32)).toNatClampNeg) (xs ((nI i) + (2 : Int32)).toNatClampNeg) (xs ((nI i) + (3 : Int32)).toNatClampNeg)
  refine eg_callV (c := 12) (n := 3) [.int ((xs ((nI i) + (1 : Int32)).toNatClampNeg)), .int ((xs ((nI i) + (2 : Int32)).toNatClampNeg)), .int ((xs ((nI i) + (3 : Int32)).toNatClampNeg))] dL_law_1722 (mX12_calm e1) rfl (fX12_calm_O e1) (Nat.le_of_ble_eq_true rfl) rfl ew_1022 ew_1023 ew_1024 ew_100 ew_1025 hy_X12_calm rfl (Nat.le_of_ble_eq_true rfl) (Nat.le_of_ble_eq_true rfl) (Nat.le_of_ble_eq_true rfl) ?_
  refine eg_aload_n (i := 2) 2 dL_law_1725 rfl rfl ?_
  refine eg_aload_n (i := 0) 4 dL_law_1726 rfl rfl ?_
  refine eg_iload (i := 4) 0 dL_law_1727 rfl ?_
  refine eg_iconst (v := (1 : Int32)) dL_law_1729 (by decide) ?_
  refine eg_iadd dL_law_1730 ?_
  refine eg_sld dL_law_1731 ld1 ?_
  refine eg_aload_n (i := 0) 4 dL_law_1732 rfl rfl ?_
  refine eg_iload (i := 4) 0 dL_law_1733 rfl ?_
  refine eg_iconst (v := (2 : Int32)) dL_law_1735 (by decide) ?_
  refine eg_iadd dL_law_1736 ?_
  refine eg_sld dL_law_1737 ld2 ?_
  refine eg_aload_n (i := 0) 4 dL_law_1738 rfl rfl ?_
  refine eg_iload (i := 4) 0 dL_law_1739 rfl ?_
  refine eg_iconst (v := (3 : Int32)) dL_law_1741 (by decide) ?_
  refine eg_iadd dL_law_1742 ?_
  refine eg_sld dL_law_1743 ld3 ?_
  refine eg_callV (c := 13) (n := 3) [.int ((xs ((nI i) + (1 : Int32)).toNatClampNeg)), .int ((xs ((nI i) + (2 : Int32)).toNatClampNeg)), .int ((xs ((nI i) + (3 : Int32)).toNatClampNeg))] dL_law_1744 (mX13_calm e2) rfl (fX13_calm_O e2) (Nat.le_of_ble_eq_true rfl) rfl ew_2066 ew_2067 ew_2068 ew_110 ew_2069 hy_X13_calm rfl (Nat.le_of_ble_eq_true rfl) (Nat.le_of_ble_eq_true rfl) (Nat.le_of_ble_eq_true rfl) ?_
  refine eg_lc_eq 2717 dL_law_1747 dL_law_1748 rfl (fun _ => ?_) (fun z => absurd rfl z)
  exact kk _ _ LN
theorem arm_30 (LL : LI h σ B00 tm) (ht : tm < 1000) (hi : i + 6 ≤ L) (hL : L ≤ 3072) (kk : ∀ (h' : eg_H) (σ' : eg_S), LI h' σ' B00 (tm + 1) → eg_AW (RLw, cL_law, 7, 460, some (L, xs, g), nm, ret) lz_Z 3000 70000 h00 2717 [(4, .int (nI i)), (3, .ref 94), (2, .ref 54), (1, .ref 16), (0, .ref 0)] [] h') : eg_AW (RLw, cL_law, 7, 460, some (L, xs, g), nm, ret) lz_Z 3000 70000 h00 1753 [(4, .int (nI i)), (3, .ref 94), (2, .ref 54), (1, .ref 16), (0, .ref 0)] [] h := by
  have ld1 := ld_1 hi hL
  have ld2 := ld_2 hi hL
  have ld3 := ld_3 hi hL
  have ld4 := ld_4 hi hL
  refine eg_aload_n (i := 1) 3 dL_law_1753 rfl rfl ?_
  refine eg_aload_n (i := 0) 4 dL_law_1754 rfl rfl ?_
  refine eg_iload (i := 4) 0 dL_law_1755 rfl ?_
  refine eg_iconst (v := (1 : Int32)) dL_law_1757 (by decide) ?_
  refine eg_iadd dL_law_1758 ?_
  refine eg_sld dL_law_1759 ld1 ?_
  refine eg_aload_n (i := 0) 4 dL_law_1760 rfl rfl ?_
  refine eg_iload (i := 4) 0 dL_law_1761 rfl ?_
  refine eg_iconst (v := (2 : Int32)) dL_law_1763 (by decide) ?_
  refine eg_iadd dL_law_1764 ?_
  refine eg_sld dL_law_1765 ld2 ?_
  refine eg_aload_n (i := 0) 4 dL_law_1766 rfl rfl ?_
  refine eg_iload (i := 4) 0 dL_law_1767 rfl ?_
  refine eg_iconst (v := (3 : Int32)) dL_law_1769 (by decide) ?_
  refine eg_iadd dL_law_1770 ?_
  refine eg_sld dL_law_1771 ld3 ?_
  refine eg_aload_n (i := 0) 4 dL_law_1772 rfl rfl ?_
  refine eg_iload (i := 4) 0 dL_law_1773 rfl ?_
  refine eg_iconst (v := (4 : Int32)) dL_law_1775 (by decide) ?_
  refine eg_iadd dL_law_1776 ?_
  refine eg_sld dL_law_1777 ld4 ?_
  obtain ⟨h1, h2, e1, e2, LN⟩ := L_learn LL (xs ((nI i) + (1 : Int32)).toNatClampNeg) (xs ((nI i) + (2 : Int32)).toNatClampNeg) (xs ((nI i) + (3 : Int32)).toNatClampNeg) (xs ((nI i) + (4 : Int32)).toNatClampNeg)
  refine eg_callV (c := 12) (n := 4) [.int ((xs ((nI i) + (1 : Int32)).toNatClampNeg)), .int ((xs ((nI i) + (2 : Int32)).toNatClampNeg)), .int ((xs ((nI i) + (3 : Int32)).toNatClampNeg)), .int ((xs ((nI i) + (4 : Int32)).toNatClampNeg))] dL_law_1778 (mX12_learn e1) rfl (fX12_learn_O e1) (Nat.le_of_ble_eq_true rfl) rfl ew_1034 ew_1035 ew_1036 ew_100 ew_1037 hy_X12_learn rfl (Nat.le_of_ble_eq_true rfl) (Nat.le_of_ble_eq_true rfl) (Nat.le_of_ble_eq_true rfl) ?_
  refine eg_aload_n (i := 2) 2 dL_law_1781 rfl rfl ?_
  refine eg_aload_n (i := 0) 4 dL_law_1782 rfl rfl ?_
  refine eg_iload (i := 4) 0 dL_law_1783 rfl ?_
  refine eg_iconst (v := (1 : Int32)) dL_law_1785 (by decide) ?_
  refine eg_iadd dL_law_1786 ?_
  refine eg_sld dL_law_1787 ld1 ?_
  refine eg_aload_n (i := 0) 4 dL_law_1788 rfl rfl ?_
  refine eg_iload (i := 4) 0 dL_law_1789 rfl ?_
  refine eg_iconst (v := (2 : Int32)) dL_law_1791 (by decide) ?_
  refine eg_iadd dL_law_1792 ?_
  refine eg_sld dL_law_1793 ld2 ?_
  refine eg_aload_n (i := 0) 4 dL_law_1794 rfl rfl ?_
  refine eg_iload (i := 4) 0 dL_law_1795 rfl ?_
  refine eg_iconst (v := (3 : Int32)) dL_law_1797 (by decide) ?_
  refine eg_iadd dL_law_1798 ?_
  refine eg_sld dL_law_1799 ld3 ?_
  refine eg_aload_n (i := 0) 4 dL_law_1800 rfl rfl ?_
  refine eg_iload (i := 4) 0 dL_law_1801 rfl ?_
  refine eg_iconst (v := (4 : Int32)) dL_law_1803 (by decide) ?_
  refine eg_iadd dL_law_1804 ?_
  refine eg_sld dL_law_1805 ld4 ?_
  refine eg_callV (c := 13) (n := 4) [.int ((xs ((nI i) + (1 : Int32)).toNatClampNeg)), .int ((xs ((nI i) + (2 : Int32)).toNatClampNeg)), .int ((xs ((nI i) + (3 : Int32)).toNatClampNeg)), .int ((xs ((nI i) + (4 : Int32)).toNatClampNeg))] dL_law_1806 (mX13_learn e2) rfl (fX13_learn_O e2) (Nat.le_of_ble_eq_true rfl) rfl ew_2070 ew_2071 ew_2072 ew_110 ew_2073 hy_X13_learn rfl (Nat.le_of_ble_eq_true rfl) (Nat.le_of_ble_eq_true rfl) (Nat.le_of_ble_eq_true rfl) ?_
  refine eg_ic_eq 2717 dL_law_1809 rfl (fun _ => ?_) (fun z => absurd rfl z)
  exact kk _ _ LN
theorem arm_31 (LL : LI h σ B00 tm) (ht : tm < 1000) (hi : i + 6 ≤ L) (hL : L ≤ 3072) (kk : ∀ (h' : eg_H) (σ' : eg_S), LI h' σ' B00 (tm + 1) → eg_AW (RLw, cL_law, 7, 460, some (L, xs, g), nm, ret) lz_Z 3000 70000 h00 2717 [(4, .int (nI i)), (3, .ref 94), (2, .ref 54), (1, .ref 16), (0, .ref 0)] [] h') : eg_AW (RLw, cL_law, 7, 460, some (L, xs, g), nm, ret) lz_Z 3000 70000 h00 1814 [(4, .int (nI i)), (3, .ref 94), (2, .ref 54), (1, .ref 16), (0, .ref 0)] [] h := by
  have ld1 := ld_1 hi hL
  have ld2 := ld_2 hi hL
  refine eg_aload_n (i := 1) 3 dL_law_1814 rfl rfl ?_
  refine eg_aload_n (i := 0) 4 dL_law_1815 rfl rfl ?_
  refine eg_iload (i := 4) 0 dL_law_1816 rfl ?_
  refine eg_iconst (v := (1 : Int32)) dL_law_1818 (by decide) ?_
  refine eg_iadd dL_law_1819 ?_
  refine eg_sld dL_law_1820 ld1 ?_
  refine eg_aload_n (i := 0) 4 dL_law_1821 rfl rfl ?_
  refine eg_iload (i := 4) 0 dL_law_1822 rfl ?_
  refine eg_iconst (v := (2 : Int32)) dL_law_1824 (by decide) ?_
  refine eg_iadd dL_law_1825 ?_
  refine eg_sld dL_law_1826 ld2 ?_
  obtain ⟨h1, h2, e1, e2, LN⟩ := L_film LL (xs ((nI i) + (1 : Int32)).toNatClampNeg) (xs ((nI i) + (2 : Int32)).toNatClampNeg)
  refine eg_callV (c := 12) (n := 2) [.int ((xs ((nI i) + (1 : Int32)).toNatClampNeg)), .int ((xs ((nI i) + (2 : Int32)).toNatClampNeg))] dL_law_1827 (mX12_film e1) rfl (fX12_film_O e1) (Nat.le_of_ble_eq_true rfl) rfl ew_1274 ew_1275 ew_1276 ew_100 ew_1277 hy_X12_film rfl (Nat.le_of_ble_eq_true rfl) (Nat.le_of_ble_eq_true rfl) (Nat.le_of_ble_eq_true rfl) ?_
  refine eg_aload_n (i := 2) 2 dL_law_1830 rfl rfl ?_
  refine eg_aload_n (i := 0) 4 dL_law_1831 rfl rfl ?_
  refine eg_iload (i := 4) 0 dL_law_1832 rfl ?_
  refine eg_iconst (v := (1 : Int32)) dL_law_1834 (by decide) ?_
  refine eg_iadd dL_law_1835 ?_
  refine eg_sld dL_law_1836 ld1 ?_
  refine eg_aload_n (i := 0) 4 dL_law_1837 rfl rfl ?_
  refine eg_iload (i := 4) 0 dL_law_1838 rfl ?_
  refine eg_iconst (v := (2 : Int32)) dL_law_1840 (by decide) ?_
  refine eg_iadd dL_law_1841 ?_
  refine eg_sld dL_law_1842 ld2 ?_
  refine eg_callV (c := 13) (n := 2) [.int ((xs ((nI i) + (1 : Int32)).toNatClampNeg)), .int ((xs ((nI i) + (2 : Int32)).toNatClampNeg))] dL_law_1843 (mX13_film e2) rfl (fX13_film_O e2) (Nat.le_of_ble_eq_true rfl) rfl ew_2074 ew_2075 ew_2076 ew_110 ew_2077 hy_X13_film rfl (Nat.le_of_ble_eq_true rfl) (Nat.le_of_ble_eq_true rfl) (Nat.le_of_ble_eq_true rfl) ?_
  refine eg_ic_eq 2717 dL_law_1846 rfl (fun _ => ?_) (fun z => absurd rfl z)
  exact kk _ _ LN
theorem arm_32 (LL : LI h σ B00 tm) (ht : tm < 1000) (hi : i + 6 ≤ L) (hL : L ≤ 3072) (kk : ∀ (h' : eg_H) (σ' : eg_S), LI h' σ' B00 (tm + 1) → eg_AW (RLw, cL_law, 7, 460, some (L, xs, g), nm, ret) lz_Z 3000 70000 h00 2717 [(4, .int (nI i)), (3, .ref 94), (2, .ref 54), (1, .ref 16), (0, .ref 0)] [] h') : eg_AW (RLw, cL_law, 7, 460, some (L, xs, g), nm, ret) lz_Z 3000 70000 h00 1851 [(4, .int (nI i)), (3, .ref 94), (2, .ref 54), (1, .ref 16), (0, .ref 0)] [] h := by
  have ld1 := ld_1 hi hL
  have ld2 := ld_2 hi hL
  have ld3 := ld_3 hi hL
  refine eg_aload_n (i := 1) 3 dL_law_1851 rfl rfl ?_
  refine eg_aload_n (i := 0) 4 dL_law_1852 rfl rfl ?_
  refine eg_iload (i := 4) 0 dL_law_1853 rfl ?_
  refine eg_iconst (v := (1 : Int32)) dL_law_1855 (by decide) ?_
  refine eg_iadd dL_law_1856 ?_
  refine eg_sld dL_law_1857 ld1 ?_
  refine eg_aload_n (i := 0) 4 dL_law_1858 rfl rfl ?_
  refine eg_iload (i := 4) 0 dL_law_1859 rfl ?_
  refine eg_iconst (v := (2 : Int32)) dL_law_1861 (by decide) ?_
  refine eg_iadd dL_law_1862 ?_
  refine eg_sld dL_law_1863 ld2 ?_
  refine eg_aload_n (i := 0) 4 dL_law_1864 rfl rfl ?_
  refine eg_iload (i := 4) 0 dL_law_1865 rfl ?_
  refine eg_iconst (v := (3 : Int32)) dL_law_1867 (by decide) ?_
  refine eg_iadd dL_law_1868 ?_
  refine eg_sld dL_law_1869 ld3 ?_
  obtain ⟨h1, h2, e1, e2, LN⟩ := L_raw LL (xs ((nI i) + (1 : Int32)).toNatClampNeg) (xs ((nI i) + (2 : Int32)).toNatClampNeg) (xs ((nI i) + (3 : Int32)).toNatClampNeg)
  refine eg_callV (c := 12) (n := 3) [.int ((xs ((nI i) + (1 : Int32)).toNatClampNeg)), .int ((xs ((nI i) + (2 : Int32)).toNatClampNeg)), .int ((xs ((nI i) + (3 : Int32)).toNatClampNeg))] dL_law_1870 (mX12_raw e1) rfl (fX12_raw_O e1) (Nat.le_of_ble_eq_true rfl) rfl ew_1298 ew_1299 ew_1300 ew_100 ew_1301 hy_X12_raw rfl (Nat.le_of_ble_eq_true rfl) (Nat.le_of_ble_eq_true rfl) (Nat.le_of_ble_eq_true rfl) ?_
  refine eg_aload_n (i := 2) 2 dL_law_1873 rfl rfl ?_
  refine eg_aload_n (i := 0) 4 dL_law_1874 rfl rfl ?_
  refine eg_iload (i := 4) 0 dL_law_1875 rfl ?_
  refine eg_iconst (v := (1 : Int32)) dL_law_1877 (by decide) ?_
  refine eg_iadd dL_law_1878 ?_
  refine eg_sld dL_law_1879 ld1 ?_
  refine eg_aload_n (i := 0) 4 dL_law_1880 rfl rfl ?_
  refine eg_iload (i := 4) 0 dL_law_1881 rfl ?_
  refine eg_iconst (v := (2 : Int32)) dL_law_1883 (by decide) ?_
  refine eg_iadd dL_law_1884 ?_
  refine eg_sld dL_law_1885 ld2 ?_
  refine eg_aload_n (i := 0) 4 dL_law_1886 rfl rfl ?_
  refine eg_iload (i := 4) 0 dL_law_1887 rfl ?_
  refine eg_iconst (v := (3 : Int32)) dL_law_1889 (by decide) ?_
  refine eg_iadd dL_law_1890 ?_
  refine eg_sld dL_law_1891 ld3 ?_
  refine eg_callV (c := 13) (n := 3) [.int ((xs ((nI i) + (1 : Int32)).toNatClampNeg)), .int ((xs ((nI i) + (2 : Int32)).toNatClampNeg)), .int ((xs ((nI i) + (3 : Int32)).toNatClampNeg))] dL_law_1892 (mX13_raw e2) rfl (fX13_raw_O e2) (Nat.le_of_ble_eq_true rfl) rfl ew_2086 ew_2087 ew_2088 ew_110 ew_2089 hy_X13_raw rfl (Nat.le_of_ble_eq_true rfl) (Nat.le_of_ble_eq_true rfl) (Nat.le_of_ble_eq_true rfl) ?_
  refine eg_ic_eq 2717 dL_law_1895 rfl (fun _ => ?_) (fun z => absurd rfl z)
  exact kk _ _ LN
theorem arm_33 (LL : LI h σ B00 tm) (ht : tm < 1000) (hi : i + 6 ≤ L) (hL : L ≤ 3072) (kk : ∀ (h' : eg_H) (σ' : eg_S), LI h' σ' B00 (tm + 1) → eg_AW (RLw, cL_law, 7, 460, some (L, xs, g), nm, ret) lz_Z 3000 70000 h00 2717 [(4, .int (nI i)), (3, .ref 94), (2, .ref 54), (1, .ref 16), (0, .ref 0)] [] h') : eg_AW (RLw, cL_law, 7, 460, some (L, xs, g), nm, ret) lz_Z 3000 70000 h00 1900 [(4, .int (nI i)), (3, .ref 94), (2, .ref 54), (1, .ref 16), (0, .ref 0)] [] h := by
  have ld1 := ld_1 hi hL
  have ld2 := ld_2 hi hL
  refine eg_aload_n (i := 1) 3 dL_law_1900 rfl rfl ?_
  refine eg_aload_n (i := 0) 4 dL_law_1901 rfl rfl ?_
  refine eg_iload (i := 4) 0 dL_law_1902 rfl ?_
  refine eg_iconst (v := (1 : Int32)) dL_law_1904 (by decide) ?_
  refine eg_iadd dL_law_1905 ?_
  refine eg_sld dL_law_1906 ld1 ?_
  refine eg_aload_n (i := 0) 4 dL_law_1907 rfl rfl ?_
  refine eg_iload (i := 4) 0 dL_law_1908 rfl ?_
  refine eg_iconst (v := (2 : Int32)) dL_law_1910 (by decide) ?_
  refine eg_iadd dL_law_1911 ?_
  refine eg_sld dL_law_1912 ld2 ?_
  obtain ⟨h1, h2, e1, e2, LN⟩ := L_like LL (xs ((nI i) + (1 : Int32)).toNatClampNeg) (xs ((nI i) + (2 : Int32)).toNatClampNeg)
  refine eg_callV (c := 12) (n := 2) [.int ((xs ((nI i) + (1 : Int32)).toNatClampNeg)), .int ((xs ((nI i) + (2 : Int32)).toNatClampNeg))] dL_law_1913 (mX12_like e1) rfl (fX12_like_O e1) (Nat.le_of_ble_eq_true rfl) rfl ew_1305 ew_1306 ew_1307 ew_100 ew_1308 hy_X12_like rfl (Nat.le_of_ble_eq_true rfl) (Nat.le_of_ble_eq_true rfl) (Nat.le_of_ble_eq_true rfl) ?_
  refine eg_aload_n (i := 2) 2 dL_law_1916 rfl rfl ?_
  refine eg_aload_n (i := 0) 4 dL_law_1917 rfl rfl ?_
  refine eg_iload (i := 4) 0 dL_law_1918 rfl ?_
  refine eg_iconst (v := (1 : Int32)) dL_law_1920 (by decide) ?_
  refine eg_iadd dL_law_1921 ?_
  refine eg_sld dL_law_1922 ld1 ?_
  refine eg_aload_n (i := 0) 4 dL_law_1923 rfl rfl ?_
  refine eg_iload (i := 4) 0 dL_law_1924 rfl ?_
  refine eg_iconst (v := (2 : Int32)) dL_law_1926 (by decide) ?_
  refine eg_iadd dL_law_1927 ?_
  refine eg_sld dL_law_1928 ld2 ?_
  refine eg_callV (c := 13) (n := 2) [.int ((xs ((nI i) + (1 : Int32)).toNatClampNeg)), .int ((xs ((nI i) + (2 : Int32)).toNatClampNeg))] dL_law_1929 (mX13_like e2) rfl (fX13_like_O e2) (Nat.le_of_ble_eq_true rfl) rfl ew_2094 ew_2095 ew_2096 ew_110 ew_2097 hy_X13_like rfl (Nat.le_of_ble_eq_true rfl) (Nat.le_of_ble_eq_true rfl) (Nat.le_of_ble_eq_true rfl) ?_
  refine eg_ic_eq 2717 dL_law_1932 rfl (fun _ => ?_) (fun z => absurd rfl z)
  exact kk _ _ LN
theorem arm_34 (LL : LI h σ B00 tm) (ht : tm < 1000) (hi : i + 6 ≤ L) (hL : L ≤ 3072) (kk : ∀ (h' : eg_H) (σ' : eg_S), LI h' σ' B00 (tm + 1) → eg_AW (RLw, cL_law, 7, 460, some (L, xs, g), nm, ret) lz_Z 3000 70000 h00 2717 [(4, .int (nI i)), (3, .ref 94), (2, .ref 54), (1, .ref 16), (0, .ref 0)] [] h') : eg_AW (RLw, cL_law, 7, 460, some (L, xs, g), nm, ret) lz_Z 3000 70000 h00 1937 [(4, .int (nI i)), (3, .ref 94), (2, .ref 54), (1, .ref 16), (0, .ref 0)] [] h := by
  have ld1 := ld_1 hi hL
  have ld2 := ld_2 hi hL
  have ld3 := ld_3 hi hL
  have ld4 := ld_4 hi hL
  refine eg_aload_n (i := 1) 3 dL_law_1937 rfl rfl ?_
  refine eg_aload_n (i := 0) 4 dL_law_1938 rfl rfl ?_
  refine eg_iload (i := 4) 0 dL_law_1939 rfl ?_
  refine eg_iconst (v := (1 : Int32)) dL_law_1941 (by decide) ?_
  refine eg_iadd dL_law_1942 ?_
  refine eg_sld dL_law_1943 ld1 ?_
  refine eg_aload_n (i := 0) 4 dL_law_1944 rfl rfl ?_
  refine eg_iload (i := 4) 0 dL_law_1945 rfl ?_
  refine eg_iconst (v := (2 : Int32)) dL_law_1947 (by decide) ?_
  refine eg_iadd dL_law_1948 ?_
  refine eg_sld dL_law_1949 ld2 ?_
  refine eg_i2l dL_law_1950 ?_
  refine eg_bipush (v := (32 : Int32)) dL_law_1951 (by decide) ?_
  refine eg_lshl dL_law_1953 ?_
  refine eg_aload_n (i := 0) 4 dL_law_1954 rfl rfl ?_
  refine eg_iload (i := 4) 0 dL_law_1955 rfl ?_
  refine eg_iconst (v := (3 : Int32)) dL_law_1957 (by decide) ?_
  refine eg_iadd dL_law_1958 ?_
  refine eg_sld dL_law_1959 ld3 ?_
  refine eg_i2l dL_law_1960 ?_
  refine eg_ldc2 (v := (4294967295 : Int64)) dL_law_1961 ew_2201 ?_
  refine eg_land dL_law_1964 ?_
  refine eg_lor dL_law_1965 ?_
  refine eg_aload_n (i := 0) 4 dL_law_1966 rfl rfl ?_
  refine eg_iload (i := 4) 0 dL_law_1967 rfl ?_
  refine eg_iconst (v := (4 : Int32)) dL_law_1969 (by decide) ?_
  refine eg_iadd dL_law_1970 ?_
  refine eg_sld dL_law_1971 ld4 ?_
  obtain ⟨h1, h2, e1, e2, LN⟩ := L_fete LL (xs ((nI i) + (1 : Int32)).toNatClampNeg) ((((xs ((nI i) + (2 : Int32)).toNatClampNeg)).toInt64 <<< (((32 : Int32)).toInt64 &&& 63)) ||| (((xs ((nI i) + (3 : Int32)).toNatClampNeg)).toInt64 &&& (4294967295 : Int64))) (xs ((nI i) + (4 : Int32)).toNatClampNeg)
  refine eg_callV (c := 12) (n := 3) [.int ((xs ((nI i) + (1 : Int32)).toNatClampNeg)), .long (((((xs ((nI i) + (2 : Int32)).toNatClampNeg)).toInt64 <<< (((32 : Int32)).toInt64 &&& 63)) ||| (((xs ((nI i) + (3 : Int32)).toNatClampNeg)).toInt64 &&& (4294967295 : Int64)))), .int ((xs ((nI i) + (4 : Int32)).toNatClampNeg))] dL_law_1972 (mX12_fete e1) rfl (fX12_fete_O e1) (Nat.le_of_ble_eq_true rfl) rfl ew_1136 ew_1137 ew_1138 ew_100 ew_1139 hy_X12_fete rfl (Nat.le_of_ble_eq_true rfl) (Nat.le_of_ble_eq_true rfl) (Nat.le_of_ble_eq_true rfl) ?_
  refine eg_aload_n (i := 2) 2 dL_law_1975 rfl rfl ?_
  refine eg_aload_n (i := 0) 4 dL_law_1976 rfl rfl ?_
  refine eg_iload (i := 4) 0 dL_law_1977 rfl ?_
  refine eg_iconst (v := (1 : Int32)) dL_law_1979 (by decide) ?_
  refine eg_iadd dL_law_1980 ?_
  refine eg_sld dL_law_1981 ld1 ?_
  refine eg_aload_n (i := 0) 4 dL_law_1982 rfl rfl ?_
  refine eg_iload (i := 4) 0 dL_law_1983 rfl ?_
  refine eg_iconst (v := (2 : Int32)) dL_law_1985 (by decide) ?_
  refine eg_iadd dL_law_1986 ?_
  refine eg_sld dL_law_1987 ld2 ?_
  refine eg_i2l dL_law_1988 ?_
  refine eg_bipush (v := (32 : Int32)) dL_law_1989 (by decide) ?_
  refine eg_lshl dL_law_1991 ?_
  refine eg_aload_n (i := 0) 4 dL_law_1992 rfl rfl ?_
  refine eg_iload (i := 4) 0 dL_law_1993 rfl ?_
  refine eg_iconst (v := (3 : Int32)) dL_law_1995 (by decide) ?_
  refine eg_iadd dL_law_1996 ?_
  refine eg_sld dL_law_1997 ld3 ?_
  refine eg_i2l dL_law_1998 ?_
  refine eg_ldc2 (v := (4294967295 : Int64)) dL_law_1999 ew_2201 ?_
  refine eg_land dL_law_2002 ?_
  refine eg_lor dL_law_2003 ?_
  refine eg_aload_n (i := 0) 4 dL_law_2004 rfl rfl ?_
  refine eg_iload (i := 4) 0 dL_law_2005 rfl ?_
  refine eg_iconst (v := (4 : Int32)) dL_law_2007 (by decide) ?_
  refine eg_iadd dL_law_2008 ?_
  refine eg_sld dL_law_2009 ld4 ?_
  refine eg_callV (c := 13) (n := 3) [.int ((xs ((nI i) + (1 : Int32)).toNatClampNeg)), .long (((((xs ((nI i) + (2 : Int32)).toNatClampNeg)).toInt64 <<< (((32 : Int32)).toInt64 &&& 63)) ||| (((xs ((nI i) + (3 : Int32)).toNatClampNeg)).toInt64 &&& (4294967295 : Int64)))), .int ((xs ((nI i) + (4 : Int32)).toNatClampNeg))] dL_law_2010 (mX13_fete e2) rfl (fX13_fete_O e2) (Nat.le_of_ble_eq_true rfl) rfl ew_2098 ew_2099 ew_2100 ew_110 ew_2101 hy_X13_fete rfl (Nat.le_of_ble_eq_true rfl) (Nat.le_of_ble_eq_true rfl) (Nat.le_of_ble_eq_true rfl) ?_
  refine eg_ic_eq 2717 dL_law_2013 rfl (fun _ => ?_) (fun z => absurd rfl z)
  exact kk _ _ LN
theorem arm_35 (LL : LI h σ B00 tm) (ht : tm < 1000) (hi : i + 6 ≤ L) (hL : L ≤ 3072) (kk : ∀ (h' : eg_H) (σ' : eg_S), LI h' σ' B00 (tm + 1) → eg_AW (RLw, cL_law, 7, 460, some (L, xs, g), nm, ret) lz_Z 3000 70000 h00 2717 [(4, .int (nI i)), (3, .ref 94), (2, .ref 54), (1, .ref 16), (0, .ref 0)] [] h') : eg_AW (RLw, cL_law, 7, 460, some (L, xs, g), nm, ret) lz_Z 3000 70000 h00 2018 [(4, .int (nI i)), (3, .ref 94), (2, .ref 54), (1, .ref 16), (0, .ref 0)] [] h := by
  have ld1 := ld_1 hi hL
  have ld2 := ld_2 hi hL
  refine eg_aload_n (i := 1) 3 dL_law_2018 rfl rfl ?_
  refine eg_aload_n (i := 0) 4 dL_law_2019 rfl rfl ?_
  refine eg_iload (i := 4) 0 dL_law_2020 rfl ?_
  refine eg_iconst (v := (1 : Int32)) dL_law_2022 (by decide) ?_
  refine eg_iadd dL_law_2023 ?_
  refine eg_sld dL_law_2024 ld1 ?_
  refine eg_aload_n (i := 0) 4 dL_law_2025 rfl rfl ?_
  refine eg_iload (i := 4) 0 dL_law_2026 rfl ?_
  refine eg_iconst (v := (2 : Int32)) dL_law_2028 (by decide) ?_
  refine eg_iadd dL_law_2029 ?_
  refine eg_sld dL_law_2030 ld2 ?_
  obtain ⟨h1, h2, e1, e2, LN⟩ := L_crown LL (xs ((nI i) + (1 : Int32)).toNatClampNeg) (xs ((nI i) + (2 : Int32)).toNatClampNeg)
  refine eg_callV (c := 12) (n := 2) [.int ((xs ((nI i) + (1 : Int32)).toNatClampNeg)), .int ((xs ((nI i) + (2 : Int32)).toNatClampNeg))] dL_law_2031 (mX12_crown e1) rfl (fX12_crown_O e1) (Nat.le_of_ble_eq_true rfl) rfl ew_1181 ew_1182 ew_1183 ew_100 ew_1184 hy_X12_crown rfl (Nat.le_of_ble_eq_true rfl) (Nat.le_of_ble_eq_true rfl) (Nat.le_of_ble_eq_true rfl) ?_
  refine eg_aload_n (i := 2) 2 dL_law_2034 rfl rfl ?_
  refine eg_aload_n (i := 0) 4 dL_law_2035 rfl rfl ?_
  refine eg_iload (i := 4) 0 dL_law_2036 rfl ?_
  refine eg_iconst (v := (1 : Int32)) dL_law_2038 (by decide) ?_
  refine eg_iadd dL_law_2039 ?_
  refine eg_sld dL_law_2040 ld1 ?_
  refine eg_aload_n (i := 0) 4 dL_law_2041 rfl rfl ?_
  refine eg_iload (i := 4) 0 dL_law_2042 rfl ?_
  refine eg_iconst (v := (2 : Int32)) dL_law_2044 (by decide) ?_
  refine eg_iadd dL_law_2045 ?_
  refine eg_sld dL_law_2046 ld2 ?_
  refine eg_callV (c := 13) (n := 2) [.int ((xs ((nI i) + (1 : Int32)).toNatClampNeg)), .int ((xs ((nI i) + (2 : Int32)).toNatClampNeg))] dL_law_2047 (mX13_crown e2) rfl (fX13_crown_O e2) (Nat.le_of_ble_eq_true rfl) rfl ew_2113 ew_2114 ew_2115 ew_110 ew_2116 hy_X13_crown rfl (Nat.le_of_ble_eq_true rfl) (Nat.le_of_ble_eq_true rfl) (Nat.le_of_ble_eq_true rfl) ?_
  refine eg_lc_eq 2717 dL_law_2050 dL_law_2051 rfl (fun _ => ?_) (fun z => absurd rfl z)
  exact kk _ _ LN
theorem arm_36 (LL : LI h σ B00 tm) (ht : tm < 1000) (hi : i + 6 ≤ L) (hL : L ≤ 3072) (kk : ∀ (h' : eg_H) (σ' : eg_S), LI h' σ' B00 (tm + 1) → eg_AW (RLw, cL_law, 7, 460, some (L, xs, g), nm, ret) lz_Z 3000 70000 h00 2717 [(4, .int (nI i)), (3, .ref 94), (2, .ref 54), (1, .ref 16), (0, .ref 0)] [] h') : eg_AW (RLw, cL_law, 7, 460, some (L, xs, g), nm, ret) lz_Z 3000 70000 h00 2056 [(4, .int (nI i)), (3, .ref 94), (2, .ref 54), (1, .ref 16), (0, .ref 0)] [] h := by
  have ld1 := ld_1 hi hL
  have ld2 := ld_2 hi hL
  have ld3 := ld_3 hi hL
  have ld4 := ld_4 hi hL
  refine eg_aload_n (i := 1) 3 dL_law_2056 rfl rfl ?_
  refine eg_aload_n (i := 0) 4 dL_law_2057 rfl rfl ?_
  refine eg_iload (i := 4) 0 dL_law_2058 rfl ?_
  refine eg_iconst (v := (1 : Int32)) dL_law_2060 (by decide) ?_
  refine eg_iadd dL_law_2061 ?_
  refine eg_sld dL_law_2062 ld1 ?_
  refine eg_aload_n (i := 0) 4 dL_law_2063 rfl rfl ?_
  refine eg_iload (i := 4) 0 dL_law_2064 rfl ?_
  refine eg_iconst (v := (2 : Int32)) dL_law_2066 (by decide) ?_
  refine eg_iadd dL_law_2067 ?_
  refine eg_sld dL_law_2068 ld2 ?_
  refine eg_aload_n (i := 0) 4 dL_law_2069 rfl rfl ?_
  refine eg_iload (i := 4) 0 dL_law_2070 rfl ?_
  refine eg_iconst (v := (3 : Int32)) dL_law_2072 (by decide) ?_
  refine eg_iadd dL_law_2073 ?_
  refine eg_sld dL_law_2074 ld3 ?_
  refine eg_aload_n (i := 0) 4 dL_law_2075 rfl rfl ?_
  refine eg_iload (i := 4) 0 dL_law_2076 rfl ?_
  refine eg_iconst (v := (4 : Int32)) dL_law_2078 (by decide) ?_
  refine eg_iadd dL_law_2079 ?_
  refine eg_sld dL_law_2080 ld4 ?_
  obtain ⟨h1, h2, e1, e2, LN⟩ := L_carton LL (xs ((nI i) + (1 : Int32)).toNatClampNeg) (xs ((nI i) + (2 : Int32)).toNatClampNeg) (xs ((nI i) + (3 : Int32)).toNatClampNeg) (xs ((nI i) + (4 : Int32)).toNatClampNeg)
  refine eg_callV (c := 12) (n := 4) [.int ((xs ((nI i) + (1 : Int32)).toNatClampNeg)), .int ((xs ((nI i) + (2 : Int32)).toNatClampNeg)), .int ((xs ((nI i) + (3 : Int32)).toNatClampNeg)), .int ((xs ((nI i) + (4 : Int32)).toNatClampNeg))] dL_law_2081 (mX12_carton e1) rfl (fX12_carton_O e1) (Nat.le_of_ble_eq_true rfl) rfl ew_1193 ew_1194 ew_1195 ew_100 ew_1196 hy_X12_carton rfl (Nat.le_of_ble_eq_true rfl) (Nat.le_of_ble_eq_true rfl) (Nat.le_of_ble_eq_true rfl) ?_
  refine eg_aload_n (i := 2) 2 dL_law_2084 rfl rfl ?_
  refine eg_aload_n (i := 0) 4 dL_law_2085 rfl rfl ?_
  refine eg_iload (i := 4) 0 dL_law_2086 rfl ?_
  refine eg_iconst (v := (1 : Int32)) dL_law_2088 (by decide) ?_
  refine eg_iadd dL_law_2089 ?_
  refine eg_sld dL_law_2090 ld1 ?_
  refine eg_aload_n (i := 0) 4 dL_law_2091 rfl rfl ?_
  refine eg_iload (i := 4) 0 dL_law_2092 rfl ?_
  refine eg_iconst (v := (2 : Int32)) dL_law_2094 (by decide) ?_
  refine eg_iadd dL_law_2095 ?_
  refine eg_sld dL_law_2096 ld2 ?_
  refine eg_aload_n (i := 0) 4 dL_law_2097 rfl rfl ?_
  refine eg_iload (i := 4) 0 dL_law_2098 rfl ?_
  refine eg_iconst (v := (3 : Int32)) dL_law_2100 (by decide) ?_
  refine eg_iadd dL_law_2101 ?_
  refine eg_sld dL_law_2102 ld3 ?_
  refine eg_aload_n (i := 0) 4 dL_law_2103 rfl rfl ?_
  refine eg_iload (i := 4) 0 dL_law_2104 rfl ?_
  refine eg_iconst (v := (4 : Int32)) dL_law_2106 (by decide) ?_
  refine eg_iadd dL_law_2107 ?_
  refine eg_sld dL_law_2108 ld4 ?_
  refine eg_callV (c := 13) (n := 4) [.int ((xs ((nI i) + (1 : Int32)).toNatClampNeg)), .int ((xs ((nI i) + (2 : Int32)).toNatClampNeg)), .int ((xs ((nI i) + (3 : Int32)).toNatClampNeg)), .int ((xs ((nI i) + (4 : Int32)).toNatClampNeg))] dL_law_2109 (mX13_carton e2) rfl (fX13_carton_O e2) (Nat.le_of_ble_eq_true rfl) rfl ew_2117 ew_2118 ew_2119 ew_110 ew_2120 hy_X13_carton rfl (Nat.le_of_ble_eq_true rfl) (Nat.le_of_ble_eq_true rfl) (Nat.le_of_ble_eq_true rfl) ?_
  refine eg_ic_eq 2717 dL_law_2112 rfl (fun _ => ?_) (fun z => absurd rfl z)
  exact kk _ _ LN
end ARM
