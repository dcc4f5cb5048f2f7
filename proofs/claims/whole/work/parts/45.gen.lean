theorem dX13_isAllGood_0 : decode cX13_isAllGood 0 = .ok (.aload_n 0, 1) := by decide +kernel
theorem dX13_isAllGood_1 : decode cX13_isAllGood 1 = .ok (.iload_n 1, 1) := by decide +kernel
theorem dX13_isAllGood_2 : decode cX13_isAllGood 2 = .ok (.bipush 10, 2) := by decide +kernel
theorem dX13_isAllGood_4 : decode cX13_isAllGood 4 = .ok (.idiv, 1) := by decide +kernel
theorem dX13_isAllGood_5 : decode cX13_isAllGood 5 = .ok (.iload_n 1, 1) := by decide +kernel
theorem dX13_isAllGood_6 : decode cX13_isAllGood 6 = .ok (.bipush 10, 2) := by decide +kernel
theorem dX13_isAllGood_8 : decode cX13_isAllGood 8 = .ok (.irem, 1) := by decide +kernel
theorem dX13_isAllGood_9 : decode cX13_isAllGood 9 = .ok (.iload_n 2, 1) := by decide +kernel
theorem dX13_isAllGood_10 : decode cX13_isAllGood 10 = .ok (.iload_n 3, 1) := by decide +kernel
theorem dX13_isAllGood_11 : decode cX13_isAllGood 11 = .ok (.invokevirtual 426, 3) := by decide +kernel
theorem dX13_isAllGood_14 : decode cX13_isAllGood 14 = .ok (.aload_n 0, 1) := by decide +kernel
theorem dX13_isAllGood_15 : decode cX13_isAllGood 15 = .ok (.getfield 417, 3) := by decide +kernel
theorem dX13_isAllGood_18 : decode cX13_isAllGood 18 = .ok (.iconst 2, 1) := by decide +kernel
theorem dX13_isAllGood_19 : decode cX13_isAllGood 19 = .ok (.aload_n 0, 1) := by decide +kernel
theorem dX13_isAllGood_20 : decode cX13_isAllGood 20 = .ok (.getfield 43, 3) := by decide +kernel
theorem dX13_isAllGood_23 : decode cX13_isAllGood 23 = .ok (.iconst 4, 1) := by decide +kernel
theorem dX13_isAllGood_24 : decode cX13_isAllGood 24 = .ok (.iload_n 1, 1) := by decide +kernel
theorem dX13_isAllGood_25 : decode cX13_isAllGood 25 = .ok (.bipush 10, 2) := by decide +kernel
theorem dX13_isAllGood_27 : decode cX13_isAllGood 27 = .ok (.idiv, 1) := by decide +kernel
theorem dX13_isAllGood_28 : decode cX13_isAllGood 28 = .ok (.imul, 1) := by decide +kernel
theorem dX13_isAllGood_29 : decode cX13_isAllGood 29 = .ok (.iaload, 1) := by decide +kernel
theorem dX13_isAllGood_30 : decode cX13_isAllGood 30 = .ok (.imul, 1) := by decide +kernel
theorem dX13_isAllGood_31 : decode cX13_isAllGood 31 = .ok (.iconst 1, 1) := by decide +kernel
theorem dX13_isAllGood_32 : decode cX13_isAllGood 32 = .ok (.iadd, 1) := by decide +kernel
theorem dX13_isAllGood_33 : decode cX13_isAllGood 33 = .ok (.if_icmp .ne 7, 3) := by decide +kernel
theorem dX13_isAllGood_36 : decode cX13_isAllGood 36 = .ok (.iconst 1, 1) := by decide +kernel
theorem dX13_isAllGood_37 : decode cX13_isAllGood 37 = .ok (.goto 4, 3) := by decide +kernel
theorem dX13_isAllGood_40 : decode cX13_isAllGood 40 = .ok (.iconst 0, 1) := by decide +kernel
theorem dX13_isAllGood_41 : decode cX13_isAllGood 41 = .ok (.ireturn, 1) := by decide +kernel
def fX13_isAllGood (h : eg_H) (l0 : Nat) (l1 : Int32) (l2 : Int32) (l3 : Int32) : Option (Int32 × eg_H) :=
  if eg_isO h 13 l0 then (
    (fX13_layBest h l0 (l1 / (10 : Int32)) (l1 % (10 : Int32)) l2 l3).bind fun h1 =>
    (eg_gI h1 13 38 l0).bind fun v3 =>
    (eg_gR h1 13 20 l0).bind fun p5 =>
    (eg_aI h1 100 p5 ((4 : Int32) * (l1 / (10 : Int32)))).bind fun v7 =>
    if v3 = (((2 : Int32) * v7) + (1 : Int32)) then
      (some ((1 : Int32), h1))
    else
      some ((0 : Int32), h1)) else none
theorem fX13_isAllGood_O {h : eg_H} {l0 : Nat} {l1 : Int32} {l2 : Int32} {l3 : Int32} {rE : Int32} {hE : eg_H} (hF : fX13_isAllGood h l0 l1 l2 l3 = some (rE, hE)) : eg_isO h 13 l0 := (eg_ifn hF).1
set_option maxRecDepth 20000 in
theorem mX13_isAllGood {h : eg_H} {l0 : Nat} {l1 : Int32} {l2 : Int32} {l3 : Int32} {rE : Int32} {hE : eg_H} (hF : fX13_isAllGood h l0 l1 l2 l3 = some (rE, hE)) : eg_Met yX13_isAllGood cX13_isAllGood 4 (some .boolean) 398 [.ref l0, .int l1, .int l2, .int l3] h (some (.int rE)) hE := by
  refine eg_enter rfl (Nat.le_of_ble_eq_true rfl) ?_
  show eg_AW (RX13, cX13_isAllGood, 4, 398, none, "isAllGood", (some .boolean)) (eg_Zm (some (.int rE)) hE h) (eg_nc hE) (eg_ns hE) h 0 [(0, .ref l0), (1, .int l1), (2, .int l2), (3, .int l3)] [] h
  replace hF := (eg_ifn hF).2
  refine eg_aload_n (i := 0) 0 dX13_isAllGood_0 rfl rfl ?_
  refine eg_iload_n (i := 1) 1 dX13_isAllGood_1 rfl rfl ?_
  refine eg_bipush (v := (10 : Int32)) dX13_isAllGood_2 (by decide) ?_
  refine eg_idiv dX13_isAllGood_4 (by decide) ?_
  refine eg_iload_n (i := 1) 1 dX13_isAllGood_5 rfl rfl ?_
  refine eg_bipush (v := (10 : Int32)) dX13_isAllGood_6 (by decide) ?_
  refine eg_irem dX13_isAllGood_8 (by decide) ?_
  refine eg_iload_n (i := 2) 2 dX13_isAllGood_9 rfl rfl ?_
  refine eg_iload_n (i := 3) 3 dX13_isAllGood_10 rfl rfl ?_
  replace hF := eg_bind hF; obtain ⟨h1, e2, hF⟩ := hF
  refine eg_callV (c := 13) (n := 4) [.int (l1 / (10 : Int32)), .int (l1 % (10 : Int32)), .int l2, .int l3] dX13_isAllGood_11 (mX13_layBest e2) rfl (fX13_layBest_O e2) (Nat.le_of_ble_eq_true rfl) rfl ew_1965 ew_1967 ew_84 ew_110 ew_1968 hy_X13_layBest rfl (Nat.le_of_ble_eq_true rfl) (Nat.le_of_ble_eq_true rfl) (Nat.le_of_ble_eq_true rfl) ?_
  refine eg_aload_n (i := 0) 0 dX13_isAllGood_14 rfl rfl ?_
  replace hF := eg_bind hF; obtain ⟨v3, e4, hF⟩ := hF
  refine eg_getI dX13_isAllGood_15 e4 (Nat.le_of_ble_eq_true rfl) (Nat.le_of_ble_eq_true rfl) rfl ew_1472 ?_
  refine eg_iconst (v := (2 : Int32)) dX13_isAllGood_18 (by decide) ?_
  refine eg_aload_n (i := 0) 0 dX13_isAllGood_19 rfl rfl ?_
  replace hF := eg_bind hF; obtain ⟨p5, e6, hF⟩ := hF
  refine eg_getR dX13_isAllGood_20 e6 (Nat.le_of_ble_eq_true rfl) (Nat.le_of_ble_eq_true rfl) rfl ew_1454 ?_
  refine eg_iconst (v := (4 : Int32)) dX13_isAllGood_23 (by decide) ?_
  refine eg_iload_n (i := 1) 1 dX13_isAllGood_24 rfl rfl ?_
  refine eg_bipush (v := (10 : Int32)) dX13_isAllGood_25 (by decide) ?_
  refine eg_idiv dX13_isAllGood_27 (by decide) ?_
  refine eg_imul dX13_isAllGood_28 ?_
  replace hF := eg_bind hF; obtain ⟨v7, e8, hF⟩ := hF
  refine eg_iald dX13_isAllGood_29 e8 ?_
  refine eg_imul dX13_isAllGood_30 ?_
  refine eg_iconst (v := (1 : Int32)) dX13_isAllGood_31 (by decide) ?_
  refine eg_iadd dX13_isAllGood_32 ?_
  refine eg_ic_ne 40 dX13_isAllGood_33 rfl (fun c9 => ?_) (fun c9 => ?_)
  · replace hF := eg_it c9 hF
    refine eg_iconst (v := (1 : Int32)) dX13_isAllGood_36 (by decide) ?_
    refine eg_goto 41 dX13_isAllGood_37 rfl ?_
    exact eg_zretE dX13_isAllGood_41 (Or.inr rfl) hF
  · replace hF := eg_if c9 hF
    refine eg_iconst (v := (0 : Int32)) dX13_isAllGood_40 (by decide) ?_
    exact eg_zretE dX13_isAllGood_41 (Or.inl rfl) hF
theorem dX13_spare_0 : decode cX13_spare 0 = .ok (.aload_n 0, 1) := by decide +kernel
theorem dX13_spare_1 : decode cX13_spare 1 = .ok (.iconst 0, 1) := by decide +kernel
theorem dX13_spare_2 : decode cX13_spare 2 = .ok (.putfield 148, 3) := by decide +kernel
theorem dX13_spare_5 : decode cX13_spare 5 = .ok (.aload_n 0, 1) := by decide +kernel
theorem dX13_spare_6 : decode cX13_spare 6 = .ok (.iload_n 1, 1) := by decide +kernel
theorem dX13_spare_7 : decode cX13_spare 7 = .ok (.invokevirtual 405, 3) := by decide +kernel
theorem dX13_spare_10 : decode cX13_spare 10 = .ok (.ifCond .eq 25, 3) := by decide +kernel
theorem dX13_spare_13 : decode cX13_spare 13 = .ok (.iload_n 2, 1) := by decide +kernel
theorem dX13_spare_14 : decode cX13_spare 14 = .ok (.i2l, 1) := by decide +kernel
theorem dX13_spare_15 : decode cX13_spare 15 = .ok (.lconst 0, 1) := by decide +kernel
theorem dX13_spare_16 : decode cX13_spare 16 = .ok (.lconst 1, 1) := by decide +kernel
theorem dX13_spare_17 : decode cX13_spare 17 = .ok (.invokestatic 269, 3) := by decide +kernel
theorem dX13_spare_20 : decode cX13_spare 20 = .ok (.ifCond .eq 15, 3) := by decide +kernel
theorem dX13_spare_23 : decode cX13_spare 23 = .ok (.iload_n 3, 1) := by decide +kernel
theorem dX13_spare_24 : decode cX13_spare 24 = .ok (.i2l, 1) := by decide +kernel
theorem dX13_spare_25 : decode cX13_spare 25 = .ok (.lconst 1, 1) := by decide +kernel
theorem dX13_spare_26 : decode cX13_spare 26 = .ok (.ldc2_w 380, 3) := by decide +kernel
theorem dX13_spare_29 : decode cX13_spare 29 = .ok (.invokestatic 269, 3) := by decide +kernel
theorem dX13_spare_32 : decode cX13_spare 32 = .ok (.ifCond .ne 5, 3) := by decide +kernel
theorem dX13_spare_35 : decode cX13_spare 35 = .ok (.iconst (-1), 1) := by decide +kernel
theorem dX13_spare_36 : decode cX13_spare 36 = .ok (.ireturn, 1) := by decide +kernel
theorem dX13_spare_37 : decode cX13_spare 37 = .ok (.iconst (-1), 1) := by decide +kernel
theorem dX13_spare_38 : decode cX13_spare 38 = .ok (.istore 4, 2) := by decide +kernel
theorem dX13_spare_40 : decode cX13_spare 40 = .ok (.iconst 0, 1) := by decide +kernel
theorem dX13_spare_41 : decode cX13_spare 41 = .ok (.istore 5, 2) := by decide +kernel
theorem dX13_spare_43 : decode cX13_spare 43 = .ok (.iconst 0, 1) := by decide +kernel
theorem dX13_spare_44 : decode cX13_spare 44 = .ok (.istore 6, 2) := by decide +kernel
theorem dX13_spare_46 : decode cX13_spare 46 = .ok (.iload 6, 2) := by decide +kernel
theorem dX13_spare_48 : decode cX13_spare 48 = .ok (.aload_n 0, 1) := by decide +kernel
theorem dX13_spare_49 : decode cX13_spare 49 = .ok (.getfield 338, 3) := by decide +kernel
theorem dX13_spare_52 : decode cX13_spare 52 = .ok (.if_icmp .ge 89, 3) := by decide +kernel
theorem dX13_spare_55 : decode cX13_spare 55 = .ok (.aload_n 0, 1) := by decide +kernel
theorem dX13_spare_56 : decode cX13_spare 56 = .ok (.getfield 49, 3) := by decide +kernel
theorem dX13_spare_59 : decode cX13_spare 59 = .ok (.iconst 2, 1) := by decide +kernel
theorem dX13_spare_60 : decode cX13_spare 60 = .ok (.iload 6, 2) := by decide +kernel
theorem dX13_spare_62 : decode cX13_spare 62 = .ok (.imul, 1) := by decide +kernel
theorem dX13_spare_63 : decode cX13_spare 63 = .ok (.iconst 1, 1) := by decide +kernel
theorem dX13_spare_64 : decode cX13_spare 64 = .ok (.iadd, 1) := by decide +kernel
theorem dX13_spare_65 : decode cX13_spare 65 = .ok (.iaload, 1) := by decide +kernel
theorem dX13_spare_66 : decode cX13_spare 66 = .ok (.iconst 1, 1) := by decide +kernel
theorem dX13_spare_67 : decode cX13_spare 67 = .ok (.if_icmp .ne 17, 3) := by decide +kernel
theorem dX13_spare_70 : decode cX13_spare 70 = .ok (.aload_n 0, 1) := by decide +kernel
theorem dX13_spare_71 : decode cX13_spare 71 = .ok (.getfield 49, 3) := by decide +kernel
theorem dX13_spare_74 : decode cX13_spare 74 = .ok (.iconst 2, 1) := by decide +kernel
theorem dX13_spare_75 : decode cX13_spare 75 = .ok (.iload 6, 2) := by decide +kernel
theorem dX13_spare_77 : decode cX13_spare 77 = .ok (.imul, 1) := by decide +kernel
theorem dX13_spare_78 : decode cX13_spare 78 = .ok (.iaload, 1) := by decide +kernel
theorem dX13_spare_79 : decode cX13_spare 79 = .ok (.iconst 2, 1) := by decide +kernel
theorem dX13_spare_80 : decode cX13_spare 80 = .ok (.idiv, 1) := by decide +kernel
theorem dX13_spare_81 : decode cX13_spare 81 = .ok (.goto 12, 3) := by decide +kernel
theorem dX13_spare_84 : decode cX13_spare 84 = .ok (.aload_n 0, 1) := by decide +kernel
theorem dX13_spare_85 : decode cX13_spare 85 = .ok (.getfield 49, 3) := by decide +kernel
theorem dX13_spare_88 : decode cX13_spare 88 = .ok (.iconst 2, 1) := by decide +kernel
theorem dX13_spare_89 : decode cX13_spare 89 = .ok (.iload 6, 2) := by decide +kernel
theorem dX13_spare_91 : decode cX13_spare 91 = .ok (.imul, 1) := by decide +kernel
theorem dX13_spare_92 : decode cX13_spare 92 = .ok (.iaload, 1) := by decide +kernel
theorem dX13_spare_93 : decode cX13_spare 93 = .ok (.istore 7, 2) := by decide +kernel
theorem dX13_spare_95 : decode cX13_spare 95 = .ok (.iload 4, 2) := by decide +kernel
theorem dX13_spare_97 : decode cX13_spare 97 = .ok (.iconst (-1), 1) := by decide +kernel
theorem dX13_spare_98 : decode cX13_spare 98 = .ok (.if_icmp .eq 10, 3) := by decide +kernel
theorem dX13_spare_101 : decode cX13_spare 101 = .ok (.iload 7, 2) := by decide +kernel
theorem dX13_spare_103 : decode cX13_spare 103 = .ok (.iload 5, 2) := by decide +kernel
theorem dX13_spare_105 : decode cX13_spare 105 = .ok (.if_icmp .ge 30, 3) := by decide +kernel
theorem dX13_spare_108 : decode cX13_spare 108 = .ok (.aload_n 0, 1) := by decide +kernel
theorem dX13_spare_109 : decode cX13_spare 109 = .ok (.iload_n 1, 1) := by decide +kernel
theorem dX13_spare_110 : decode cX13_spare 110 = .ok (.bipush 10, 2) := by decide +kernel
theorem dX13_spare_112 : decode cX13_spare 112 = .ok (.iload 6, 2) := by decide +kernel
theorem dX13_spare_114 : decode cX13_spare 114 = .ok (.imul, 1) := by decide +kernel
theorem dX13_spare_115 : decode cX13_spare 115 = .ok (.iload_n 2, 1) := by decide +kernel
theorem dX13_spare_116 : decode cX13_spare 116 = .ok (.iadd, 1) := by decide +kernel
theorem dX13_spare_117 : decode cX13_spare 117 = .ok (.iload_n 3, 1) := by decide +kernel
theorem dX13_spare_118 : decode cX13_spare 118 = .ok (.invokevirtual 517, 3) := by decide +kernel
theorem dX13_spare_121 : decode cX13_spare 121 = .ok (.ifCond .ne 6, 3) := by decide +kernel
theorem dX13_spare_124 : decode cX13_spare 124 = .ok (.goto 11, 3) := by decide +kernel
theorem dX13_spare_127 : decode cX13_spare 127 = .ok (.iload 6, 2) := by decide +kernel
theorem dX13_spare_129 : decode cX13_spare 129 = .ok (.istore 4, 2) := by decide +kernel
theorem dX13_spare_131 : decode cX13_spare 131 = .ok (.iload 7, 2) := by decide +kernel
theorem dX13_spare_133 : decode cX13_spare 133 = .ok (.istore 5, 2) := by decide +kernel
theorem dX13_spare_135 : decode cX13_spare 135 = .ok (.iinc 6 1, 3) := by decide +kernel
theorem dX13_spare_138 : decode cX13_spare 138 = .ok (.goto (-92), 3) := by decide +kernel
theorem dX13_spare_141 : decode cX13_spare 141 = .ok (.iload 4, 2) := by decide +kernel
theorem dX13_spare_143 : decode cX13_spare 143 = .ok (.ireturn, 1) := by decide +kernel
def fX13_spare_j108 (rec : eg_H → Nat → Int32 → Int32 → Int32 → Int32 → Int32 → Int32 → Option (Int32 × eg_H)) (h : eg_H) (l0 : Nat) (l1 : Int32) (l2 : Int32) (l3 : Int32) (l4 : Int32) (l5 : Int32) (l6 : Int32) (l7 : Int32) : Option (Int32 × eg_H) :=
  (fX13_isAllGood h l0 l1 (((10 : Int32) * l6) + l2) l3).bind fun ⟨v2, h1⟩ =>
  if v2 = 0 then
    (rec h1 l0 l1 l2 l3 l4 l5 (l6 + (1 : Int32)))
  else
    rec h1 l0 l1 l2 l3 l6 l7 (l6 + (1 : Int32))
set_option maxRecDepth 20000 in
theorem fX13_spare_j108_ok {rec : eg_H → Nat → Int32 → Int32 → Int32 → Int32 → Int32 → Int32 → Option (Int32 × eg_H)} {h0 : eg_H} {Z : eg_C → State → Prop} {N S : Nat} (h : eg_H) (l0 : Nat) (l1 : Int32) (l2 : Int32) (l3 : Int32) (l4 : Int32) (l5 : Int32) (l6 : Int32) (l7 : Int32) (eE : Int32 × eg_H) (hF : fX13_spare_j108 rec h l0 l1 l2 l3 l4 l5 l6 l7 = some eE) (hrec : ∀ (h : eg_H) (l0 : Nat) (l1 : Int32) (l2 : Int32) (l3 : Int32) (l4 : Int32) (l5 : Int32) (l6 : Int32), rec h l0 l1 l2 l3 l4 l5 l6 = some eE → eg_AW (RX13, cX13_spare, 8, 399, none, "spare", (some .int)) Z N S h0 46 [(0, .ref l0), (1, .int l1), (2, .int l2), (3, .int l3), (4, .int l4), (5, .int l5), (6, .int l6)] [] h) (hk0 : ∀ (l4 : Int32) (h : eg_H), eE = (l4, h) → eg_AW (RX13, cX13_spare, 8, 399, none, "spare", (some .int)) Z N S h0 141 [(4, .int l4)] [] h) : eg_AW (RX13, cX13_spare, 8, 399, none, "spare", (some .int)) Z N S h0 108 [(0, .ref l0), (1, .int l1), (2, .int l2), (3, .int l3), (4, .int l4), (5, .int l5), (6, .int l6), (7, .int l7)] [] h := by
  refine eg_aload_n (i := 0) 0 dX13_spare_108 rfl rfl ?_
  refine eg_iload_n (i := 1) 1 dX13_spare_109 rfl rfl ?_
  refine eg_bipush (v := (10 : Int32)) dX13_spare_110 (by decide) ?_
  refine eg_iload (i := 6) 6 dX13_spare_112 rfl ?_
  refine eg_imul dX13_spare_114 ?_
  refine eg_iload_n (i := 2) 2 dX13_spare_115 rfl rfl ?_
  refine eg_iadd dX13_spare_116 ?_
  refine eg_iload_n (i := 3) 3 dX13_spare_117 rfl rfl ?_
  replace hF := eg_bind hF; obtain ⟨⟨v2, h1⟩, e3, hF⟩ := hF
  refine eg_callV (c := 13) (n := 3) [.int l1, .int (((10 : Int32) * l6) + l2), .int l3] dX13_spare_118 (mX13_isAllGood e3) rfl (fX13_isAllGood_O e3) (Nat.le_of_ble_eq_true rfl) rfl ew_2129 ew_2131 ew_95 ew_110 ew_2132 hy_X13_isAllGood rfl (Nat.le_of_ble_eq_true rfl) (Nat.le_of_ble_eq_true rfl) (Nat.le_of_ble_eq_true rfl) ?_
  refine eg_if_ne 127 dX13_spare_121 rfl (fun c4 => ?_) (fun c4 => ?_)
  · replace hF := eg_it c4 hF
    refine eg_goto 135 dX13_spare_124 rfl ?_
    refine eg_iinc (i := 6) (v := (l6 + (1 : Int32))) 6 [(6, .int (l6 + (1 : Int32))), (0, .ref l0), (1, .int l1), (2, .int l2), (3, .int l3), (4, .int l4), (5, .int l5), (7, .int l7)] dX13_spare_135 rfl rfl (Nat.le_of_ble_eq_true rfl) rfl ?_
    refine eg_goto 46 dX13_spare_138 rfl ?_
    exact eg_sub [1, 2, 3, 4, 5, 6, 0] [(0, .ref l0), (1, .int l1), (2, .int l2), (3, .int l3), (4, .int l4), (5, .int l5), (6, .int (l6 + (1 : Int32)))] rfl (hrec h1 l0 l1 l2 l3 l4 l5 (l6 + (1 : Int32)) hF)
  · replace hF := eg_if c4 hF
    refine eg_iload (i := 6) 6 dX13_spare_127 rfl ?_
    refine eg_istore (i := 4) [(4, .int l6), (0, .ref l0), (1, .int l1), (2, .int l2), (3, .int l3), (5, .int l5), (6, .int l6), (7, .int l7)] dX13_spare_129 (Nat.le_of_ble_eq_true rfl) rfl ?_
    refine eg_iload (i := 7) 7 dX13_spare_131 rfl ?_
    refine eg_istore (i := 5) [(5, .int l7), (4, .int l6), (0, .ref l0), (1, .int l1), (2, .int l2), (3, .int l3), (6, .int l6), (7, .int l7)] dX13_spare_133 (Nat.le_of_ble_eq_true rfl) rfl ?_
    refine eg_iinc (i := 6) (v := (l6 + (1 : Int32))) 6 [(6, .int (l6 + (1 : Int32))), (5, .int l7), (4, .int l6), (0, .ref l0), (1, .int l1), (2, .int l2), (3, .int l3), (7, .int l7)] dX13_spare_135 rfl rfl (Nat.le_of_ble_eq_true rfl) rfl ?_
    refine eg_goto 46 dX13_spare_138 rfl ?_
    exact eg_sub [3, 4, 5, 6, 2, 1, 0] [(0, .ref l0), (1, .int l1), (2, .int l2), (3, .int l3), (4, .int l6), (5, .int l7), (6, .int (l6 + (1 : Int32)))] rfl (hrec h1 l0 l1 l2 l3 l6 l7 (l6 + (1 : Int32)) hF)
def fX13_spare_j93 (rec : eg_H → Nat → Int32 → Int32 → Int32 → Int32 → Int32 → Int32 → Option (Int32 × eg_H)) (h : eg_H) (l0 : Nat) (l1 : Int32) (l2 : Int32) (l3 : Int32) (l4 : Int32) (l5 : Int32) (l6 : Int32) (s0 : Int32) : Option (Int32 × eg_H) :=
  if l4 = (-1 : Int32) then
    (fX13_spare_j108 rec h l0 l1 l2 l3 l4 l5 l6 s0)
  else
    if l5 ≤ s0 then
      (rec h l0 l1 l2 l3 l4 l5 (l6 + (1 : Int32)))
    else
      fX13_spare_j108 rec h l0 l1 l2 l3 l4 l5 l6 s0
set_option maxRecDepth 20000 in
theorem fX13_spare_j93_ok {rec : eg_H → Nat → Int32 → Int32 → Int32 → Int32 → Int32 → Int32 → Option (Int32 × eg_H)} {h0 : eg_H} {Z : eg_C → State → Prop} {N S : Nat} (h : eg_H) (l0 : Nat) (l1 : Int32) (l2 : Int32) (l3 : Int32) (l4 : Int32) (l5 : Int32) (l6 : Int32) (s0 : Int32) (eE : Int32 × eg_H) (hF : fX13_spare_j93 rec h l0 l1 l2 l3 l4 l5 l6 s0 = some eE) (hrec : ∀ (h : eg_H) (l0 : Nat) (l1 : Int32) (l2 : Int32) (l3 : Int32) (l4 : Int32) (l5 : Int32) (l6 : Int32), rec h l0 l1 l2 l3 l4 l5 l6 = some eE → eg_AW (RX13, cX13_spare, 8, 399, none, "spare", (some .int)) Z N S h0 46 [(0, .ref l0), (1, .int l1), (2, .int l2), (3, .int l3), (4, .int l4), (5, .int l5), (6, .int l6)] [] h) (hk0 : ∀ (l4 : Int32) (h : eg_H), eE = (l4, h) → eg_AW (RX13, cX13_spare, 8, 399, none, "spare", (some .int)) Z N S h0 141 [(4, .int l4)] [] h) : eg_AW (RX13, cX13_spare, 8, 399, none, "spare", (some .int)) Z N S h0 93 [(0, .ref l0), (1, .int l1), (2, .int l2), (3, .int l3), (4, .int l4), (5, .int l5), (6, .int l6)] [.int s0] h := by
  refine eg_istore (i := 7) [(7, .int s0), (0, .ref l0), (1, .int l1), (2, .int l2), (3, .int l3), (4, .int l4), (5, .int l5), (6, .int l6)] dX13_spare_93 (Nat.le_of_ble_eq_true rfl) rfl ?_
  refine eg_iload (i := 4) 5 dX13_spare_95 rfl ?_
  refine eg_iconst (v := (-1 : Int32)) dX13_spare_97 (by decide) ?_
  refine eg_ic_eq 108 dX13_spare_98 rfl (fun c1 => ?_) (fun c1 => ?_)
  · replace hF := eg_it c1 hF
    exact eg_sub [1, 2, 3, 4, 5, 6, 7, 0] [(0, .ref l0), (1, .int l1), (2, .int l2), (3, .int l3), (4, .int l4), (5, .int l5), (6, .int l6), (7, .int s0)] rfl (fX13_spare_j108_ok h l0 l1 l2 l3 l4 l5 l6 s0 eE hF hrec hk0)
  · replace hF := eg_if c1 hF
    refine eg_iload (i := 7) 0 dX13_spare_101 rfl ?_
    refine eg_iload (i := 5) 6 dX13_spare_103 rfl ?_
    refine eg_ic_ge 135 dX13_spare_105 rfl (fun c2 => ?_) (fun c2 => ?_)
    · replace hF := eg_it c2 hF
      refine eg_iinc (i := 6) (v := (l6 + (1 : Int32))) 7 [(6, .int (l6 + (1 : Int32))), (7, .int s0), (0, .ref l0), (1, .int l1), (2, .int l2), (3, .int l3), (4, .int l4), (5, .int l5)] dX13_spare_135 rfl rfl (Nat.le_of_ble_eq_true rfl) rfl ?_
      refine eg_goto 46 dX13_spare_138 rfl ?_
      exact eg_sub [2, 3, 4, 5, 6, 7, 0] [(0, .ref l0), (1, .int l1), (2, .int l2), (3, .int l3), (4, .int l4), (5, .int l5), (6, .int (l6 + (1 : Int32)))] rfl (hrec h l0 l1 l2 l3 l4 l5 (l6 + (1 : Int32)) hF)
    · replace hF := eg_if c2 hF
      exact eg_sub [1, 2, 3, 4, 5, 6, 7, 0] [(0, .ref l0), (1, .int l1), (2, .int l2), (3, .int l3), (4, .int l4), (5, .int l5), (6, .int l6), (7, .int s0)] rfl (fX13_spare_j108_ok h l0 l1 l2 l3 l4 l5 l6 s0 eE hF hrec hk0)
def fX13_spare_L46 : Nat → eg_H → Nat → Int32 → Int32 → Int32 → Int32 → Int32 → Int32 → Option (Int32 × eg_H)
  | 0, _, _, _, _, _, _, _, _ => none
  | n + 1, h, l0, l1, l2, l3, l4, l5, l6 =>
    (eg_gI h 13 26 l0).bind fun v1 =>
    if v1 ≤ l6 then
      (some (l4, h))
    else
      (eg_gR h 13 22 l0).bind fun p4 =>
      (eg_aI h 100 p4 (((2 : Int32) * l6) + (1 : Int32))).bind fun v6 =>
      if v6 = (1 : Int32) then
        ((eg_gR h 13 22 l0).bind fun p9 =>
        (eg_aI h 100 p9 ((2 : Int32) * l6)).bind fun v11 =>
        fX13_spare_j93 (fX13_spare_L46 n) h l0 l1 l2 l3 l4 l5 l6 (v11 / (2 : Int32)))
      else
        (eg_gR h 13 22 l0).bind fun p13 =>
        (eg_aI h 100 p13 ((2 : Int32) * l6)).bind fun v15 =>
        fX13_spare_j93 (fX13_spare_L46 n) h l0 l1 l2 l3 l4 l5 l6 v15
set_option maxRecDepth 20000 in
theorem fX13_spare_L46_ok {h0 : eg_H} {Z : eg_C → State → Prop} {N S : Nat} : ∀ (n : Nat) (h : eg_H) (l0 : Nat) (l1 : Int32) (l2 : Int32) (l3 : Int32) (l4 : Int32) (l5 : Int32) (l6 : Int32) (eE : Int32 × eg_H), fX13_spare_L46 n h l0 l1 l2 l3 l4 l5 l6 = some eE → (hk0 : ∀ (l4 : Int32) (h : eg_H), eE = (l4, h) → eg_AW (RX13, cX13_spare, 8, 399, none, "spare", (some .int)) Z N S h0 141 [(4, .int l4)] [] h) → eg_AW (RX13, cX13_spare, 8, 399, none, "spare", (some .int)) Z N S h0 46 [(0, .ref l0), (1, .int l1), (2, .int l2), (3, .int l3), (4, .int l4), (5, .int l5), (6, .int l6)] [] h := by
  intro n
  induction n with
  | zero => intro h l0 l1 l2 l3 l4 l5 l6 eE hF; exact absurd hF (by intro q; cases q)
  | succ n ih =>
    intro h l0 l1 l2 l3 l4 l5 l6 eE hF hk0
    have hrec := fun (h' : eg_H) (l0 : Nat) (l1 : Int32) (l2 : Int32) (l3 : Int32) (l4 : Int32) (l5 : Int32) (l6 : Int32) hq => ih h' l0 l1 l2 l3 l4 l5 l6 eE hq hk0
    refine eg_iload (i := 6) 6 dX13_spare_46 rfl ?_
    refine eg_aload_n (i := 0) 0 dX13_spare_48 rfl rfl ?_
    replace hF := eg_bind hF; obtain ⟨v1, e2, hF⟩ := hF
    refine eg_getI dX13_spare_49 e2 (Nat.le_of_ble_eq_true rfl) (Nat.le_of_ble_eq_true rfl) rfl ew_1460 ?_
    refine eg_ic_ge 141 dX13_spare_52 rfl (fun c3 => ?_) (fun c3 => ?_)
    · replace hF := eg_it c3 hF
      exact eg_sub [4] [(4, .int l4)] rfl (hk0 l4 h (Option.some.inj hF).symm)
    · replace hF := eg_if c3 hF
      refine eg_aload_n (i := 0) 0 dX13_spare_55 rfl rfl ?_
      replace hF := eg_bind hF; obtain ⟨p4, e5, hF⟩ := hF
      refine eg_getR dX13_spare_56 e5 (Nat.le_of_ble_eq_true rfl) (Nat.le_of_ble_eq_true rfl) rfl ew_1456 ?_
      refine eg_iconst (v := (2 : Int32)) dX13_spare_59 (by decide) ?_
      refine eg_iload (i := 6) 6 dX13_spare_60 rfl ?_
      refine eg_imul dX13_spare_62 ?_
      refine eg_iconst (v := (1 : Int32)) dX13_spare_63 (by decide) ?_
      refine eg_iadd dX13_spare_64 ?_
      replace hF := eg_bind hF; obtain ⟨v6, e7, hF⟩ := hF
      refine eg_iald dX13_spare_65 e7 ?_
      refine eg_iconst (v := (1 : Int32)) dX13_spare_66 (by decide) ?_
      refine eg_ic_ne 84 dX13_spare_67 rfl (fun c8 => ?_) (fun c8 => ?_)
      · replace hF := eg_it c8 hF
        refine eg_aload_n (i := 0) 0 dX13_spare_70 rfl rfl ?_
        replace hF := eg_bind hF; obtain ⟨p9, e10, hF⟩ := hF
        refine eg_getR dX13_spare_71 e10 (Nat.le_of_ble_eq_true rfl) (Nat.le_of_ble_eq_true rfl) rfl ew_1456 ?_
        refine eg_iconst (v := (2 : Int32)) dX13_spare_74 (by decide) ?_
        refine eg_iload (i := 6) 6 dX13_spare_75 rfl ?_
        refine eg_imul dX13_spare_77 ?_
        replace hF := eg_bind hF; obtain ⟨v11, e12, hF⟩ := hF
        refine eg_iald dX13_spare_78 e12 ?_
        refine eg_iconst (v := (2 : Int32)) dX13_spare_79 (by decide) ?_
        refine eg_idiv dX13_spare_80 (by decide) ?_
        refine eg_goto 93 dX13_spare_81 rfl ?_
        exact (fX13_spare_j93_ok h l0 l1 l2 l3 l4 l5 l6 (v11 / (2 : Int32)) eE hF hrec hk0)
      · replace hF := eg_if c8 hF
        refine eg_aload_n (i := 0) 0 dX13_spare_84 rfl rfl ?_
        replace hF := eg_bind hF; obtain ⟨p13, e14, hF⟩ := hF
        refine eg_getR dX13_spare_85 e14 (Nat.le_of_ble_eq_true rfl) (Nat.le_of_ble_eq_true rfl) rfl ew_1456 ?_
        refine eg_iconst (v := (2 : Int32)) dX13_spare_88 (by decide) ?_
        refine eg_iload (i := 6) 6 dX13_spare_89 rfl ?_
        refine eg_imul dX13_spare_91 ?_
        replace hF := eg_bind hF; obtain ⟨v15, e16, hF⟩ := hF
        refine eg_iald dX13_spare_92 e16 ?_
        exact (fX13_spare_j93_ok h l0 l1 l2 l3 l4 l5 l6 v15 eE hF hrec hk0)
def fX13_spare (h : eg_H) (l0 : Nat) (l1 : Int32) (l2 : Int32) (l3 : Int32) : Option (Int32 × eg_H) :=
  if eg_isO h 13 l0 then (
    (eg_pI h 13 0 l0 (0 : Int32)).bind fun h1 =>
    (fX13_isTwo h1 l0 l1).bind fun ⟨v4, h3⟩ =>
    if v4 = 0 then
      (some ((-1 : Int32), h3))
    else
      (fX13_isIn h3 l2.toInt64 (0 : Int64) (1 : Int64)).bind fun ⟨v8, h7⟩ =>
      if v8 = 0 then
        (some ((-1 : Int32), h7))
      else
        (fX13_isIn h7 l3.toInt64 (1 : Int64) (60 : Int64)).bind fun ⟨v12, h11⟩ =>
        if v12 = 0 then
          (some ((-1 : Int32), h11))
        else
          (fX13_spare_L46 eg_F h11 l0 l1 l2 l3 (-1 : Int32) (0 : Int32) (0 : Int32)).bind fun e =>
          match e with
          | (v17, h18) =>
            some (v17, h18)) else none
theorem fX13_spare_O {h : eg_H} {l0 : Nat} {l1 : Int32} {l2 : Int32} {l3 : Int32} {rE : Int32} {hE : eg_H} (hF : fX13_spare h l0 l1 l2 l3 = some (rE, hE)) : eg_isO h 13 l0 := (eg_ifn hF).1
set_option maxRecDepth 20000 in
theorem mX13_spare {h : eg_H} {l0 : Nat} {l1 : Int32} {l2 : Int32} {l3 : Int32} {rE : Int32} {hE : eg_H} (hF : fX13_spare h l0 l1 l2 l3 = some (rE, hE)) : eg_Met yX13_spare cX13_spare 8 (some .int) 399 [.ref l0, .int l1, .int l2, .int l3] h (some (.int rE)) hE := by
  refine eg_enter rfl (Nat.le_of_ble_eq_true rfl) ?_
  show eg_AW (RX13, cX13_spare, 8, 399, none, "spare", (some .int)) (eg_Zm (some (.int rE)) hE h) (eg_nc hE) (eg_ns hE) h 0 [(0, .ref l0), (1, .int l1), (2, .int l2), (3, .int l3)] [] h
  replace hF := (eg_ifn hF).2
  refine eg_aload_n (i := 0) 0 dX13_spare_0 rfl rfl ?_
  refine eg_iconst (v := (0 : Int32)) dX13_spare_1 (by decide) ?_
  replace hF := eg_bind hF; obtain ⟨h1, e2, hF⟩ := hF
  refine eg_putI dX13_spare_2 e2 (Nat.le_of_ble_eq_true rfl) (Nat.le_of_ble_eq_true rfl) rfl ew_1434 (Or.inl rfl) ?_
  refine eg_aload_n (i := 0) 0 dX13_spare_5 rfl rfl ?_
  refine eg_iload_n (i := 1) 1 dX13_spare_6 rfl rfl ?_
  replace hF := eg_bind hF; obtain ⟨⟨v4, h3⟩, e5, hF⟩ := hF
  refine eg_callV (c := 13) (n := 1) [.int l1] dX13_spare_7 (mX13_isTwo e5) rfl (fX13_isTwo_O e5) (Nat.le_of_ble_eq_true rfl) rfl ew_1929 ew_1931 ew_76 ew_110 ew_1932 hy_X13_isTwo rfl (Nat.le_of_ble_eq_true rfl) (Nat.le_of_ble_eq_true rfl) (Nat.le_of_ble_eq_true rfl) ?_
  refine eg_if_eq 35 dX13_spare_10 rfl (fun c6 => ?_) (fun c6 => ?_)
  · replace hF := eg_it c6 hF
    refine eg_iconst (v := (-1 : Int32)) dX13_spare_35 (by decide) ?_
    exact eg_iretE dX13_spare_36 hF
  · replace hF := eg_if c6 hF
    refine eg_iload_n (i := 2) 2 dX13_spare_13 rfl rfl ?_
    refine eg_i2l dX13_spare_14 ?_
    refine eg_lconst (v := (0 : Int64)) dX13_spare_15 (by decide) ?_
    refine eg_lconst (v := (1 : Int64)) dX13_spare_16 (by decide) ?_
    replace hF := eg_bind hF; obtain ⟨⟨v8, h7⟩, e9, hF⟩ := hF
    refine eg_callS (n := 3) [.long l2.toInt64, .long (0 : Int64), .long (1 : Int64)] dX13_spare_17 (mX13_isIn e9) rfl ew_1697 ew_1698 ew_110 ew_1699 hy_X13_isIn.2 rfl (Nat.le_of_ble_eq_true rfl) (Nat.le_of_ble_eq_true rfl) (Nat.le_of_ble_eq_true rfl) ?_
    refine eg_if_eq 35 dX13_spare_20 rfl (fun c10 => ?_) (fun c10 => ?_)
    · replace hF := eg_it c10 hF
      refine eg_iconst (v := (-1 : Int32)) dX13_spare_35 (by decide) ?_
      exact eg_iretE dX13_spare_36 hF
    · replace hF := eg_if c10 hF
      refine eg_iload_n (i := 3) 3 dX13_spare_23 rfl rfl ?_
      refine eg_i2l dX13_spare_24 ?_
      refine eg_lconst (v := (1 : Int64)) dX13_spare_25 (by decide) ?_
      refine eg_ldc2 (v := (60 : Int64)) dX13_spare_26 ew_1912 ?_
      replace hF := eg_bind hF; obtain ⟨⟨v12, h11⟩, e13, hF⟩ := hF
      refine eg_callS (n := 3) [.long l3.toInt64, .long (1 : Int64), .long (60 : Int64)] dX13_spare_29 (mX13_isIn e13) rfl ew_1697 ew_1698 ew_110 ew_1699 hy_X13_isIn.2 rfl (Nat.le_of_ble_eq_true rfl) (Nat.le_of_ble_eq_true rfl) (Nat.le_of_ble_eq_true rfl) ?_
      refine eg_if_ne 37 dX13_spare_32 rfl (fun c14 => ?_) (fun c14 => ?_)
      · replace hF := eg_it c14 hF
        refine eg_iconst (v := (-1 : Int32)) dX13_spare_35 (by decide) ?_
        exact eg_iretE dX13_spare_36 hF
      · replace hF := eg_if c14 hF
        refine eg_iconst (v := (-1 : Int32)) dX13_spare_37 (by decide) ?_
        refine eg_istore (i := 4) [(4, .int (-1 : Int32)), (0, .ref l0), (1, .int l1), (2, .int l2), (3, .int l3)] dX13_spare_38 (Nat.le_of_ble_eq_true rfl) rfl ?_
        refine eg_iconst (v := (0 : Int32)) dX13_spare_40 (by decide) ?_
        refine eg_istore (i := 5) [(5, .int (0 : Int32)), (4, .int (-1 : Int32)), (0, .ref l0), (1, .int l1), (2, .int l2), (3, .int l3)] dX13_spare_41 (Nat.le_of_ble_eq_true rfl) rfl ?_
        refine eg_iconst (v := (0 : Int32)) dX13_spare_43 (by decide) ?_
        refine eg_istore (i := 6) [(6, .int (0 : Int32)), (5, .int (0 : Int32)), (4, .int (-1 : Int32)), (0, .ref l0), (1, .int l1), (2, .int l2), (3, .int l3)] dX13_spare_44 (Nat.le_of_ble_eq_true rfl) rfl ?_
        replace hF := eg_bind hF; obtain ⟨x16, e15, hF⟩ := hF
        refine eg_sub [3, 4, 5, 6, 2, 1, 0] [(0, .ref l0), (1, .int l1), (2, .int l2), (3, .int l3), (4, .int (-1 : Int32)), (5, .int (0 : Int32)), (6, .int (0 : Int32))] rfl (fX13_spare_L46_ok eg_F h11 l0 l1 l2 l3 (-1 : Int32) (0 : Int32) (0 : Int32) x16 e15 ?_)
        · intro v17 h18 e19
          subst e19
          refine eg_iload (i := 4) 0 dX13_spare_141 rfl ?_
          exact eg_iretE dX13_spare_143 hF
theorem dX13_least_0 : decode cX13_least 0 = .ok (.aload_n 0, 1) := by decide +kernel
theorem dX13_least_1 : decode cX13_least 1 = .ok (.iconst 0, 1) := by decide +kernel
theorem dX13_least_2 : decode cX13_least 2 = .ok (.putfield 148, 3) := by decide +kernel
theorem dX13_least_5 : decode cX13_least 5 = .ok (.aload_n 0, 1) := by decide +kernel
theorem dX13_least_6 : decode cX13_least 6 = .ok (.iload_n 1, 1) := by decide +kernel
theorem dX13_least_7 : decode cX13_least 7 = .ok (.invokevirtual 405, 3) := by decide +kernel
theorem dX13_least_10 : decode cX13_least 10 = .ok (.ifCond .eq 34, 3) := by decide +kernel
theorem dX13_least_13 : decode cX13_least 13 = .ok (.aload_n 0, 1) := by decide +kernel
theorem dX13_least_14 : decode cX13_least 14 = .ok (.iload_n 2, 1) := by decide +kernel
theorem dX13_least_15 : decode cX13_least 15 = .ok (.invokevirtual 408, 3) := by decide +kernel
theorem dX13_least_18 : decode cX13_least 18 = .ok (.ifCond .eq 26, 3) := by decide +kernel
theorem dX13_least_21 : decode cX13_least 21 = .ok (.iload_n 3, 1) := by decide +kernel
theorem dX13_least_22 : decode cX13_least 22 = .ok (.i2l, 1) := by decide +kernel
theorem dX13_least_23 : decode cX13_least 23 = .ok (.lconst 1, 1) := by decide +kernel
theorem dX13_least_24 : decode cX13_least 24 = .ok (.ldc2_w 380, 3) := by decide +kernel
theorem dX13_least_27 : decode cX13_least 27 = .ok (.invokestatic 269, 3) := by decide +kernel
theorem dX13_least_30 : decode cX13_least 30 = .ok (.ifCond .eq 14, 3) := by decide +kernel
theorem dX13_least_33 : decode cX13_least 33 = .ok (.iload 4, 2) := by decide +kernel
theorem dX13_least_35 : decode cX13_least 35 = .ok (.i2l, 1) := by decide +kernel
theorem dX13_least_36 : decode cX13_least 36 = .ok (.lconst 0, 1) := by decide +kernel
theorem dX13_least_37 : decode cX13_least 37 = .ok (.lconst 1, 1) := by decide +kernel
theorem dX13_least_38 : decode cX13_least 38 = .ok (.invokestatic 269, 3) := by decide +kernel
theorem dX13_least_41 : decode cX13_least 41 = .ok (.ifCond .ne 5, 3) := by decide +kernel
theorem dX13_least_44 : decode cX13_least 44 = .ok (.iconst (-1), 1) := by decide +kernel
theorem dX13_least_45 : decode cX13_least 45 = .ok (.ireturn, 1) := by decide +kernel
theorem dX13_least_46 : decode cX13_least 46 = .ok (.iconst 4, 1) := by decide +kernel
theorem dX13_least_47 : decode cX13_least 47 = .ok (.iload_n 1, 1) := by decide +kernel
theorem dX13_least_48 : decode cX13_least 48 = .ok (.bipush 10, 2) := by decide +kernel
theorem dX13_least_50 : decode cX13_least 50 = .ok (.irem, 1) := by decide +kernel
theorem dX13_least_51 : decode cX13_least 51 = .ok (.imul, 1) := by decide +kernel
theorem dX13_least_52 : decode cX13_least 52 = .ok (.iconst 1, 1) := by decide +kernel
theorem dX13_least_53 : decode cX13_least 53 = .ok (.iadd, 1) := by decide +kernel
theorem dX13_least_54 : decode cX13_least 54 = .ok (.iload 4, 2) := by decide +kernel
theorem dX13_least_56 : decode cX13_least 56 = .ok (.iadd, 1) := by decide +kernel
theorem dX13_least_57 : decode cX13_least 57 = .ok (.istore 5, 2) := by decide +kernel
theorem dX13_least_59 : decode cX13_least 59 = .ok (.aload_n 0, 1) := by decide +kernel
theorem dX13_least_60 : decode cX13_least 60 = .ok (.getfield 43, 3) := by decide +kernel
theorem dX13_least_63 : decode cX13_least 63 = .ok (.iload 5, 2) := by decide +kernel
theorem dX13_least_65 : decode cX13_least 65 = .ok (.iaload, 1) := by decide +kernel
theorem dX13_least_66 : decode cX13_least 66 = .ok (.istore 6, 2) := by decide +kernel
theorem dX13_least_68 : decode cX13_least 68 = .ok (.iconst (-1), 1) := by decide +kernel
theorem dX13_least_69 : decode cX13_least 69 = .ok (.istore 7, 2) := by decide +kernel
theorem dX13_least_71 : decode cX13_least 71 = .ok (.iconst 0, 1) := by decide +kernel
theorem dX13_least_72 : decode cX13_least 72 = .ok (.istore 8, 2) := by decide +kernel
theorem dX13_least_74 : decode cX13_least 74 = .ok (.iload 8, 2) := by decide +kernel
theorem dX13_least_76 : decode cX13_least 76 = .ok (.iload 4, 2) := by decide +kernel
theorem dX13_least_78 : decode cX13_least 78 = .ok (.ifCond .ne 8, 3) := by decide +kernel
theorem dX13_least_81 : decode cX13_least 81 = .ok (.bipush 10, 2) := by decide +kernel
theorem dX13_least_83 : decode cX13_least 83 = .ok (.goto 5, 3) := by decide +kernel
theorem dX13_least_86 : decode cX13_least 86 = .ok (.bipush 6, 2) := by decide +kernel
theorem dX13_least_88 : decode cX13_least 88 = .ok (.if_icmp .ge 38, 3) := by decide +kernel
theorem dX13_least_91 : decode cX13_least 91 = .ok (.iload 7, 2) := by decide +kernel
theorem dX13_least_93 : decode cX13_least 93 = .ok (.iconst (-1), 1) := by decide +kernel
theorem dX13_least_94 : decode cX13_least 94 = .ok (.if_icmp .ne 32, 3) := by decide +kernel
theorem dX13_least_97 : decode cX13_least 97 = .ok (.aload_n 0, 1) := by decide +kernel
theorem dX13_least_98 : decode cX13_least 98 = .ok (.getfield 43, 3) := by decide +kernel
theorem dX13_least_101 : decode cX13_least 101 = .ok (.iload 5, 2) := by decide +kernel
theorem dX13_least_103 : decode cX13_least 103 = .ok (.iload 8, 2) := by decide +kernel
theorem dX13_least_105 : decode cX13_least 105 = .ok (.iastore, 1) := by decide +kernel
theorem dX13_least_106 : decode cX13_least 106 = .ok (.aload_n 0, 1) := by decide +kernel
theorem dX13_least_107 : decode cX13_least 107 = .ok (.iload_n 1, 1) := by decide +kernel
theorem dX13_least_108 : decode cX13_least 108 = .ok (.iload_n 2, 1) := by decide +kernel
theorem dX13_least_109 : decode cX13_least 109 = .ok (.iload_n 3, 1) := by decide +kernel
theorem dX13_least_110 : decode cX13_least 110 = .ok (.invokevirtual 517, 3) := by decide +kernel
theorem dX13_least_113 : decode cX13_least 113 = .ok (.ifCond .eq 7, 3) := by decide +kernel
theorem dX13_least_116 : decode cX13_least 116 = .ok (.iload 8, 2) := by decide +kernel
theorem dX13_least_118 : decode cX13_least 118 = .ok (.istore 7, 2) := by decide +kernel
theorem dX13_least_120 : decode cX13_least 120 = .ok (.iinc 8 1, 3) := by decide +kernel
theorem dX13_least_123 : decode cX13_least 123 = .ok (.goto (-49), 3) := by decide +kernel
theorem dX13_least_126 : decode cX13_least 126 = .ok (.aload_n 0, 1) := by decide +kernel
theorem dX13_least_127 : decode cX13_least 127 = .ok (.getfield 43, 3) := by decide +kernel
theorem dX13_least_130 : decode cX13_least 130 = .ok (.iload 5, 2) := by decide +kernel
theorem dX13_least_132 : decode cX13_least 132 = .ok (.iload 6, 2) := by decide +kernel
theorem dX13_least_134 : decode cX13_least 134 = .ok (.iastore, 1) := by decide +kernel
theorem dX13_least_135 : decode cX13_least 135 = .ok (.iload 7, 2) := by decide +kernel
theorem dX13_least_137 : decode cX13_least 137 = .ok (.ireturn, 1) := by decide +kernel
def fX13_least_j88 (rec : eg_H → Nat → Int32 → Int32 → Int32 → Int32 → Int32 → Int32 → Int32 → Int32 → Option (Nat × Int32 × Int32 × Int32 × eg_H)) (h : eg_H) (l0 : Nat) (l1 : Int32) (l2 : Int32) (l3 : Int32) (l4 : Int32) (l5 : Int32) (l6 : Int32) (l7 : Int32) (l8 : Int32) (s0 : Int32) (s1 : Int32) : Option (Nat × Int32 × Int32 × Int32 × eg_H) :=
  if s1 ≤ s0 then
    (some (l0, l5, l6, l7, h))
  else
    if l7 = (-1 : Int32) then
      ((eg_gR h 13 20 l0).bind fun p3 =>
      (eg_wI h 100 p3 l5 l8).bind fun h5 =>
      (fX13_isAllGood h5 l0 l1 l2 l3).bind fun ⟨v8, h7⟩ =>
      if v8 = 0 then
        (rec h7 l0 l1 l2 l3 l4 l5 l6 l7 (l8 + (1 : Int32)))
      else
        rec h7 l0 l1 l2 l3 l4 l5 l6 l8 (l8 + (1 : Int32)))
    else
      some (l0, l5, l6, l7, h)
set_option maxRecDepth 20000 in
theorem fX13_least_j88_ok {rec : eg_H → Nat → Int32 → Int32 → Int32 → Int32 → Int32 → Int32 → Int32 → Int32 → Option (Nat × Int32 × Int32 × Int32 × eg_H)} {h0 : eg_H} {Z : eg_C → State → Prop} {N S : Nat} (h : eg_H) (l0 : Nat) (l1 : Int32) (l2 : Int32) (l3 : Int32) (l4 : Int32) (l5 : Int32) (l6 : Int32) (l7 : Int32) (l8 : Int32) (s0 : Int32) (s1 : Int32) (eE : Nat × Int32 × Int32 × Int32 × eg_H) (hF : fX13_least_j88 rec h l0 l1 l2 l3 l4 l5 l6 l7 l8 s0 s1 = some eE) (hrec : ∀ (h : eg_H) (l0 : Nat) (l1 : Int32) (l2 : Int32) (l3 : Int32) (l4 : Int32) (l5 : Int32) (l6 : Int32) (l7 : Int32) (l8 : Int32), rec h l0 l1 l2 l3 l4 l5 l6 l7 l8 = some eE → eg_AW (RX13, cX13_least, 9, 399, none, "least", (some .int)) Z N S h0 74 [(0, .ref l0), (1, .int l1), (2, .int l2), (3, .int l3), (4, .int l4), (5, .int l5), (6, .int l6), (7, .int l7), (8, .int l8)] [] h) (hk0 : ∀ (l0 : Nat) (l5 : Int32) (l6 : Int32) (l7 : Int32) (h : eg_H), eE = (l0, l5, l6, l7, h) → eg_AW (RX13, cX13_least, 9, 399, none, "least", (some .int)) Z N S h0 126 [(0, .ref l0), (5, .int l5), (6, .int l6), (7, .int l7)] [] h) : eg_AW (RX13, cX13_least, 9, 399, none, "least", (some .int)) Z N S h0 88 [(0, .ref l0), (1, .int l1), (2, .int l2), (3, .int l3), (4, .int l4), (5, .int l5), (6, .int l6), (7, .int l7), (8, .int l8)] [.int s1, .int s0] h := by
  refine eg_ic_ge 126 dX13_least_88 rfl (fun c1 => ?_) (fun c1 => ?_)
  · replace hF := eg_it c1 hF
    exact eg_sub [0, 5, 6, 7] [(0, .ref l0), (5, .int l5), (6, .int l6), (7, .int l7)] rfl (hk0 l0 l5 l6 l7 h (Option.some.inj hF).symm)
  · replace hF := eg_if c1 hF
    refine eg_iload (i := 7) 7 dX13_least_91 rfl ?_
    refine eg_iconst (v := (-1 : Int32)) dX13_least_93 (by decide) ?_
    refine eg_ic_ne 126 dX13_least_94 rfl (fun c2 => ?_) (fun c2 => ?_)
    · replace hF := eg_it c2 hF
      refine eg_aload_n (i := 0) 0 dX13_least_97 rfl rfl ?_
      replace hF := eg_bind hF; obtain ⟨p3, e4, hF⟩ := hF
      refine eg_getR dX13_least_98 e4 (Nat.le_of_ble_eq_true rfl) (Nat.le_of_ble_eq_true rfl) rfl ew_1454 ?_
      refine eg_iload (i := 5) 5 dX13_least_101 rfl ?_
      refine eg_iload (i := 8) 8 dX13_least_103 rfl ?_
      replace hF := eg_bind hF; obtain ⟨h5, e6, hF⟩ := hF
      refine eg_iast dX13_least_105 e6 ?_
      refine eg_aload_n (i := 0) 0 dX13_least_106 rfl rfl ?_
      refine eg_iload_n (i := 1) 1 dX13_least_107 rfl rfl ?_
      refine eg_iload_n (i := 2) 2 dX13_least_108 rfl rfl ?_
      refine eg_iload_n (i := 3) 3 dX13_least_109 rfl rfl ?_
      replace hF := eg_bind hF; obtain ⟨⟨v8, h7⟩, e9, hF⟩ := hF
      refine eg_callV (c := 13) (n := 3) [.int l1, .int l2, .int l3] dX13_least_110 (mX13_isAllGood e9) rfl (fX13_isAllGood_O e9) (Nat.le_of_ble_eq_true rfl) rfl ew_2129 ew_2131 ew_95 ew_110 ew_2132 hy_X13_isAllGood rfl (Nat.le_of_ble_eq_true rfl) (Nat.le_of_ble_eq_true rfl) (Nat.le_of_ble_eq_true rfl) ?_
      refine eg_if_eq 120 dX13_least_113 rfl (fun c10 => ?_) (fun c10 => ?_)
      · replace hF := eg_it c10 hF
        refine eg_iinc (i := 8) (v := (l8 + (1 : Int32))) 8 [(8, .int (l8 + (1 : Int32))), (0, .ref l0), (1, .int l1), (2, .int l2), (3, .int l3), (4, .int l4), (5, .int l5), (6, .int l6), (7, .int l7)] dX13_least_120 rfl rfl (Nat.le_of_ble_eq_true rfl) rfl ?_
        refine eg_goto 74 dX13_least_123 rfl ?_
        exact eg_sub [1, 2, 3, 4, 5, 6, 7, 8, 0] [(0, .ref l0), (1, .int l1), (2, .int l2), (3, .int l3), (4, .int l4), (5, .int l5), (6, .int l6), (7, .int l7), (8, .int (l8 + (1 : Int32)))] rfl (hrec h7 l0 l1 l2 l3 l4 l5 l6 l7 (l8 + (1 : Int32)) hF)
      · replace hF := eg_if c10 hF
        refine eg_iload (i := 8) 8 dX13_least_116 rfl ?_
        refine eg_istore (i := 7) [(7, .int l8), (0, .ref l0), (1, .int l1), (2, .int l2), (3, .int l3), (4, .int l4), (5, .int l5), (6, .int l6), (8, .int l8)] dX13_least_118 (Nat.le_of_ble_eq_true rfl) rfl ?_
        refine eg_iinc (i := 8) (v := (l8 + (1 : Int32))) 8 [(8, .int (l8 + (1 : Int32))), (7, .int l8), (0, .ref l0), (1, .int l1), (2, .int l2), (3, .int l3), (4, .int l4), (5, .int l5), (6, .int l6)] dX13_least_120 rfl rfl (Nat.le_of_ble_eq_true rfl) rfl ?_
        refine eg_goto 74 dX13_least_123 rfl ?_
        exact eg_sub [2, 3, 4, 5, 6, 7, 8, 1, 0] [(0, .ref l0), (1, .int l1), (2, .int l2), (3, .int l3), (4, .int l4), (5, .int l5), (6, .int l6), (7, .int l8), (8, .int (l8 + (1 : Int32)))] rfl (hrec h7 l0 l1 l2 l3 l4 l5 l6 l8 (l8 + (1 : Int32)) hF)
    · replace hF := eg_if c2 hF
      exact eg_sub [0, 5, 6, 7] [(0, .ref l0), (5, .int l5), (6, .int l6), (7, .int l7)] rfl (hk0 l0 l5 l6 l7 h (Option.some.inj hF).symm)
def fX13_least_L74 : Nat → eg_H → Nat → Int32 → Int32 → Int32 → Int32 → Int32 → Int32 → Int32 → Int32 → Option (Nat × Int32 × Int32 × Int32 × eg_H)
  | 0, _, _, _, _, _, _, _, _, _, _ => none
  | n + 1, h, l0, l1, l2, l3, l4, l5, l6, l7, l8 =>
    if l4 = 0 then
      (fX13_least_j88 (fX13_least_L74 n) h l0 l1 l2 l3 l4 l5 l6 l7 l8 l8 (10 : Int32))
    else
      fX13_least_j88 (fX13_least_L74 n) h l0 l1 l2 l3 l4 l5 l6 l7 l8 l8 (6 : Int32)
set_option maxRecDepth 20000 in
theorem fX13_least_L74_ok {h0 : eg_H} {Z : eg_C → State → Prop} {N S : Nat} : ∀ (n : Nat) (h : eg_H) (l0 : Nat) (l1 : Int32) (l2 : Int32) (l3 : Int32) (l4 : Int32) (l5 : Int32) (l6 : Int32) (l7 : Int32) (l8 : Int32) (eE : Nat × Int32 × Int32 × Int32 × eg_H), fX13_least_L74 n h l0 l1 l2 l3 l4 l5 l6 l7 l8 = some eE → (hk0 : ∀ (l0 : Nat) (l5 : Int32) (l6 : Int32) (l7 : Int32) (h : eg_H), eE = (l0, l5, l6, l7, h) → eg_AW (RX13, cX13_least, 9, 399, none, "least", (some .int)) Z N S h0 126 [(0, .ref l0), (5, .int l5), (6, .int l6), (7, .int l7)] [] h) → eg_AW (RX13, cX13_least, 9, 399, none, "least", (some .int)) Z N S h0 74 [(0, .ref l0), (1, .int l1), (2, .int l2), (3, .int l3), (4, .int l4), (5, .int l5), (6, .int l6), (7, .int l7), (8, .int l8)] [] h := by
  intro n
  induction n with
  | zero => intro h l0 l1 l2 l3 l4 l5 l6 l7 l8 eE hF; exact absurd hF (by intro q; cases q)
  | succ n ih =>
    intro h l0 l1 l2 l3 l4 l5 l6 l7 l8 eE hF hk0
    have hrec := fun (h' : eg_H) (l0 : Nat) (l1 : Int32) (l2 : Int32) (l3 : Int32) (l4 : Int32) (l5 : Int32) (l6 : Int32) (l7 : Int32) (l8 : Int32) hq => ih h' l0 l1 l2 l3 l4 l5 l6 l7 l8 eE hq hk0
    refine eg_iload (i := 8) 8 dX13_least_74 rfl ?_
    refine eg_iload (i := 4) 4 dX13_least_76 rfl ?_
    refine eg_if_ne 86 dX13_least_78 rfl (fun c1 => ?_) (fun c1 => ?_)
    · replace hF := eg_it c1 hF
      refine eg_bipush (v := (10 : Int32)) dX13_least_81 (by decide) ?_
      refine eg_goto 88 dX13_least_83 rfl ?_
      exact (fX13_least_j88_ok h l0 l1 l2 l3 l4 l5 l6 l7 l8 l8 (10 : Int32) eE hF hrec hk0)
    · replace hF := eg_if c1 hF
      refine eg_bipush (v := (6 : Int32)) dX13_least_86 (by decide) ?_
      exact (fX13_least_j88_ok h l0 l1 l2 l3 l4 l5 l6 l7 l8 l8 (6 : Int32) eE hF hrec hk0)
def fX13_least (h : eg_H) (l0 : Nat) (l1 : Int32) (l2 : Int32) (l3 : Int32) (l4 : Int32) : Option (Int32 × eg_H) :=
  if eg_isO h 13 l0 then (
    (eg_pI h 13 0 l0 (0 : Int32)).bind fun h1 =>
    (fX13_isTwo h1 l0 l1).bind fun ⟨v4, h3⟩ =>
    if v4 = 0 then
      (some ((-1 : Int32), h3))
    else
      (fX13_isFrom h3 l0 l2).bind fun ⟨v8, h7⟩ =>
      if v8 = 0 then
        (some ((-1 : Int32), h7))
      else
        (fX13_isIn h7 l3.toInt64 (1 : Int64) (60 : Int64)).bind fun ⟨v12, h11⟩ =>
        if v12 = 0 then
          (some ((-1 : Int32), h11))
        else
          (fX13_isIn h11 l4.toInt64 (0 : Int64) (1 : Int64)).bind fun ⟨v16, h15⟩ =>
          if v16 = 0 then
            (some ((-1 : Int32), h15))
          else
            (some (((((4 : Int32) * (l1 % (10 : Int32))) + (1 : Int32)) + l4))).bind fun v19 =>
            (eg_gR h15 13 20 l0).bind fun p21 =>
            (eg_aI h15 100 p21 v19).bind fun v23 =>
            (fX13_least_L74 eg_F h15 l0 l1 l2 l3 l4 v19 v23 (-1 : Int32) (0 : Int32)).bind fun e =>
            match e with
            | (p27, v28, v29, v30, h31) =>
              (eg_gR h31 13 20 p27).bind fun p32 =>
              (eg_wI h31 100 p32 v28 v29).bind fun h34 =>
              some (v30, h34)) else none
theorem fX13_least_O {h : eg_H} {l0 : Nat} {l1 : Int32} {l2 : Int32} {l3 : Int32} {l4 : Int32} {rE : Int32} {hE : eg_H} (hF : fX13_least h l0 l1 l2 l3 l4 = some (rE, hE)) : eg_isO h 13 l0 := (eg_ifn hF).1
set_option maxRecDepth 20000 in
theorem mX13_least {h : eg_H} {l0 : Nat} {l1 : Int32} {l2 : Int32} {l3 : Int32} {l4 : Int32} {rE : Int32} {hE : eg_H} (hF : fX13_least h l0 l1 l2 l3 l4 = some (rE, hE)) : eg_Met yX13_least cX13_least 9 (some .int) 399 [.ref l0, .int l1, .int l2, .int l3, .int l4] h (some (.int rE)) hE := by
  refine eg_enter rfl (Nat.le_of_ble_eq_true rfl) ?_
  show eg_AW (RX13, cX13_least, 9, 399, none, "least", (some .int)) (eg_Zm (some (.int rE)) hE h) (eg_nc hE) (eg_ns hE) h 0 [(0, .ref l0), (1, .int l1), (2, .int l2), (3, .int l3), (4, .int l4)] [] h
  replace hF := (eg_ifn hF).2
  refine eg_aload_n (i := 0) 0 dX13_least_0 rfl rfl ?_
  refine eg_iconst (v := (0 : Int32)) dX13_least_1 (by decide) ?_
  replace hF := eg_bind hF; obtain ⟨h1, e2, hF⟩ := hF
  refine eg_putI dX13_least_2 e2 (Nat.le_of_ble_eq_true rfl) (Nat.le_of_ble_eq_true rfl) rfl ew_1434 (Or.inl rfl) ?_
  refine eg_aload_n (i := 0) 0 dX13_least_5 rfl rfl ?_
  refine eg_iload_n (i := 1) 1 dX13_least_6 rfl rfl ?_
  replace hF := eg_bind hF; obtain ⟨⟨v4, h3⟩, e5, hF⟩ := hF
  refine eg_callV (c := 13) (n := 1) [.int l1] dX13_least_7 (mX13_isTwo e5) rfl (fX13_isTwo_O e5) (Nat.le_of_ble_eq_true rfl) rfl ew_1929 ew_1931 ew_76 ew_110 ew_1932 hy_X13_isTwo rfl (Nat.le_of_ble_eq_true rfl) (Nat.le_of_ble_eq_true rfl) (Nat.le_of_ble_eq_true rfl) ?_
  refine eg_if_eq 44 dX13_least_10 rfl (fun c6 => ?_) (fun c6 => ?_)
  · replace hF := eg_it c6 hF
    refine eg_iconst (v := (-1 : Int32)) dX13_least_44 (by decide) ?_
    exact eg_iretE dX13_least_45 hF
  · replace hF := eg_if c6 hF
    refine eg_aload_n (i := 0) 0 dX13_least_13 rfl rfl ?_
    refine eg_iload_n (i := 2) 2 dX13_least_14 rfl rfl ?_
    replace hF := eg_bind hF; obtain ⟨⟨v8, h7⟩, e9, hF⟩ := hF
    refine eg_callV (c := 13) (n := 1) [.int l2] dX13_least_15 (mX13_isFrom e9) rfl (fX13_isFrom_O e9) (Nat.le_of_ble_eq_true rfl) rfl ew_1933 ew_1935 ew_77 ew_110 ew_1936 hy_X13_isFrom rfl (Nat.le_of_ble_eq_true rfl) (Nat.le_of_ble_eq_true rfl) (Nat.le_of_ble_eq_true rfl) ?_
    refine eg_if_eq 44 dX13_least_18 rfl (fun c10 => ?_) (fun c10 => ?_)
    · replace hF := eg_it c10 hF
      refine eg_iconst (v := (-1 : Int32)) dX13_least_44 (by decide) ?_
      exact eg_iretE dX13_least_45 hF
    · replace hF := eg_if c10 hF
      refine eg_iload_n (i := 3) 3 dX13_least_21 rfl rfl ?_
      refine eg_i2l dX13_least_22 ?_
      refine eg_lconst (v := (1 : Int64)) dX13_least_23 (by decide) ?_
      refine eg_ldc2 (v := (60 : Int64)) dX13_least_24 ew_1912 ?_
      replace hF := eg_bind hF; obtain ⟨⟨v12, h11⟩, e13, hF⟩ := hF
      refine eg_callS (n := 3) [.long l3.toInt64, .long (1 : Int64), .long (60 : Int64)] dX13_least_27 (mX13_isIn e13) rfl ew_1697 ew_1698 ew_110 ew_1699 hy_X13_isIn.2 rfl (Nat.le_of_ble_eq_true rfl) (Nat.le_of_ble_eq_true rfl) (Nat.le_of_ble_eq_true rfl) ?_
      refine eg_if_eq 44 dX13_least_30 rfl (fun c14 => ?_) (fun c14 => ?_)
      · replace hF := eg_it c14 hF
        refine eg_iconst (v := (-1 : Int32)) dX13_least_44 (by decide) ?_
        exact eg_iretE dX13_least_45 hF
      · replace hF := eg_if c14 hF
        refine eg_iload (i := 4) 4 dX13_least_33 rfl ?_
        refine eg_i2l dX13_least_35 ?_
        refine eg_lconst (v := (0 : Int64)) dX13_least_36 (by decide) ?_
        refine eg_lconst (v := (1 : Int64)) dX13_least_37 (by decide) ?_
        replace hF := eg_bind hF; obtain ⟨⟨v16, h15⟩, e17, hF⟩ := hF
        refine eg_callS (n := 3) [.long l4.toInt64, .long (0 : Int64), .long (1 : Int64)] dX13_least_38 (mX13_isIn e17) rfl ew_1697 ew_1698 ew_110 ew_1699 hy_X13_isIn.2 rfl (Nat.le_of_ble_eq_true rfl) (Nat.le_of_ble_eq_true rfl) (Nat.le_of_ble_eq_true rfl) ?_
        refine eg_if_ne 46 dX13_least_41 rfl (fun c18 => ?_) (fun c18 => ?_)
        · replace hF := eg_it c18 hF
          refine eg_iconst (v := (-1 : Int32)) dX13_least_44 (by decide) ?_
          exact eg_iretE dX13_least_45 hF
        · replace hF := eg_if c18 hF
          refine eg_iconst (v := (4 : Int32)) dX13_least_46 (by decide) ?_
          refine eg_iload_n (i := 1) 1 dX13_least_47 rfl rfl ?_
          refine eg_bipush (v := (10 : Int32)) dX13_least_48 (by decide) ?_
          refine eg_irem dX13_least_50 (by decide) ?_
          refine eg_imul dX13_least_51 ?_
          refine eg_iconst (v := (1 : Int32)) dX13_least_52 (by decide) ?_
          refine eg_iadd dX13_least_53 ?_
          refine eg_iload (i := 4) 4 dX13_least_54 rfl ?_
          refine eg_iadd dX13_least_56 ?_
          replace hF := eg_bind hF; obtain ⟨v19, e20, hF⟩ := hF
          replace e20 := Option.some.inj e20
          rw [e20]
          refine eg_istore (i := 5) [(5, .int v19), (0, .ref l0), (1, .int l1), (2, .int l2), (3, .int l3), (4, .int l4)] dX13_least_57 (Nat.le_of_ble_eq_true rfl) rfl ?_
          refine eg_aload_n (i := 0) 1 dX13_least_59 rfl rfl ?_
          replace hF := eg_bind hF; obtain ⟨p21, e22, hF⟩ := hF
          refine eg_getR dX13_least_60 e22 (Nat.le_of_ble_eq_true rfl) (Nat.le_of_ble_eq_true rfl) rfl ew_1454 ?_
          refine eg_iload (i := 5) 0 dX13_least_63 rfl ?_
          replace hF := eg_bind hF; obtain ⟨v23, e24, hF⟩ := hF
          refine eg_iald dX13_least_65 e24 ?_
          refine eg_istore (i := 6) [(6, .int v23), (5, .int v19), (0, .ref l0), (1, .int l1), (2, .int l2), (3, .int l3), (4, .int l4)] dX13_least_66 (Nat.le_of_ble_eq_true rfl) rfl ?_
          refine eg_iconst (v := (-1 : Int32)) dX13_least_68 (by decide) ?_
          refine eg_istore (i := 7) [(7, .int (-1 : Int32)), (6, .int v23), (5, .int v19), (0, .ref l0), (1, .int l1), (2, .int l2), (3, .int l3), (4, .int l4)] dX13_least_69 (Nat.le_of_ble_eq_true rfl) rfl ?_
          refine eg_iconst (v := (0 : Int32)) dX13_least_71 (by decide) ?_
          refine eg_istore (i := 8) [(8, .int (0 : Int32)), (7, .int (-1 : Int32)), (6, .int v23), (5, .int v19), (0, .ref l0), (1, .int l1), (2, .int l2), (3, .int l3), (4, .int l4)] dX13_least_72 (Nat.le_of_ble_eq_true rfl) rfl ?_
          replace hF := eg_bind hF; obtain ⟨x26, e25, hF⟩ := hF
          refine eg_sub [4, 5, 6, 7, 8, 3, 2, 1, 0] [(0, .ref l0), (1, .int l1), (2, .int l2), (3, .int l3), (4, .int l4), (5, .int v19), (6, .int v23), (7, .int (-1 : Int32)), (8, .int (0 : Int32))] rfl (fX13_least_L74_ok eg_F h15 l0 l1 l2 l3 l4 v19 v23 (-1 : Int32) (0 : Int32) x26 e25 ?_)
          · intro p27 v28 v29 v30 h31 e36
            subst e36
            refine eg_aload_n (i := 0) 0 dX13_least_126 rfl rfl ?_
            replace hF := eg_bind hF; obtain ⟨p32, e33, hF⟩ := hF
            refine eg_getR dX13_least_127 e33 (Nat.le_of_ble_eq_true rfl) (Nat.le_of_ble_eq_true rfl) rfl ew_1454 ?_
            refine eg_iload (i := 5) 1 dX13_least_130 rfl ?_
            refine eg_iload (i := 6) 2 dX13_least_132 rfl ?_
            replace hF := eg_bind hF; obtain ⟨h34, e35, hF⟩ := hF
            refine eg_iast dX13_least_134 e35 ?_
            refine eg_iload (i := 7) 3 dX13_least_135 rfl ?_
            exact eg_iretE dX13_least_137 hF
theorem dX13_loft_0 : decode cX13_loft 0 = .ok (.aload_n 0, 1) := by decide +kernel
theorem dX13_loft_1 : decode cX13_loft 1 = .ok (.iconst 0, 1) := by decide +kernel
theorem dX13_loft_2 : decode cX13_loft 2 = .ok (.putfield 148, 3) := by decide +kernel
theorem dX13_loft_5 : decode cX13_loft 5 = .ok (.aload_n 0, 1) := by decide +kernel
theorem dX13_loft_6 : decode cX13_loft 6 = .ok (.iload_n 1, 1) := by decide +kernel
theorem dX13_loft_7 : decode cX13_loft 7 = .ok (.invokevirtual 405, 3) := by decide +kernel
theorem dX13_loft_10 : decode cX13_loft 10 = .ok (.ifCond .eq 58, 3) := by decide +kernel
theorem dX13_loft_13 : decode cX13_loft 13 = .ok (.aload_n 0, 1) := by decide +kernel
theorem dX13_loft_14 : decode cX13_loft 14 = .ok (.iload_n 2, 1) := by decide +kernel
theorem dX13_loft_15 : decode cX13_loft 15 = .ok (.invokevirtual 408, 3) := by decide +kernel
theorem dX13_loft_18 : decode cX13_loft 18 = .ok (.ifCond .eq 50, 3) := by decide +kernel
theorem dX13_loft_21 : decode cX13_loft 21 = .ok (.iload_n 3, 1) := by decide +kernel
theorem dX13_loft_22 : decode cX13_loft 22 = .ok (.i2l, 1) := by decide +kernel
theorem dX13_loft_23 : decode cX13_loft 23 = .ok (.lconst 1, 1) := by decide +kernel
theorem dX13_loft_24 : decode cX13_loft 24 = .ok (.ldc2_w 380, 3) := by decide +kernel
theorem dX13_loft_27 : decode cX13_loft 27 = .ok (.invokestatic 269, 3) := by decide +kernel
theorem dX13_loft_30 : decode cX13_loft 30 = .ok (.ifCond .eq 38, 3) := by decide +kernel
theorem dX13_loft_33 : decode cX13_loft 33 = .ok (.iload 4, 2) := by decide +kernel
theorem dX13_loft_35 : decode cX13_loft 35 = .ok (.i2l, 1) := by decide +kernel
theorem dX13_loft_36 : decode cX13_loft 36 = .ok (.lconst 0, 1) := by decide +kernel
theorem dX13_loft_37 : decode cX13_loft 37 = .ok (.aload_n 0, 1) := by decide +kernel
theorem dX13_loft_38 : decode cX13_loft 38 = .ok (.getfield 43, 3) := by decide +kernel
theorem dX13_loft_41 : decode cX13_loft 41 = .ok (.iconst 4, 1) := by decide +kernel
theorem dX13_loft_42 : decode cX13_loft 42 = .ok (.iload_n 1, 1) := by decide +kernel
theorem dX13_loft_43 : decode cX13_loft 43 = .ok (.bipush 10, 2) := by decide +kernel
theorem dX13_loft_45 : decode cX13_loft 45 = .ok (.idiv, 1) := by decide +kernel
theorem dX13_loft_46 : decode cX13_loft 46 = .ok (.imul, 1) := by decide +kernel
theorem dX13_loft_47 : decode cX13_loft 47 = .ok (.iconst 3, 1) := by decide +kernel
theorem dX13_loft_48 : decode cX13_loft 48 = .ok (.iadd, 1) := by decide +kernel
theorem dX13_loft_49 : decode cX13_loft 49 = .ok (.iaload, 1) := by decide +kernel
theorem dX13_loft_50 : decode cX13_loft 50 = .ok (.i2l, 1) := by decide +kernel
theorem dX13_loft_51 : decode cX13_loft 51 = .ok (.invokestatic 269, 3) := by decide +kernel
theorem dX13_loft_54 : decode cX13_loft 54 = .ok (.ifCond .eq 14, 3) := by decide +kernel
theorem dX13_loft_57 : decode cX13_loft 57 = .ok (.iload 5, 2) := by decide +kernel
theorem dX13_loft_59 : decode cX13_loft 59 = .ok (.i2l, 1) := by decide +kernel
theorem dX13_loft_60 : decode cX13_loft 60 = .ok (.lconst 0, 1) := by decide +kernel
theorem dX13_loft_61 : decode cX13_loft 61 = .ok (.lconst 1, 1) := by decide +kernel
theorem dX13_loft_62 : decode cX13_loft 62 = .ok (.invokestatic 269, 3) := by decide +kernel
theorem dX13_loft_65 : decode cX13_loft 65 = .ok (.ifCond .ne 7, 3) := by decide +kernel
theorem dX13_loft_68 : decode cX13_loft 68 = .ok (.ldc_w 368, 3) := by decide +kernel
theorem dX13_loft_71 : decode cX13_loft 71 = .ok (.ireturn, 1) := by decide +kernel
theorem dX13_loft_72 : decode cX13_loft 72 = .ok (.aload_n 0, 1) := by decide +kernel
theorem dX13_loft_73 : decode cX13_loft 73 = .ok (.iload_n 1, 1) := by decide +kernel
theorem dX13_loft_74 : decode cX13_loft 74 = .ok (.bipush 10, 2) := by decide +kernel
theorem dX13_loft_76 : decode cX13_loft 76 = .ok (.irem, 1) := by decide +kernel
theorem dX13_loft_77 : decode cX13_loft 77 = .ok (.iload_n 2, 1) := by decide +kernel
theorem dX13_loft_78 : decode cX13_loft 78 = .ok (.iload_n 3, 1) := by decide +kernel
theorem dX13_loft_79 : decode cX13_loft 79 = .ok (.iload 4, 2) := by decide +kernel
theorem dX13_loft_81 : decode cX13_loft 81 = .ok (.invokevirtual 398, 3) := by decide +kernel
theorem dX13_loft_84 : decode cX13_loft 84 = .ok (.iconst 0, 1) := by decide +kernel
theorem dX13_loft_85 : decode cX13_loft 85 = .ok (.istore 6, 2) := by decide +kernel
theorem dX13_loft_87 : decode cX13_loft 87 = .ok (.iconst (-1), 1) := by decide +kernel
theorem dX13_loft_88 : decode cX13_loft 88 = .ok (.istore 7, 2) := by decide +kernel
theorem dX13_loft_90 : decode cX13_loft 90 = .ok (.iconst 0, 1) := by decide +kernel
theorem dX13_loft_91 : decode cX13_loft 91 = .ok (.istore 8, 2) := by decide +kernel
theorem dX13_loft_93 : decode cX13_loft 93 = .ok (.iload 8, 2) := by decide +kernel
theorem dX13_loft_95 : decode cX13_loft 95 = .ok (.bipush 10, 2) := by decide +kernel
theorem dX13_loft_97 : decode cX13_loft 97 = .ok (.if_icmp .gt 69, 3) := by decide +kernel
theorem dX13_loft_100 : decode cX13_loft 100 = .ok (.iload 8, 2) := by decide +kernel
theorem dX13_loft_102 : decode cX13_loft 102 = .ok (.iconst 2, 1) := by decide +kernel
theorem dX13_loft_103 : decode cX13_loft 103 = .ok (.irem, 1) := by decide +kernel
theorem dX13_loft_104 : decode cX13_loft 104 = .ok (.iconst 1, 1) := by decide +kernel
theorem dX13_loft_105 : decode cX13_loft 105 = .ok (.if_icmp .ne 13, 3) := by decide +kernel
theorem dX13_loft_108 : decode cX13_loft 108 = .ok (.iload 8, 2) := by decide +kernel
theorem dX13_loft_110 : decode cX13_loft 110 = .ok (.iconst 1, 1) := by decide +kernel
theorem dX13_loft_111 : decode cX13_loft 111 = .ok (.iadd, 1) := by decide +kernel
theorem dX13_loft_112 : decode cX13_loft 112 = .ok (.ineg, 1) := by decide +kernel
theorem dX13_loft_113 : decode cX13_loft 113 = .ok (.iconst 2, 1) := by decide +kernel
theorem dX13_loft_114 : decode cX13_loft 114 = .ok (.idiv, 1) := by decide +kernel
theorem dX13_loft_115 : decode cX13_loft 115 = .ok (.goto 7, 3) := by decide +kernel
theorem dX13_loft_118 : decode cX13_loft 118 = .ok (.iload 8, 2) := by decide +kernel
theorem dX13_loft_120 : decode cX13_loft 120 = .ok (.iconst 2, 1) := by decide +kernel
theorem dX13_loft_121 : decode cX13_loft 121 = .ok (.idiv, 1) := by decide +kernel
theorem dX13_loft_122 : decode cX13_loft 122 = .ok (.istore 9, 2) := by decide +kernel
theorem dX13_loft_124 : decode cX13_loft 124 = .ok (.aload_n 0, 1) := by decide +kernel
theorem dX13_loft_125 : decode cX13_loft 125 = .ok (.iload_n 1, 1) := by decide +kernel
theorem dX13_loft_126 : decode cX13_loft 126 = .ok (.bipush 10, 2) := by decide +kernel
theorem dX13_loft_128 : decode cX13_loft 128 = .ok (.idiv, 1) := by decide +kernel
theorem dX13_loft_129 : decode cX13_loft 129 = .ok (.iload_n 2, 1) := by decide +kernel
theorem dX13_loft_130 : decode cX13_loft 130 = .ok (.bipush 10, 2) := by decide +kernel
theorem dX13_loft_132 : decode cX13_loft 132 = .ok (.irem, 1) := by decide +kernel
theorem dX13_loft_133 : decode cX13_loft 133 = .ok (.iload 4, 2) := by decide +kernel
theorem dX13_loft_135 : decode cX13_loft 135 = .ok (.iload 9, 2) := by decide +kernel
theorem dX13_loft_137 : decode cX13_loft 137 = .ok (.invokevirtual 402, 3) := by decide +kernel
theorem dX13_loft_140 : decode cX13_loft 140 = .ok (.istore 10, 2) := by decide +kernel
theorem dX13_loft_142 : decode cX13_loft 142 = .ok (.iload 10, 2) := by decide +kernel
theorem dX13_loft_144 : decode cX13_loft 144 = .ok (.iload 7, 2) := by decide +kernel
theorem dX13_loft_146 : decode cX13_loft 146 = .ok (.if_icmp .gt 6, 3) := by decide +kernel
theorem dX13_loft_149 : decode cX13_loft 149 = .ok (.goto 11, 3) := by decide +kernel
theorem dX13_loft_152 : decode cX13_loft 152 = .ok (.iload 9, 2) := by decide +kernel
theorem dX13_loft_154 : decode cX13_loft 154 = .ok (.istore 6, 2) := by decide +kernel
theorem dX13_loft_156 : decode cX13_loft 156 = .ok (.iload 10, 2) := by decide +kernel
theorem dX13_loft_158 : decode cX13_loft 158 = .ok (.istore 7, 2) := by decide +kernel
theorem dX13_loft_160 : decode cX13_loft 160 = .ok (.iinc 8 1, 3) := by decide +kernel
theorem dX13_loft_163 : decode cX13_loft 163 = .ok (.goto (-70), 3) := by decide +kernel
theorem dX13_loft_166 : decode cX13_loft 166 = .ok (.iload 5, 2) := by decide +kernel
theorem dX13_loft_168 : decode cX13_loft 168 = .ok (.ifCond .ne 8, 3) := by decide +kernel
theorem dX13_loft_171 : decode cX13_loft 171 = .ok (.iload 6, 2) := by decide +kernel
theorem dX13_loft_173 : decode cX13_loft 173 = .ok (.goto 5, 3) := by decide +kernel
theorem dX13_loft_176 : decode cX13_loft 176 = .ok (.iload 7, 2) := by decide +kernel
theorem dX13_loft_178 : decode cX13_loft 178 = .ok (.ireturn, 1) := by decide +kernel
def fX13_loft_j122 (rec : eg_H → Nat → Int32 → Int32 → Int32 → Int32 → Int32 → Int32 → Int32 → Option (Int32 × Int32 × Int32 × eg_H)) (h : eg_H) (l0 : Nat) (l1 : Int32) (l2 : Int32) (l4 : Int32) (l5 : Int32) (l6 : Int32) (l7 : Int32) (l8 : Int32) (s0 : Int32) : Option (Int32 × Int32 × Int32 × eg_H) :=
  (fX13_goodBy h l0 (l1 / (10 : Int32)) (l2 % (10 : Int32)) l4 s0).bind fun ⟨v2, h1⟩ =>
  if l7 < v2 then
    (rec h1 l0 l1 l2 l4 l5 s0 v2 (l8 + (1 : Int32)))
  else
    rec h1 l0 l1 l2 l4 l5 l6 l7 (l8 + (1 : Int32))
set_option maxRecDepth 20000 in
theorem fX13_loft_j122_ok {rec : eg_H → Nat → Int32 → Int32 → Int32 → Int32 → Int32 → Int32 → Int32 → Option (Int32 × Int32 × Int32 × eg_H)} {h0 : eg_H} {Z : eg_C → State → Prop} {N S : Nat} (h : eg_H) (l0 : Nat) (l1 : Int32) (l2 : Int32) (l4 : Int32) (l5 : Int32) (l6 : Int32) (l7 : Int32) (l8 : Int32) (s0 : Int32) (eE : Int32 × Int32 × Int32 × eg_H) (hF : fX13_loft_j122 rec h l0 l1 l2 l4 l5 l6 l7 l8 s0 = some eE) (hrec : ∀ (h : eg_H) (l0 : Nat) (l1 : Int32) (l2 : Int32) (l4 : Int32) (l5 : Int32) (l6 : Int32) (l7 : Int32) (l8 : Int32), rec h l0 l1 l2 l4 l5 l6 l7 l8 = some eE → eg_AW (RX13, cX13_loft, 11, 397, none, "loft", (some .int)) Z N S h0 93 [(0, .ref l0), (1, .int l1), (2, .int l2), (4, .int l4), (5, .int l5), (6, .int l6), (7, .int l7), (8, .int l8)] [] h) (hk0 : ∀ (l5 : Int32) (l6 : Int32) (l7 : Int32) (h : eg_H), eE = (l5, l6, l7, h) → eg_AW (RX13, cX13_loft, 11, 397, none, "loft", (some .int)) Z N S h0 166 [(5, .int l5), (6, .int l6), (7, .int l7)] [] h) : eg_AW (RX13, cX13_loft, 11, 397, none, "loft", (some .int)) Z N S h0 122 [(0, .ref l0), (1, .int l1), (2, .int l2), (4, .int l4), (5, .int l5), (6, .int l6), (7, .int l7), (8, .int l8)] [.int s0] h := by
  refine eg_istore (i := 9) [(9, .int s0), (0, .ref l0), (1, .int l1), (2, .int l2), (4, .int l4), (5, .int l5), (6, .int l6), (7, .int l7), (8, .int l8)] dX13_loft_122 (Nat.le_of_ble_eq_true rfl) rfl ?_
  refine eg_aload_n (i := 0) 1 dX13_loft_124 rfl rfl ?_
  refine eg_iload_n (i := 1) 2 dX13_loft_125 rfl rfl ?_
  refine eg_bipush (v := (10 : Int32)) dX13_loft_126 (by decide) ?_
  refine eg_idiv dX13_loft_128 (by decide) ?_
  refine eg_iload_n (i := 2) 3 dX13_loft_129 rfl rfl ?_
  refine eg_bipush (v := (10 : Int32)) dX13_loft_130 (by decide) ?_
  refine eg_irem dX13_loft_132 (by decide) ?_
  refine eg_iload (i := 4) 4 dX13_loft_133 rfl ?_
  refine eg_iload (i := 9) 0 dX13_loft_135 rfl ?_
  replace hF := eg_bind hF; obtain ⟨⟨v2, h1⟩, e3, hF⟩ := hF
  refine eg_callV (c := 13) (n := 4) [.int (l1 / (10 : Int32)), .int (l2 % (10 : Int32)), .int l4, .int s0] dX13_loft_137 (mX13_goodBy e3) rfl (fX13_goodBy_O e3) (Nat.le_of_ble_eq_true rfl) rfl ew_1953 ew_1955 ew_82 ew_110 ew_1956 hy_X13_goodBy rfl (Nat.le_of_ble_eq_true rfl) (Nat.le_of_ble_eq_true rfl) (Nat.le_of_ble_eq_true rfl) ?_
  refine eg_istore (i := 10) [(10, .int v2), (9, .int s0), (0, .ref l0), (1, .int l1), (2, .int l2), (4, .int l4), (5, .int l5), (6, .int l6), (7, .int l7), (8, .int l8)] dX13_loft_140 (Nat.le_of_ble_eq_true rfl) rfl ?_
  refine eg_iload (i := 10) 0 dX13_loft_142 rfl ?_
  refine eg_iload (i := 7) 8 dX13_loft_144 rfl ?_
  refine eg_ic_gt 152 dX13_loft_146 rfl (fun c4 => ?_) (fun c4 => ?_)
  · replace hF := eg_it c4 hF
    refine eg_iload (i := 9) 1 dX13_loft_152 rfl ?_
    refine eg_istore (i := 6) [(6, .int s0), (10, .int v2), (9, .int s0), (0, .ref l0), (1, .int l1), (2, .int l2), (4, .int l4), (5, .int l5), (7, .int l7), (8, .int l8)] dX13_loft_154 (Nat.le_of_ble_eq_true rfl) rfl ?_
    refine eg_iload (i := 10) 1 dX13_loft_156 rfl ?_
    refine eg_istore (i := 7) [(7, .int v2), (6, .int s0), (10, .int v2), (9, .int s0), (0, .ref l0), (1, .int l1), (2, .int l2), (4, .int l4), (5, .int l5), (8, .int l8)] dX13_loft_158 (Nat.le_of_ble_eq_true rfl) rfl ?_
    refine eg_iinc (i := 8) (v := (l8 + (1 : Int32))) 9 [(8, .int (l8 + (1 : Int32))), (7, .int v2), (6, .int s0), (10, .int v2), (9, .int s0), (0, .ref l0), (1, .int l1), (2, .int l2), (4, .int l4), (5, .int l5)] dX13_loft_160 rfl rfl (Nat.le_of_ble_eq_true rfl) rfl ?_
    refine eg_goto 93 dX13_loft_163 rfl ?_
    exact eg_sub [5, 6, 7, 8, 9, 2, 1, 0] [(0, .ref l0), (1, .int l1), (2, .int l2), (4, .int l4), (5, .int l5), (6, .int s0), (7, .int v2), (8, .int (l8 + (1 : Int32)))] rfl (hrec h1 l0 l1 l2 l4 l5 s0 v2 (l8 + (1 : Int32)) hF)
  · replace hF := eg_if c4 hF
    refine eg_goto 160 dX13_loft_149 rfl ?_
    refine eg_iinc (i := 8) (v := (l8 + (1 : Int32))) 9 [(8, .int (l8 + (1 : Int32))), (10, .int v2), (9, .int s0), (0, .ref l0), (1, .int l1), (2, .int l2), (4, .int l4), (5, .int l5), (6, .int l6), (7, .int l7)] dX13_loft_160 rfl rfl (Nat.le_of_ble_eq_true rfl) rfl ?_
    refine eg_goto 93 dX13_loft_163 rfl ?_
    exact eg_sub [3, 4, 5, 6, 7, 8, 9, 0] [(0, .ref l0), (1, .int l1), (2, .int l2), (4, .int l4), (5, .int l5), (6, .int l6), (7, .int l7), (8, .int (l8 + (1 : Int32)))] rfl (hrec h1 l0 l1 l2 l4 l5 l6 l7 (l8 + (1 : Int32)) hF)
def fX13_loft_L93 : Nat → eg_H → Nat → Int32 → Int32 → Int32 → Int32 → Int32 → Int32 → Int32 → Option (Int32 × Int32 × Int32 × eg_H)
  | 0, _, _, _, _, _, _, _, _, _ => none
  | n + 1, h, l0, l1, l2, l4, l5, l6, l7, l8 =>
    if (10 : Int32) < l8 then
      (some (l5, l6, l7, h))
    else
      if (l8 % (2 : Int32)) = (1 : Int32) then
        (fX13_loft_j122 (fX13_loft_L93 n) h l0 l1 l2 l4 l5 l6 l7 l8 ((-(l8 + (1 : Int32))) / (2 : Int32)))
      else
        fX13_loft_j122 (fX13_loft_L93 n) h l0 l1 l2 l4 l5 l6 l7 l8 (l8 / (2 : Int32))
set_option maxRecDepth 20000 in
theorem fX13_loft_L93_ok {h0 : eg_H} {Z : eg_C → State → Prop} {N S : Nat} : ∀ (n : Nat) (h : eg_H) (l0 : Nat) (l1 : Int32) (l2 : Int32) (l4 : Int32) (l5 : Int32) (l6 : Int32) (l7 : Int32) (l8 : Int32) (eE : Int32 × Int32 × Int32 × eg_H), fX13_loft_L93 n h l0 l1 l2 l4 l5 l6 l7 l8 = some eE → (hk0 : ∀ (l5 : Int32) (l6 : Int32) (l7 : Int32) (h : eg_H), eE = (l5, l6, l7, h) → eg_AW (RX13, cX13_loft, 11, 397, none, "loft", (some .int)) Z N S h0 166 [(5, .int l5), (6, .int l6), (7, .int l7)] [] h) → eg_AW (RX13, cX13_loft, 11, 397, none, "loft", (some .int)) Z N S h0 93 [(0, .ref l0), (1, .int l1), (2, .int l2), (4, .int l4), (5, .int l5), (6, .int l6), (7, .int l7), (8, .int l8)] [] h := by
  intro n
  induction n with
  | zero => intro h l0 l1 l2 l4 l5 l6 l7 l8 eE hF; exact absurd hF (by intro q; cases q)
  | succ n ih =>
    intro h l0 l1 l2 l4 l5 l6 l7 l8 eE hF hk0
    have hrec := fun (h' : eg_H) (l0 : Nat) (l1 : Int32) (l2 : Int32) (l4 : Int32) (l5 : Int32) (l6 : Int32) (l7 : Int32) (l8 : Int32) hq => ih h' l0 l1 l2 l4 l5 l6 l7 l8 eE hq hk0
    refine eg_iload (i := 8) 7 dX13_loft_93 rfl ?_
    refine eg_bipush (v := (10 : Int32)) dX13_loft_95 (by decide) ?_
    refine eg_ic_gt 166 dX13_loft_97 rfl (fun c1 => ?_) (fun c1 => ?_)
    · replace hF := eg_it c1 hF
      exact eg_sub [4, 5, 6] [(5, .int l5), (6, .int l6), (7, .int l7)] rfl (hk0 l5 l6 l7 h (Option.some.inj hF).symm)
    · replace hF := eg_if c1 hF
      refine eg_iload (i := 8) 7 dX13_loft_100 rfl ?_
      refine eg_iconst (v := (2 : Int32)) dX13_loft_102 (by decide) ?_
      refine eg_irem dX13_loft_103 (by decide) ?_
      refine eg_iconst (v := (1 : Int32)) dX13_loft_104 (by decide) ?_
      refine eg_ic_ne 118 dX13_loft_105 rfl (fun c2 => ?_) (fun c2 => ?_)
      · replace hF := eg_it c2 hF
        refine eg_iload (i := 8) 7 dX13_loft_108 rfl ?_
        refine eg_iconst (v := (1 : Int32)) dX13_loft_110 (by decide) ?_
        refine eg_iadd dX13_loft_111 ?_
        refine eg_ineg dX13_loft_112 ?_
        refine eg_iconst (v := (2 : Int32)) dX13_loft_113 (by decide) ?_
        refine eg_idiv dX13_loft_114 (by decide) ?_
        refine eg_goto 122 dX13_loft_115 rfl ?_
        exact (fX13_loft_j122_ok h l0 l1 l2 l4 l5 l6 l7 l8 ((-(l8 + (1 : Int32))) / (2 : Int32)) eE hF hrec hk0)
      · replace hF := eg_if c2 hF
        refine eg_iload (i := 8) 7 dX13_loft_118 rfl ?_
        refine eg_iconst (v := (2 : Int32)) dX13_loft_120 (by decide) ?_
        refine eg_idiv dX13_loft_121 (by decide) ?_
        exact (fX13_loft_j122_ok h l0 l1 l2 l4 l5 l6 l7 l8 (l8 / (2 : Int32)) eE hF hrec hk0)
def fX13_loft (h : eg_H) (l0 : Nat) (l1 : Int32) (l2 : Int32) (l3 : Int32) (l4 : Int32) (l5 : Int32) : Option (Int32 × eg_H) :=
  if eg_isO h 13 l0 then (
    (eg_pI h 13 0 l0 (0 : Int32)).bind fun h1 =>
    (fX13_isTwo h1 l0 l1).bind fun ⟨v4, h3⟩ =>
    if v4 = 0 then
      (some ((-1000000 : Int32), h3))
    else
      (fX13_isFrom h3 l0 l2).bind fun ⟨v8, h7⟩ =>
      if v8 = 0 then
        (some ((-1000000 : Int32), h7))
      else
        (fX13_isIn h7 l3.toInt64 (1 : Int64) (60 : Int64)).bind fun ⟨v12, h11⟩ =>
        if v12 = 0 then
          (some ((-1000000 : Int32), h11))
        else
          (eg_gR h11 13 20 l0).bind fun p15 =>
          (eg_aI h11 100 p15 (((4 : Int32) * (l1 / (10 : Int32))) + (3 : Int32))).bind fun v17 =>
          (fX13_isIn h11 l4.toInt64 (0 : Int64) v17.toInt64).bind fun ⟨v20, h19⟩ =>
          if v20 = 0 then
            (some ((-1000000 : Int32), h19))
          else
            (fX13_isIn h19 l5.toInt64 (0 : Int64) (1 : Int64)).bind fun ⟨v24, h23⟩ =>
            if v24 = 0 then
              (some ((-1000000 : Int32), h23))
            else
              (fX13_layHolds h23 l0 (l1 % (10 : Int32)) l2 l3 l4).bind fun h27 =>
              (fX13_loft_L93 eg_F h27 l0 l1 l2 l4 l5 (0 : Int32) (-1 : Int32) (0 : Int32)).bind fun e =>
              match e with
              | (v31, v32, v33, h34) =>
                if v31 = 0 then
                  (some (v32, h34))
                else
                  some (v33, h34)) else none
theorem fX13_loft_O {h : eg_H} {l0 : Nat} {l1 : Int32} {l2 : Int32} {l3 : Int32} {l4 : Int32} {l5 : Int32} {rE : Int32} {hE : eg_H} (hF : fX13_loft h l0 l1 l2 l3 l4 l5 = some (rE, hE)) : eg_isO h 13 l0 := (eg_ifn hF).1
set_option maxRecDepth 20000 in
theorem mX13_loft {h : eg_H} {l0 : Nat} {l1 : Int32} {l2 : Int32} {l3 : Int32} {l4 : Int32} {l5 : Int32} {rE : Int32} {hE : eg_H} (hF : fX13_loft h l0 l1 l2 l3 l4 l5 = some (rE, hE)) : eg_Met yX13_loft cX13_loft 11 (some .int) 397 [.ref l0, .int l1, .int l2, .int l3, .int l4, .int l5] h (some (.int rE)) hE := by
  refine eg_enter rfl (Nat.le_of_ble_eq_true rfl) ?_
  show eg_AW (RX13, cX13_loft, 11, 397, none, "loft", (some .int)) (eg_Zm (some (.int rE)) hE h) (eg_nc hE) (eg_ns hE) h 0 [(0, .ref l0), (1, .int l1), (2, .int l2), (3, .int l3), (4, .int l4), (5, .int l5)] [] h
  replace hF := (eg_ifn hF).2
  refine eg_aload_n (i := 0) 0 dX13_loft_0 rfl rfl ?_
  refine eg_iconst (v := (0 : Int32)) dX13_loft_1 (by decide) ?_
  replace hF := eg_bind hF; obtain ⟨h1, e2, hF⟩ := hF
  refine eg_putI dX13_loft_2 e2 (Nat.le_of_ble_eq_true rfl) (Nat.le_of_ble_eq_true rfl) rfl ew_1434 (Or.inl rfl) ?_
  refine eg_aload_n (i := 0) 0 dX13_loft_5 rfl rfl ?_
  refine eg_iload_n (i := 1) 1 dX13_loft_6 rfl rfl ?_
  replace hF := eg_bind hF; obtain ⟨⟨v4, h3⟩, e5, hF⟩ := hF
  refine eg_callV (c := 13) (n := 1) [.int l1] dX13_loft_7 (mX13_isTwo e5) rfl (fX13_isTwo_O e5) (Nat.le_of_ble_eq_true rfl) rfl ew_1929 ew_1931 ew_76 ew_110 ew_1932 hy_X13_isTwo rfl (Nat.le_of_ble_eq_true rfl) (Nat.le_of_ble_eq_true rfl) (Nat.le_of_ble_eq_true rfl) ?_
  refine eg_if_eq 68 dX13_loft_10 rfl (fun c6 => ?_) (fun c6 => ?_)
  · replace hF := eg_it c6 hF
    refine eg_ldcw (v := (-1000000 : Int32)) dX13_loft_68 ew_1899 ?_
    exact eg_iretE dX13_loft_71 hF
  · replace hF := eg_if c6 hF
    refine eg_aload_n (i := 0) 0 dX13_loft_13 rfl rfl ?_
    refine eg_iload_n (i := 2) 2 dX13_loft_14 rfl rfl ?_
    replace hF := eg_bind hF; obtain ⟨⟨v8, h7⟩, e9, hF⟩ := hF
    refine eg_callV (c := 13) (n := 1) [.int l2] dX13_loft_15 (mX13_isFrom e9) rfl (fX13_isFrom_O e9) (Nat.le_of_ble_eq_true rfl) rfl ew_1933 ew_1935 ew_77 ew_110 ew_1936 hy_X13_isFrom rfl (Nat.le_of_ble_eq_true rfl) (Nat.le_of_ble_eq_true rfl) (Nat.le_of_ble_eq_true rfl) ?_
    refine eg_if_eq 68 dX13_loft_18 rfl (fun c10 => ?_) (fun c10 => ?_)
    · replace hF := eg_it c10 hF
      refine eg_ldcw (v := (-1000000 : Int32)) dX13_loft_68 ew_1899 ?_
      exact eg_iretE dX13_loft_71 hF
    · replace hF := eg_if c10 hF
      refine eg_iload_n (i := 3) 3 dX13_loft_21 rfl rfl ?_
      refine eg_i2l dX13_loft_22 ?_
      refine eg_lconst (v := (1 : Int64)) dX13_loft_23 (by decide) ?_
      refine eg_ldc2 (v := (60 : Int64)) dX13_loft_24 ew_1912 ?_
      replace hF := eg_bind hF; obtain ⟨⟨v12, h11⟩, e13, hF⟩ := hF
      refine eg_callS (n := 3) [.long l3.toInt64, .long (1 : Int64), .long (60 : Int64)] dX13_loft_27 (mX13_isIn e13) rfl ew_1697 ew_1698 ew_110 ew_1699 hy_X13_isIn.2 rfl (Nat.le_of_ble_eq_true rfl) (Nat.le_of_ble_eq_true rfl) (Nat.le_of_ble_eq_true rfl) ?_
      refine eg_if_eq 68 dX13_loft_30 rfl (fun c14 => ?_) (fun c14 => ?_)
      · replace hF := eg_it c14 hF
        refine eg_ldcw (v := (-1000000 : Int32)) dX13_loft_68 ew_1899 ?_
        exact eg_iretE dX13_loft_71 hF
      · replace hF := eg_if c14 hF
        refine eg_iload (i := 4) 4 dX13_loft_33 rfl ?_
        refine eg_i2l dX13_loft_35 ?_
        refine eg_lconst (v := (0 : Int64)) dX13_loft_36 (by decide) ?_
        refine eg_aload_n (i := 0) 0 dX13_loft_37 rfl rfl ?_
        replace hF := eg_bind hF; obtain ⟨p15, e16, hF⟩ := hF
        refine eg_getR dX13_loft_38 e16 (Nat.le_of_ble_eq_true rfl) (Nat.le_of_ble_eq_true rfl) rfl ew_1454 ?_
        refine eg_iconst (v := (4 : Int32)) dX13_loft_41 (by decide) ?_
        refine eg_iload_n (i := 1) 1 dX13_loft_42 rfl rfl ?_
        refine eg_bipush (v := (10 : Int32)) dX13_loft_43 (by decide) ?_
        refine eg_idiv dX13_loft_45 (by decide) ?_
        refine eg_imul dX13_loft_46 ?_
        refine eg_iconst (v := (3 : Int32)) dX13_loft_47 (by decide) ?_
        refine eg_iadd dX13_loft_48 ?_
        replace hF := eg_bind hF; obtain ⟨v17, e18, hF⟩ := hF
        refine eg_iald dX13_loft_49 e18 ?_
        refine eg_i2l dX13_loft_50 ?_
        replace hF := eg_bind hF; obtain ⟨⟨v20, h19⟩, e21, hF⟩ := hF
        refine eg_callS (n := 3) [.long l4.toInt64, .long (0 : Int64), .long v17.toInt64] dX13_loft_51 (mX13_isIn e21) rfl ew_1697 ew_1698 ew_110 ew_1699 hy_X13_isIn.2 rfl (Nat.le_of_ble_eq_true rfl) (Nat.le_of_ble_eq_true rfl) (Nat.le_of_ble_eq_true rfl) ?_
        refine eg_if_eq 68 dX13_loft_54 rfl (fun c22 => ?_) (fun c22 => ?_)
        · replace hF := eg_it c22 hF
          refine eg_ldcw (v := (-1000000 : Int32)) dX13_loft_68 ew_1899 ?_
          exact eg_iretE dX13_loft_71 hF
        · replace hF := eg_if c22 hF
          refine eg_iload (i := 5) 5 dX13_loft_57 rfl ?_
          refine eg_i2l dX13_loft_59 ?_
          refine eg_lconst (v := (0 : Int64)) dX13_loft_60 (by decide) ?_
          refine eg_lconst (v := (1 : Int64)) dX13_loft_61 (by decide) ?_
          replace hF := eg_bind hF; obtain ⟨⟨v24, h23⟩, e25, hF⟩ := hF
          refine eg_callS (n := 3) [.long l5.toInt64, .long (0 : Int64), .long (1 : Int64)] dX13_loft_62 (mX13_isIn e25) rfl ew_1697 ew_1698 ew_110 ew_1699 hy_X13_isIn.2 rfl (Nat.le_of_ble_eq_true rfl) (Nat.le_of_ble_eq_true rfl) (Nat.le_of_ble_eq_true rfl) ?_
          refine eg_if_ne 72 dX13_loft_65 rfl (fun c26 => ?_) (fun c26 => ?_)
          · replace hF := eg_it c26 hF
            refine eg_ldcw (v := (-1000000 : Int32)) dX13_loft_68 ew_1899 ?_
            exact eg_iretE dX13_loft_71 hF
          · replace hF := eg_if c26 hF
            refine eg_aload_n (i := 0) 0 dX13_loft_72 rfl rfl ?_
            refine eg_iload_n (i := 1) 1 dX13_loft_73 rfl rfl ?_
            refine eg_bipush (v := (10 : Int32)) dX13_loft_74 (by decide) ?_
            refine eg_irem dX13_loft_76 (by decide) ?_
            refine eg_iload_n (i := 2) 2 dX13_loft_77 rfl rfl ?_
            refine eg_iload_n (i := 3) 3 dX13_loft_78 rfl rfl ?_
            refine eg_iload (i := 4) 4 dX13_loft_79 rfl ?_
            replace hF := eg_bind hF; obtain ⟨h27, e28, hF⟩ := hF
            refine eg_callV (c := 13) (n := 4) [.int (l1 % (10 : Int32)), .int l2, .int l3, .int l4] dX13_loft_81 (mX13_layHolds e28) rfl (fX13_layHolds_O e28) (Nat.le_of_ble_eq_true rfl) rfl ew_1945 ew_1947 ew_80 ew_110 ew_1948 hy_X13_layHolds rfl (Nat.le_of_ble_eq_true rfl) (Nat.le_of_ble_eq_true rfl) (Nat.le_of_ble_eq_true rfl) ?_
            refine eg_iconst (v := (0 : Int32)) dX13_loft_84 (by decide) ?_
            refine eg_istore (i := 6) [(6, .int (0 : Int32)), (0, .ref l0), (1, .int l1), (2, .int l2), (3, .int l3), (4, .int l4), (5, .int l5)] dX13_loft_85 (Nat.le_of_ble_eq_true rfl) rfl ?_
            refine eg_iconst (v := (-1 : Int32)) dX13_loft_87 (by decide) ?_
            refine eg_istore (i := 7) [(7, .int (-1 : Int32)), (6, .int (0 : Int32)), (0, .ref l0), (1, .int l1), (2, .int l2), (3, .int l3), (4, .int l4), (5, .int l5)] dX13_loft_88 (Nat.le_of_ble_eq_true rfl) rfl ?_
            refine eg_iconst (v := (0 : Int32)) dX13_loft_90 (by decide) ?_
            refine eg_istore (i := 8) [(8, .int (0 : Int32)), (7, .int (-1 : Int32)), (6, .int (0 : Int32)), (0, .ref l0), (1, .int l1), (2, .int l2), (3, .int l3), (4, .int l4), (5, .int l5)] dX13_loft_91 (Nat.le_of_ble_eq_true rfl) rfl ?_
            replace hF := eg_bind hF; obtain ⟨x30, e29, hF⟩ := hF
            refine eg_sub [3, 4, 5, 7, 8, 2, 1, 0] [(0, .ref l0), (1, .int l1), (2, .int l2), (4, .int l4), (5, .int l5), (6, .int (0 : Int32)), (7, .int (-1 : Int32)), (8, .int (0 : Int32))] rfl (fX13_loft_L93_ok eg_F h27 l0 l1 l2 l4 l5 (0 : Int32) (-1 : Int32) (0 : Int32) x30 e29 ?_)
            · intro v31 v32 v33 h34 e36
              subst e36
              refine eg_iload (i := 5) 0 dX13_loft_166 rfl ?_
              refine eg_if_ne 176 dX13_loft_168 rfl (fun c35 => ?_) (fun c35 => ?_)
              · replace hF := eg_it c35 hF
                refine eg_iload (i := 6) 1 dX13_loft_171 rfl ?_
                refine eg_goto 178 dX13_loft_173 rfl ?_
                exact eg_iretE dX13_loft_178 hF
              · replace hF := eg_if c35 hF
                refine eg_iload (i := 7) 2 dX13_loft_176 rfl ?_
                exact eg_iretE dX13_loft_178 hF
theorem dX13_gusty_0 : decode cX13_gusty 0 = .ok (.aload_n 0, 1) := by decide +kernel
theorem dX13_gusty_1 : decode cX13_gusty 1 = .ok (.iconst 0, 1) := by decide +kernel
theorem dX13_gusty_2 : decode cX13_gusty 2 = .ok (.putfield 148, 3) := by decide +kernel
theorem dX13_gusty_5 : decode cX13_gusty 5 = .ok (.aload_n 0, 1) := by decide +kernel
theorem dX13_gusty_6 : decode cX13_gusty 6 = .ok (.iload_n 1, 1) := by decide +kernel
theorem dX13_gusty_7 : decode cX13_gusty 7 = .ok (.invokevirtual 405, 3) := by decide +kernel
theorem dX13_gusty_10 : decode cX13_gusty 10 = .ok (.ifCond .eq 23, 3) := by decide +kernel
theorem dX13_gusty_13 : decode cX13_gusty 13 = .ok (.aload_n 0, 1) := by decide +kernel
theorem dX13_gusty_14 : decode cX13_gusty 14 = .ok (.iload_n 2, 1) := by decide +kernel
theorem dX13_gusty_15 : decode cX13_gusty 15 = .ok (.invokevirtual 408, 3) := by decide +kernel
theorem dX13_gusty_18 : decode cX13_gusty 18 = .ok (.ifCond .eq 15, 3) := by decide +kernel
theorem dX13_gusty_21 : decode cX13_gusty 21 = .ok (.iload_n 3, 1) := by decide +kernel
theorem dX13_gusty_22 : decode cX13_gusty 22 = .ok (.i2l, 1) := by decide +kernel
theorem dX13_gusty_23 : decode cX13_gusty 23 = .ok (.lconst 0, 1) := by decide +kernel
theorem dX13_gusty_24 : decode cX13_gusty 24 = .ok (.ldc2_w 382, 3) := by decide +kernel
theorem dX13_gusty_27 : decode cX13_gusty 27 = .ok (.invokestatic 269, 3) := by decide +kernel
theorem dX13_gusty_30 : decode cX13_gusty 30 = .ok (.ifCond .ne 7, 3) := by decide +kernel
theorem dX13_gusty_33 : decode cX13_gusty 33 = .ok (.ldc2_w 444, 3) := by decide +kernel
theorem dX13_gusty_36 : decode cX13_gusty 36 = .ok (.lreturn, 1) := by decide +kernel
theorem dX13_gusty_37 : decode cX13_gusty 37 = .ok (.aload_n 0, 1) := by decide +kernel
theorem dX13_gusty_38 : decode cX13_gusty 38 = .ok (.getfield 37, 3) := by decide +kernel
theorem dX13_gusty_41 : decode cX13_gusty 41 = .ok (.iconst 0, 1) := by decide +kernel
theorem dX13_gusty_42 : decode cX13_gusty 42 = .ok (.iaload, 1) := by decide +kernel
theorem dX13_gusty_43 : decode cX13_gusty 43 = .ok (.istore 4, 2) := by decide +kernel
theorem dX13_gusty_45 : decode cX13_gusty 45 = .ok (.lconst 0, 1) := by decide +kernel
theorem dX13_gusty_46 : decode cX13_gusty 46 = .ok (.lstore 5, 2) := by decide +kernel
theorem dX13_gusty_48 : decode cX13_gusty 48 = .ok (.iconst 0, 1) := by decide +kernel
theorem dX13_gusty_49 : decode cX13_gusty 49 = .ok (.istore 7, 2) := by decide +kernel
theorem dX13_gusty_51 : decode cX13_gusty 51 = .ok (.iload 7, 2) := by decide +kernel
theorem dX13_gusty_53 : decode cX13_gusty 53 = .ok (.iload_n 3, 1) := by decide +kernel
theorem dX13_gusty_54 : decode cX13_gusty 54 = .ok (.if_icmp .gt 28, 3) := by decide +kernel
theorem dX13_gusty_57 : decode cX13_gusty 57 = .ok (.aload_n 0, 1) := by decide +kernel
theorem dX13_gusty_58 : decode cX13_gusty 58 = .ok (.getfield 37, 3) := by decide +kernel
theorem dX13_gusty_61 : decode cX13_gusty 61 = .ok (.iconst 0, 1) := by decide +kernel
theorem dX13_gusty_62 : decode cX13_gusty 62 = .ok (.iload 7, 2) := by decide +kernel
theorem dX13_gusty_64 : decode cX13_gusty 64 = .ok (.iastore, 1) := by decide +kernel
theorem dX13_gusty_65 : decode cX13_gusty 65 = .ok (.lload 5, 2) := by decide +kernel
theorem dX13_gusty_67 : decode cX13_gusty 67 = .ok (.aload_n 0, 1) := by decide +kernel
theorem dX13_gusty_68 : decode cX13_gusty 68 = .ok (.iload_n 1, 1) := by decide +kernel
theorem dX13_gusty_69 : decode cX13_gusty 69 = .ok (.iload_n 2, 1) := by decide +kernel
theorem dX13_gusty_70 : decode cX13_gusty 70 = .ok (.invokevirtual 440, 3) := by decide +kernel
theorem dX13_gusty_73 : decode cX13_gusty 73 = .ok (.ladd, 1) := by decide +kernel
theorem dX13_gusty_74 : decode cX13_gusty 74 = .ok (.lstore 5, 2) := by decide +kernel
theorem dX13_gusty_76 : decode cX13_gusty 76 = .ok (.iinc 7 1, 3) := by decide +kernel
theorem dX13_gusty_79 : decode cX13_gusty 79 = .ok (.goto (-28), 3) := by decide +kernel
theorem dX13_gusty_82 : decode cX13_gusty 82 = .ok (.aload_n 0, 1) := by decide +kernel
theorem dX13_gusty_83 : decode cX13_gusty 83 = .ok (.getfield 37, 3) := by decide +kernel
theorem dX13_gusty_86 : decode cX13_gusty 86 = .ok (.iconst 0, 1) := by decide +kernel
theorem dX13_gusty_87 : decode cX13_gusty 87 = .ok (.iload 4, 2) := by decide +kernel
theorem dX13_gusty_89 : decode cX13_gusty 89 = .ok (.iastore, 1) := by decide +kernel
theorem dX13_gusty_90 : decode cX13_gusty 90 = .ok (.lload 5, 2) := by decide +kernel
theorem dX13_gusty_92 : decode cX13_gusty 92 = .ok (.iload_n 3, 1) := by decide +kernel
theorem dX13_gusty_93 : decode cX13_gusty 93 = .ok (.iconst 1, 1) := by decide +kernel
theorem dX13_gusty_94 : decode cX13_gusty 94 = .ok (.iadd, 1) := by decide +kernel
theorem dX13_gusty_95 : decode cX13_gusty 95 = .ok (.i2l, 1) := by decide +kernel
theorem dX13_gusty_96 : decode cX13_gusty 96 = .ok (.ldiv, 1) := by decide +kernel
theorem dX13_gusty_97 : decode cX13_gusty 97 = .ok (.lreturn, 1) := by decide +kernel
def fX13_gusty_L51 : Nat → eg_H → Nat → Int32 → Int32 → Int32 → Int32 → Int64 → Int32 → Option (Nat × Int32 × Int32 × Int64 × eg_H)
  | 0, _, _, _, _, _, _, _, _ => none
  | n + 1, h, l0, l1, l2, l3, l4, l5, l7 =>
    if l3 < l7 then
      (some (l0, l3, l4, l5, h))
    else
      (eg_gR h 13 18 l0).bind fun p2 =>
      (eg_wI h 100 p2 (0 : Int32) l7).bind fun h4 =>
      (fX13_hopeOf h4 l0 l1 l2).bind fun ⟨v7, h6⟩ =>
      (some ((l5 + v7))).bind fun v9 =>
      fX13_gusty_L51 n h6 l0 l1 l2 l3 l4 v9 (l7 + (1 : Int32))
set_option maxRecDepth 20000 in
theorem fX13_gusty_L51_ok {h0 : eg_H} {Z : eg_C → State → Prop} {N S : Nat} : ∀ (n : Nat) (h : eg_H) (l0 : Nat) (l1 : Int32) (l2 : Int32) (l3 : Int32) (l4 : Int32) (l5 : Int64) (l7 : Int32) (eE : Nat × Int32 × Int32 × Int64 × eg_H), fX13_gusty_L51 n h l0 l1 l2 l3 l4 l5 l7 = some eE → (hk0 : ∀ (l0 : Nat) (l3 : Int32) (l4 : Int32) (l5 : Int64) (h : eg_H), eE = (l0, l3, l4, l5, h) → eg_AW (RX13, cX13_gusty, 8, 400, none, "gusty", (some .long)) Z N S h0 82 [(0, .ref l0), (3, .int l3), (4, .int l4), (5, .long l5)] [] h) → eg_AW (RX13, cX13_gusty, 8, 400, none, "gusty", (some .long)) Z N S h0 51 [(0, .ref l0), (1, .int l1), (2, .int l2), (3, .int l3), (4, .int l4), (5, .long l5), (7, .int l7)] [] h := by
  intro n
  induction n with
  | zero => intro h l0 l1 l2 l3 l4 l5 l7 eE hF; exact absurd hF (by intro q; cases q)
  | succ n ih =>
    intro h l0 l1 l2 l3 l4 l5 l7 eE hF hk0
    have hrec := fun (h' : eg_H) (l0 : Nat) (l1 : Int32) (l2 : Int32) (l3 : Int32) (l4 : Int32) (l5 : Int64) (l7 : Int32) hq => ih h' l0 l1 l2 l3 l4 l5 l7 eE hq hk0
    refine eg_iload (i := 7) 6 dX13_gusty_51 rfl ?_
    refine eg_iload_n (i := 3) 3 dX13_gusty_53 rfl rfl ?_
    refine eg_ic_gt 82 dX13_gusty_54 rfl (fun c1 => ?_) (fun c1 => ?_)
    · replace hF := eg_it c1 hF
      exact eg_sub [0, 3, 4, 5] [(0, .ref l0), (3, .int l3), (4, .int l4), (5, .long l5)] rfl (hk0 l0 l3 l4 l5 h (Option.some.inj hF).symm)
    · replace hF := eg_if c1 hF
      refine eg_aload_n (i := 0) 0 dX13_gusty_57 rfl rfl ?_
      replace hF := eg_bind hF; obtain ⟨p2, e3, hF⟩ := hF
      refine eg_getR dX13_gusty_58 e3 (Nat.le_of_ble_eq_true rfl) (Nat.le_of_ble_eq_true rfl) rfl ew_1452 ?_
      refine eg_iconst (v := (0 : Int32)) dX13_gusty_61 (by decide) ?_
      refine eg_iload (i := 7) 6 dX13_gusty_62 rfl ?_
      replace hF := eg_bind hF; obtain ⟨h4, e5, hF⟩ := hF
      refine eg_iast dX13_gusty_64 e5 ?_
      refine eg_lload (i := 5) 5 dX13_gusty_65 rfl ?_
      refine eg_aload_n (i := 0) 0 dX13_gusty_67 rfl rfl ?_
      refine eg_iload_n (i := 1) 1 dX13_gusty_68 rfl rfl ?_
      refine eg_iload_n (i := 2) 2 dX13_gusty_69 rfl rfl ?_
      replace hF := eg_bind hF; obtain ⟨⟨v7, h6⟩, e8, hF⟩ := hF
      refine eg_callV (c := 13) (n := 2) [.int l1, .int l2] dX13_gusty_70 (mX13_hopeOf e8) rfl (fX13_hopeOf_O e8) (Nat.le_of_ble_eq_true rfl) rfl ew_1982 ew_1984 ew_86 ew_110 ew_1985 hy_X13_hopeOf rfl (Nat.le_of_ble_eq_true rfl) (Nat.le_of_ble_eq_true rfl) (Nat.le_of_ble_eq_true rfl) ?_
      refine eg_ladd dX13_gusty_73 ?_
      replace hF := eg_bind hF; obtain ⟨v9, e10, hF⟩ := hF
      replace e10 := Option.some.inj e10
      rw [e10]
      refine eg_lstore (i := 5) [(5, .long v9), (0, .ref l0), (1, .int l1), (2, .int l2), (3, .int l3), (4, .int l4), (7, .int l7)] dX13_gusty_74 (Nat.le_of_ble_eq_true rfl) rfl ?_
      refine eg_iinc (i := 7) (v := (l7 + (1 : Int32))) 6 [(7, .int (l7 + (1 : Int32))), (5, .long v9), (0, .ref l0), (1, .int l1), (2, .int l2), (3, .int l3), (4, .int l4)] dX13_gusty_76 rfl rfl (Nat.le_of_ble_eq_true rfl) rfl ?_
      refine eg_goto 51 dX13_gusty_79 rfl ?_
      exact eg_sub [2, 3, 4, 5, 6, 1, 0] [(0, .ref l0), (1, .int l1), (2, .int l2), (3, .int l3), (4, .int l4), (5, .long v9), (7, .int (l7 + (1 : Int32)))] rfl (hrec h6 l0 l1 l2 l3 l4 v9 (l7 + (1 : Int32)) hF)
def fX13_gusty (h : eg_H) (l0 : Nat) (l1 : Int32) (l2 : Int32) (l3 : Int32) : Option (Int64 × eg_H) :=
  if eg_isO h 13 l0 then (
    (eg_pI h 13 0 l0 (0 : Int32)).bind fun h1 =>
    (fX13_isTwo h1 l0 l1).bind fun ⟨v4, h3⟩ =>
    if v4 = 0 then
      (some ((-1 : Int64), h3))
    else
      (fX13_isFrom h3 l0 l2).bind fun ⟨v8, h7⟩ =>
      if v8 = 0 then
        (some ((-1 : Int64), h7))
      else
        (fX13_isIn h7 l3.toInt64 (0 : Int64) (9 : Int64)).bind fun ⟨v12, h11⟩ =>
        if v12 = 0 then
          (some ((-1 : Int64), h11))
        else
          (eg_gR h11 13 18 l0).bind fun p15 =>
          (eg_aI h11 100 p15 (0 : Int32)).bind fun v17 =>
          (fX13_gusty_L51 eg_F h11 l0 l1 l2 l3 v17 (0 : Int64) (0 : Int32)).bind fun e =>
          match e with
          | (p21, v22, v23, v24, h25) =>
            (eg_gR h25 13 18 p21).bind fun p26 =>
            (eg_wI h25 100 p26 (0 : Int32) v23).bind fun h28 =>
            if (v22 + (1 : Int32)).toInt64 = 0 then none else
            some ((v24 / (v22 + (1 : Int32)).toInt64), h28)) else none
theorem fX13_gusty_O {h : eg_H} {l0 : Nat} {l1 : Int32} {l2 : Int32} {l3 : Int32} {rE : Int64} {hE : eg_H} (hF : fX13_gusty h l0 l1 l2 l3 = some (rE, hE)) : eg_isO h 13 l0 := (eg_ifn hF).1
set_option maxRecDepth 20000 in
theorem mX13_gusty {h : eg_H} {l0 : Nat} {l1 : Int32} {l2 : Int32} {l3 : Int32} {rE : Int64} {hE : eg_H} (hF : fX13_gusty h l0 l1 l2 l3 = some (rE, hE)) : eg_Met yX13_gusty cX13_gusty 8 (some .long) 400 [.ref l0, .int l1, .int l2, .int l3] h (some (.long rE)) hE := by
  refine eg_enter rfl (Nat.le_of_ble_eq_true rfl) ?_
  show eg_AW (RX13, cX13_gusty, 8, 400, none, "gusty", (some .long)) (eg_Zm (some (.long rE)) hE h) (eg_nc hE) (eg_ns hE) h 0 [(0, .ref l0), (1, .int l1), (2, .int l2), (3, .int l3)] [] h
  replace hF := (eg_ifn hF).2
  refine eg_aload_n (i := 0) 0 dX13_gusty_0 rfl rfl ?_
  refine eg_iconst (v := (0 : Int32)) dX13_gusty_1 (by decide) ?_
  replace hF := eg_bind hF; obtain ⟨h1, e2, hF⟩ := hF
  refine eg_putI dX13_gusty_2 e2 (Nat.le_of_ble_eq_true rfl) (Nat.le_of_ble_eq_true rfl) rfl ew_1434 (Or.inl rfl) ?_
  refine eg_aload_n (i := 0) 0 dX13_gusty_5 rfl rfl ?_
  refine eg_iload_n (i := 1) 1 dX13_gusty_6 rfl rfl ?_
  replace hF := eg_bind hF; obtain ⟨⟨v4, h3⟩, e5, hF⟩ := hF
  refine eg_callV (c := 13) (n := 1) [.int l1] dX13_gusty_7 (mX13_isTwo e5) rfl (fX13_isTwo_O e5) (Nat.le_of_ble_eq_true rfl) rfl ew_1929 ew_1931 ew_76 ew_110 ew_1932 hy_X13_isTwo rfl (Nat.le_of_ble_eq_true rfl) (Nat.le_of_ble_eq_true rfl) (Nat.le_of_ble_eq_true rfl) ?_
  refine eg_if_eq 33 dX13_gusty_10 rfl (fun c6 => ?_) (fun c6 => ?_)
  · replace hF := eg_it c6 hF
    refine eg_ldc2 (v := (-1 : Int64)) dX13_gusty_33 ew_1990 ?_
    exact eg_lretE dX13_gusty_36 hF
  · replace hF := eg_if c6 hF
    refine eg_aload_n (i := 0) 0 dX13_gusty_13 rfl rfl ?_
    refine eg_iload_n (i := 2) 2 dX13_gusty_14 rfl rfl ?_
    replace hF := eg_bind hF; obtain ⟨⟨v8, h7⟩, e9, hF⟩ := hF
    refine eg_callV (c := 13) (n := 1) [.int l2] dX13_gusty_15 (mX13_isFrom e9) rfl (fX13_isFrom_O e9) (Nat.le_of_ble_eq_true rfl) rfl ew_1933 ew_1935 ew_77 ew_110 ew_1936 hy_X13_isFrom rfl (Nat.le_of_ble_eq_true rfl) (Nat.le_of_ble_eq_true rfl) (Nat.le_of_ble_eq_true rfl) ?_
    refine eg_if_eq 33 dX13_gusty_18 rfl (fun c10 => ?_) (fun c10 => ?_)
    · replace hF := eg_it c10 hF
      refine eg_ldc2 (v := (-1 : Int64)) dX13_gusty_33 ew_1990 ?_
      exact eg_lretE dX13_gusty_36 hF
    · replace hF := eg_if c10 hF
      refine eg_iload_n (i := 3) 3 dX13_gusty_21 rfl rfl ?_
      refine eg_i2l dX13_gusty_22 ?_
      refine eg_lconst (v := (0 : Int64)) dX13_gusty_23 (by decide) ?_
      refine eg_ldc2 (v := (9 : Int64)) dX13_gusty_24 ew_1913 ?_
      replace hF := eg_bind hF; obtain ⟨⟨v12, h11⟩, e13, hF⟩ := hF
      refine eg_callS (n := 3) [.long l3.toInt64, .long (0 : Int64), .long (9 : Int64)] dX13_gusty_27 (mX13_isIn e13) rfl ew_1697 ew_1698 ew_110 ew_1699 hy_X13_isIn.2 rfl (Nat.le_of_ble_eq_true rfl) (Nat.le_of_ble_eq_true rfl) (Nat.le_of_ble_eq_true rfl) ?_
      refine eg_if_ne 37 dX13_gusty_30 rfl (fun c14 => ?_) (fun c14 => ?_)
      · replace hF := eg_it c14 hF
        refine eg_ldc2 (v := (-1 : Int64)) dX13_gusty_33 ew_1990 ?_
        exact eg_lretE dX13_gusty_36 hF
      · replace hF := eg_if c14 hF
        refine eg_aload_n (i := 0) 0 dX13_gusty_37 rfl rfl ?_
        replace hF := eg_bind hF; obtain ⟨p15, e16, hF⟩ := hF
        refine eg_getR dX13_gusty_38 e16 (Nat.le_of_ble_eq_true rfl) (Nat.le_of_ble_eq_true rfl) rfl ew_1452 ?_
        refine eg_iconst (v := (0 : Int32)) dX13_gusty_41 (by decide) ?_
        replace hF := eg_bind hF; obtain ⟨v17, e18, hF⟩ := hF
        refine eg_iald dX13_gusty_42 e18 ?_
        refine eg_istore (i := 4) [(4, .int v17), (0, .ref l0), (1, .int l1), (2, .int l2), (3, .int l3)] dX13_gusty_43 (Nat.le_of_ble_eq_true rfl) rfl ?_
        refine eg_lconst (v := (0 : Int64)) dX13_gusty_45 (by decide) ?_
        refine eg_lstore (i := 5) [(5, .long (0 : Int64)), (4, .int v17), (0, .ref l0), (1, .int l1), (2, .int l2), (3, .int l3)] dX13_gusty_46 (Nat.le_of_ble_eq_true rfl) rfl ?_
        refine eg_iconst (v := (0 : Int32)) dX13_gusty_48 (by decide) ?_
        refine eg_istore (i := 7) [(7, .int (0 : Int32)), (5, .long (0 : Int64)), (4, .int v17), (0, .ref l0), (1, .int l1), (2, .int l2), (3, .int l3)] dX13_gusty_49 (Nat.le_of_ble_eq_true rfl) rfl ?_
        replace hF := eg_bind hF; obtain ⟨x20, e19, hF⟩ := hF
        refine eg_sub [3, 4, 5, 6, 2, 1, 0] [(0, .ref l0), (1, .int l1), (2, .int l2), (3, .int l3), (4, .int v17), (5, .long (0 : Int64)), (7, .int (0 : Int32))] rfl (fX13_gusty_L51_ok eg_F h11 l0 l1 l2 l3 v17 (0 : Int64) (0 : Int32) x20 e19 ?_)
        · intro p21 v22 v23 v24 h25 e31
          subst e31
          refine eg_aload_n (i := 0) 0 dX13_gusty_82 rfl rfl ?_
          replace hF := eg_bind hF; obtain ⟨p26, e27, hF⟩ := hF
          refine eg_getR dX13_gusty_83 e27 (Nat.le_of_ble_eq_true rfl) (Nat.le_of_ble_eq_true rfl) rfl ew_1452 ?_
          refine eg_iconst (v := (0 : Int32)) dX13_gusty_86 (by decide) ?_
          refine eg_iload (i := 4) 2 dX13_gusty_87 rfl ?_
          replace hF := eg_bind hF; obtain ⟨h28, e29, hF⟩ := hF
          refine eg_iast dX13_gusty_89 e29 ?_
          refine eg_lload (i := 5) 3 dX13_gusty_90 rfl ?_
          refine eg_iload_n (i := 3) 1 dX13_gusty_92 rfl rfl ?_
          refine eg_iconst (v := (1 : Int32)) dX13_gusty_93 (by decide) ?_
          refine eg_iadd dX13_gusty_94 ?_
          refine eg_i2l dX13_gusty_95 ?_
          replace hF := eg_nif hF; obtain ⟨c30, hF⟩ := hF
          refine eg_ldiv dX13_gusty_96 c30 ?_
          exact eg_lretE dX13_gusty_97 hF
theorem dX13_measure_0 : decode cX13_measure 0 = .ok (.aload_n 0, 1) := by decide +kernel
theorem dX13_measure_1 : decode cX13_measure 1 = .ok (.iconst 0, 1) := by decide +kernel
theorem dX13_measure_2 : decode cX13_measure 2 = .ok (.putfield 148, 3) := by decide +kernel
theorem dX13_measure_5 : decode cX13_measure 5 = .ok (.aload_n 0, 1) := by decide +kernel
theorem dX13_measure_6 : decode cX13_measure 6 = .ok (.iload_n 1, 1) := by decide +kernel
theorem dX13_measure_7 : decode cX13_measure 7 = .ok (.invokevirtual 353, 3) := by decide +kernel
theorem dX13_measure_10 : decode cX13_measure 10 = .ok (.ifCond .eq 71, 3) := by decide +kernel
theorem dX13_measure_13 : decode cX13_measure 13 = .ok (.iload_n 2, 1) := by decide +kernel
theorem dX13_measure_14 : decode cX13_measure 14 = .ok (.ifCond .lt 67, 3) := by decide +kernel
theorem dX13_measure_17 : decode cX13_measure 17 = .ok (.iload_n 2, 1) := by decide +kernel
theorem dX13_measure_18 : decode cX13_measure 18 = .ok (.bipush 100, 2) := by decide +kernel
theorem dX13_measure_20 : decode cX13_measure 20 = .ok (.idiv, 1) := by decide +kernel
theorem dX13_measure_21 : decode cX13_measure 21 = .ok (.i2l, 1) := by decide +kernel
theorem dX13_measure_22 : decode cX13_measure 22 = .ok (.lconst 1, 1) := by decide +kernel
theorem dX13_measure_23 : decode cX13_measure 23 = .ok (.ldc2_w 380, 3) := by decide +kernel
theorem dX13_measure_26 : decode cX13_measure 26 = .ok (.invokestatic 269, 3) := by decide +kernel
theorem dX13_measure_29 : decode cX13_measure 29 = .ok (.ifCond .eq 52, 3) := by decide +kernel
theorem dX13_measure_32 : decode cX13_measure 32 = .ok (.iload_n 2, 1) := by decide +kernel
theorem dX13_measure_33 : decode cX13_measure 33 = .ok (.bipush 10, 2) := by decide +kernel
theorem dX13_measure_35 : decode cX13_measure 35 = .ok (.irem, 1) := by decide +kernel
theorem dX13_measure_36 : decode cX13_measure 36 = .ok (.i2l, 1) := by decide +kernel
theorem dX13_measure_37 : decode cX13_measure 37 = .ok (.lconst 0, 1) := by decide +kernel
theorem dX13_measure_38 : decode cX13_measure 38 = .ok (.lconst 1, 1) := by decide +kernel
theorem dX13_measure_39 : decode cX13_measure 39 = .ok (.invokestatic 269, 3) := by decide +kernel
theorem dX13_measure_42 : decode cX13_measure 42 = .ok (.ifCond .eq 39, 3) := by decide +kernel
theorem dX13_measure_45 : decode cX13_measure 45 = .ok (.iload_n 3, 1) := by decide +kernel
theorem dX13_measure_46 : decode cX13_measure 46 = .ok (.i2l, 1) := by decide +kernel
theorem dX13_measure_47 : decode cX13_measure 47 = .ok (.ldc2_w 384, 3) := by decide +kernel
theorem dX13_measure_50 : decode cX13_measure 50 = .ok (.ldc2_w 386, 3) := by decide +kernel
theorem dX13_measure_53 : decode cX13_measure 53 = .ok (.invokestatic 269, 3) := by decide +kernel
theorem dX13_measure_56 : decode cX13_measure 56 = .ok (.ifCond .eq 25, 3) := by decide +kernel
theorem dX13_measure_59 : decode cX13_measure 59 = .ok (.iload 4, 2) := by decide +kernel
theorem dX13_measure_61 : decode cX13_measure 61 = .ok (.i2l, 1) := by decide +kernel
theorem dX13_measure_62 : decode cX13_measure 62 = .ok (.lconst 0, 1) := by decide +kernel
theorem dX13_measure_63 : decode cX13_measure 63 = .ok (.ldc2_w 461, 3) := by decide +kernel
theorem dX13_measure_66 : decode cX13_measure 66 = .ok (.invokestatic 269, 3) := by decide +kernel
theorem dX13_measure_69 : decode cX13_measure 69 = .ok (.ifCond .eq 12, 3) := by decide +kernel
theorem dX13_measure_72 : decode cX13_measure 72 = .ok (.aload_n 0, 1) := by decide +kernel
theorem dX13_measure_73 : decode cX13_measure 73 = .ok (.getfield 344, 3) := by decide +kernel
theorem dX13_measure_76 : decode cX13_measure 76 = .ok (.bipush 20, 2) := by decide +kernel
theorem dX13_measure_78 : decode cX13_measure 78 = .ok (.if_icmp .ne 5, 3) := by decide +kernel
theorem dX13_measure_81 : decode cX13_measure 81 = .ok (.iconst (-1), 1) := by decide +kernel
theorem dX13_measure_82 : decode cX13_measure 82 = .ok (.ireturn, 1) := by decide +kernel
theorem dX13_measure_83 : decode cX13_measure 83 = .ok (.aload_n 0, 1) := by decide +kernel
theorem dX13_measure_84 : decode cX13_measure 84 = .ok (.getfield 112, 3) := by decide +kernel
theorem dX13_measure_87 : decode cX13_measure 87 = .ok (.aload_n 0, 1) := by decide +kernel
theorem dX13_measure_88 : decode cX13_measure 88 = .ok (.getfield 344, 3) := by decide +kernel
theorem dX13_measure_91 : decode cX13_measure 91 = .ok (.iload_n 1, 1) := by decide +kernel
theorem dX13_measure_92 : decode cX13_measure 92 = .ok (.iastore, 1) := by decide +kernel
theorem dX13_measure_93 : decode cX13_measure 93 = .ok (.aload_n 0, 1) := by decide +kernel
theorem dX13_measure_94 : decode cX13_measure 94 = .ok (.getfield 115, 3) := by decide +kernel
theorem dX13_measure_97 : decode cX13_measure 97 = .ok (.aload_n 0, 1) := by decide +kernel
theorem dX13_measure_98 : decode cX13_measure 98 = .ok (.getfield 344, 3) := by decide +kernel
theorem dX13_measure_101 : decode cX13_measure 101 = .ok (.iload_n 2, 1) := by decide +kernel
theorem dX13_measure_102 : decode cX13_measure 102 = .ok (.iastore, 1) := by decide +kernel
theorem dX13_measure_103 : decode cX13_measure 103 = .ok (.aload_n 0, 1) := by decide +kernel
theorem dX13_measure_104 : decode cX13_measure 104 = .ok (.getfield 118, 3) := by decide +kernel
theorem dX13_measure_107 : decode cX13_measure 107 = .ok (.aload_n 0, 1) := by decide +kernel
theorem dX13_measure_108 : decode cX13_measure 108 = .ok (.getfield 344, 3) := by decide +kernel
theorem dX13_measure_111 : decode cX13_measure 111 = .ok (.iload_n 3, 1) := by decide +kernel
theorem dX13_measure_112 : decode cX13_measure 112 = .ok (.iastore, 1) := by decide +kernel
theorem dX13_measure_113 : decode cX13_measure 113 = .ok (.aload_n 0, 1) := by decide +kernel
theorem dX13_measure_114 : decode cX13_measure 114 = .ok (.getfield 121, 3) := by decide +kernel
theorem dX13_measure_117 : decode cX13_measure 117 = .ok (.aload_n 0, 1) := by decide +kernel
theorem dX13_measure_118 : decode cX13_measure 118 = .ok (.getfield 344, 3) := by decide +kernel
theorem dX13_measure_121 : decode cX13_measure 121 = .ok (.iload 4, 2) := by decide +kernel
theorem dX13_measure_123 : decode cX13_measure 123 = .ok (.iastore, 1) := by decide +kernel
theorem dX13_measure_124 : decode cX13_measure 124 = .ok (.aload_n 0, 1) := by decide +kernel
theorem dX13_measure_125 : decode cX13_measure 125 = .ok (.dup, 1) := by decide +kernel
theorem dX13_measure_126 : decode cX13_measure 126 = .ok (.getfield 344, 3) := by decide +kernel
theorem dX13_measure_129 : decode cX13_measure 129 = .ok (.iconst 1, 1) := by decide +kernel
theorem dX13_measure_130 : decode cX13_measure 130 = .ok (.iadd, 1) := by decide +kernel
theorem dX13_measure_131 : decode cX13_measure 131 = .ok (.putfield 344, 3) := by decide +kernel
theorem dX13_measure_134 : decode cX13_measure 134 = .ok (.aload_n 0, 1) := by decide +kernel
theorem dX13_measure_135 : decode cX13_measure 135 = .ok (.getfield 344, 3) := by decide +kernel
theorem dX13_measure_138 : decode cX13_measure 138 = .ok (.ireturn, 1) := by decide +kernel
def fX13_measure (h : eg_H) (l0 : Nat) (l1 : Int32) (l2 : Int32) (l3 : Int32) (l4 : Int32) : Option (Int32 × eg_H) :=
  if eg_isO h 13 l0 then (
    (eg_pI h 13 0 l0 (0 : Int32)).bind fun h1 =>
    (fX13_isPerson h1 l0 l1).bind fun ⟨v4, h3⟩ =>
    if v4 = 0 then
      (some ((-1 : Int32), h3))
    else
      if l2 < 0 then
        (some ((-1 : Int32), h3))
      else
        (fX13_isIn h3 ((l2 / (100 : Int32)).toInt64) (1 : Int64) (60 : Int64)).bind fun ⟨v9, h8⟩ =>
        if v9 = 0 then
          (some ((-1 : Int32), h8))
        else
          (fX13_isIn h8 ((l2 % (10 : Int32)).toInt64) (0 : Int64) (1 : Int64)).bind fun ⟨v13, h12⟩ =>
          if v13 = 0 then
            (some ((-1 : Int32), h12))
          else
            (fX13_isIn h12 l3.toInt64 (-99 : Int64) (99 : Int64)).bind fun ⟨v17, h16⟩ =>
            if v17 = 0 then
              (some ((-1 : Int32), h16))
            else
              (fX13_isIn h16 l4.toInt64 (0 : Int64) (999 : Int64)).bind fun ⟨v21, h20⟩ =>
              if v21 = 0 then
                (some ((-1 : Int32), h20))
              else
                (eg_gI h20 13 65 l0).bind fun v24 =>
                if v24 = (20 : Int32) then
                  (some ((-1 : Int32), h20))
                else
                  (eg_gR h20 13 61 l0).bind fun p27 =>
                  (eg_gI h20 13 65 l0).bind fun v29 =>
                  (eg_wI h20 100 p27 v29 l1).bind fun h31 =>
                  (eg_gR h31 13 62 l0).bind fun p33 =>
                  (eg_gI h31 13 65 l0).bind fun v35 =>
                  (eg_wI h31 100 p33 v35 l2).bind fun h37 =>
                  (eg_gR h37 13 63 l0).bind fun p39 =>
                  (eg_gI h37 13 65 l0).bind fun v41 =>
                  (eg_wI h37 100 p39 v41 l3).bind fun h43 =>
                  (eg_gR h43 13 64 l0).bind fun p45 =>
                  (eg_gI h43 13 65 l0).bind fun v47 =>
                  (eg_wI h43 100 p45 v47 l4).bind fun h49 =>
                  (eg_gI h49 13 65 l0).bind fun v51 =>
                  (eg_pI h49 13 65 l0 (v51 + (1 : Int32))).bind fun h53 =>
                  (eg_gI h53 13 65 l0).bind fun v55 =>
                  some (v55, h53)) else none
theorem fX13_measure_O {h : eg_H} {l0 : Nat} {l1 : Int32} {l2 : Int32} {l3 : Int32} {l4 : Int32} {rE : Int32} {hE : eg_H} (hF : fX13_measure h l0 l1 l2 l3 l4 = some (rE, hE)) : eg_isO h 13 l0 := (eg_ifn hF).1
set_option maxRecDepth 20000 in
theorem mX13_measure {h : eg_H} {l0 : Nat} {l1 : Int32} {l2 : Int32} {l3 : Int32} {l4 : Int32} {rE : Int32} {hE : eg_H} (hF : fX13_measure h l0 l1 l2 l3 l4 = some (rE, hE)) : eg_Met yX13_measure cX13_measure 5 (some .int) 2 [.ref l0, .int l1, .int l2, .int l3, .int l4] h (some (.int rE)) hE := by
  refine eg_enter rfl (Nat.le_of_ble_eq_true rfl) ?_
  show eg_AW (RX13, cX13_measure, 5, 2, none, "measure", (some .int)) (eg_Zm (some (.int rE)) hE h) (eg_nc hE) (eg_ns hE) h 0 [(0, .ref l0), (1, .int l1), (2, .int l2), (3, .int l3), (4, .int l4)] [] h
  replace hF := (eg_ifn hF).2
  refine eg_aload_n (i := 0) 0 dX13_measure_0 rfl rfl ?_
  refine eg_iconst (v := (0 : Int32)) dX13_measure_1 (by decide) ?_
  replace hF := eg_bind hF; obtain ⟨h1, e2, hF⟩ := hF
  refine eg_putI dX13_measure_2 e2 (Nat.le_of_ble_eq_true rfl) (Nat.le_of_ble_eq_true rfl) rfl ew_1434 (Or.inl rfl) ?_
  refine eg_aload_n (i := 0) 0 dX13_measure_5 rfl rfl ?_
  refine eg_iload_n (i := 1) 1 dX13_measure_6 rfl rfl ?_
  replace hF := eg_bind hF; obtain ⟨⟨v4, h3⟩, e5, hF⟩ := hF
  refine eg_callV (c := 13) (n := 1) [.int l1] dX13_measure_7 (mX13_isPerson e5) rfl (fX13_isPerson_O e5) (Nat.le_of_ble_eq_true rfl) rfl ew_1872 ew_1874 ew_71 ew_110 ew_1875 hy_X13_isPerson rfl (Nat.le_of_ble_eq_true rfl) (Nat.le_of_ble_eq_true rfl) (Nat.le_of_ble_eq_true rfl) ?_
  refine eg_if_eq 81 dX13_measure_10 rfl (fun c6 => ?_) (fun c6 => ?_)
  · replace hF := eg_it c6 hF
    refine eg_iconst (v := (-1 : Int32)) dX13_measure_81 (by decide) ?_
    exact eg_iretE dX13_measure_82 hF
  · replace hF := eg_if c6 hF
    refine eg_iload_n (i := 2) 2 dX13_measure_13 rfl rfl ?_
    refine eg_if_lt 81 dX13_measure_14 rfl (fun c7 => ?_) (fun c7 => ?_)
    · replace hF := eg_it c7 hF
      refine eg_iconst (v := (-1 : Int32)) dX13_measure_81 (by decide) ?_
      exact eg_iretE dX13_measure_82 hF
    · replace hF := eg_if c7 hF
      refine eg_iload_n (i := 2) 2 dX13_measure_17 rfl rfl ?_
      refine eg_bipush (v := (100 : Int32)) dX13_measure_18 (by decide) ?_
      refine eg_idiv dX13_measure_20 (by decide) ?_
      refine eg_i2l dX13_measure_21 ?_
      refine eg_lconst (v := (1 : Int64)) dX13_measure_22 (by decide) ?_
      refine eg_ldc2 (v := (60 : Int64)) dX13_measure_23 ew_1912 ?_
      replace hF := eg_bind hF; obtain ⟨⟨v9, h8⟩, e10, hF⟩ := hF
      refine eg_callS (n := 3) [.long ((l2 / (100 : Int32)).toInt64), .long (1 : Int64), .long (60 : Int64)] dX13_measure_26 (mX13_isIn e10) rfl ew_1697 ew_1698 ew_110 ew_1699 hy_X13_isIn.2 rfl (Nat.le_of_ble_eq_true rfl) (Nat.le_of_ble_eq_true rfl) (Nat.le_of_ble_eq_true rfl) ?_
      refine eg_if_eq 81 dX13_measure_29 rfl (fun c11 => ?_) (fun c11 => ?_)
      · replace hF := eg_it c11 hF
        refine eg_iconst (v := (-1 : Int32)) dX13_measure_81 (by decide) ?_
        exact eg_iretE dX13_measure_82 hF
      · replace hF := eg_if c11 hF
        refine eg_iload_n (i := 2) 2 dX13_measure_32 rfl rfl ?_
        refine eg_bipush (v := (10 : Int32)) dX13_measure_33 (by decide) ?_
        refine eg_irem dX13_measure_35 (by decide) ?_
        refine eg_i2l dX13_measure_36 ?_
        refine eg_lconst (v := (0 : Int64)) dX13_measure_37 (by decide) ?_
        refine eg_lconst (v := (1 : Int64)) dX13_measure_38 (by decide) ?_
        replace hF := eg_bind hF; obtain ⟨⟨v13, h12⟩, e14, hF⟩ := hF
        refine eg_callS (n := 3) [.long ((l2 % (10 : Int32)).toInt64), .long (0 : Int64), .long (1 : Int64)] dX13_measure_39 (mX13_isIn e14) rfl ew_1697 ew_1698 ew_110 ew_1699 hy_X13_isIn.2 rfl (Nat.le_of_ble_eq_true rfl) (Nat.le_of_ble_eq_true rfl) (Nat.le_of_ble_eq_true rfl) ?_
        refine eg_if_eq 81 dX13_measure_42 rfl (fun c15 => ?_) (fun c15 => ?_)
        · replace hF := eg_it c15 hF
          refine eg_iconst (v := (-1 : Int32)) dX13_measure_81 (by decide) ?_
          exact eg_iretE dX13_measure_82 hF
        · replace hF := eg_if c15 hF
          refine eg_iload_n (i := 3) 3 dX13_measure_45 rfl rfl ?_
          refine eg_i2l dX13_measure_46 ?_
          refine eg_ldc2 (v := (-99 : Int64)) dX13_measure_47 ew_1914 ?_
          refine eg_ldc2 (v := (99 : Int64)) dX13_measure_50 ew_1915 ?_
          replace hF := eg_bind hF; obtain ⟨⟨v17, h16⟩, e18, hF⟩ := hF
          refine eg_callS (n := 3) [.long l3.toInt64, .long (-99 : Int64), .long (99 : Int64)] dX13_measure_53 (mX13_isIn e18) rfl ew_1697 ew_1698 ew_110 ew_1699 hy_X13_isIn.2 rfl (Nat.le_of_ble_eq_true rfl) (Nat.le_of_ble_eq_true rfl) (Nat.le_of_ble_eq_true rfl) ?_
          refine eg_if_eq 81 dX13_measure_56 rfl (fun c19 => ?_) (fun c19 => ?_)
          · replace hF := eg_it c19 hF
            refine eg_iconst (v := (-1 : Int32)) dX13_measure_81 (by decide) ?_
            exact eg_iretE dX13_measure_82 hF
          · replace hF := eg_if c19 hF
            refine eg_iload (i := 4) 4 dX13_measure_59 rfl ?_
            refine eg_i2l dX13_measure_61 ?_
            refine eg_lconst (v := (0 : Int64)) dX13_measure_62 (by decide) ?_
            refine eg_ldc2 (v := (999 : Int64)) dX13_measure_63 ew_2015 ?_
            replace hF := eg_bind hF; obtain ⟨⟨v21, h20⟩, e22, hF⟩ := hF
            refine eg_callS (n := 3) [.long l4.toInt64, .long (0 : Int64), .long (999 : Int64)] dX13_measure_66 (mX13_isIn e22) rfl ew_1697 ew_1698 ew_110 ew_1699 hy_X13_isIn.2 rfl (Nat.le_of_ble_eq_true rfl) (Nat.le_of_ble_eq_true rfl) (Nat.le_of_ble_eq_true rfl) ?_
            refine eg_if_eq 81 dX13_measure_69 rfl (fun c23 => ?_) (fun c23 => ?_)
            · replace hF := eg_it c23 hF
              refine eg_iconst (v := (-1 : Int32)) dX13_measure_81 (by decide) ?_
              exact eg_iretE dX13_measure_82 hF
            · replace hF := eg_if c23 hF
              refine eg_aload_n (i := 0) 0 dX13_measure_72 rfl rfl ?_
              replace hF := eg_bind hF; obtain ⟨v24, e25, hF⟩ := hF
              refine eg_getI dX13_measure_73 e25 (Nat.le_of_ble_eq_true rfl) (Nat.le_of_ble_eq_true rfl) rfl ew_1499 ?_
              refine eg_bipush (v := (20 : Int32)) dX13_measure_76 (by decide) ?_
              refine eg_ic_ne 83 dX13_measure_78 rfl (fun c26 => ?_) (fun c26 => ?_)
              · replace hF := eg_it c26 hF
                refine eg_iconst (v := (-1 : Int32)) dX13_measure_81 (by decide) ?_
                exact eg_iretE dX13_measure_82 hF
              · replace hF := eg_if c26 hF
                refine eg_aload_n (i := 0) 0 dX13_measure_83 rfl rfl ?_
                replace hF := eg_bind hF; obtain ⟨p27, e28, hF⟩ := hF
                refine eg_getR dX13_measure_84 e28 (Nat.le_of_ble_eq_true rfl) (Nat.le_of_ble_eq_true rfl) rfl ew_1495 ?_
                refine eg_aload_n (i := 0) 0 dX13_measure_87 rfl rfl ?_
                replace hF := eg_bind hF; obtain ⟨v29, e30, hF⟩ := hF
                refine eg_getI dX13_measure_88 e30 (Nat.le_of_ble_eq_true rfl) (Nat.le_of_ble_eq_true rfl) rfl ew_1499 ?_
                refine eg_iload_n (i := 1) 1 dX13_measure_91 rfl rfl ?_
                replace hF := eg_bind hF; obtain ⟨h31, e32, hF⟩ := hF
                refine eg_iast dX13_measure_92 e32 ?_
                refine eg_aload_n (i := 0) 0 dX13_measure_93 rfl rfl ?_
                replace hF := eg_bind hF; obtain ⟨p33, e34, hF⟩ := hF
                refine eg_getR dX13_measure_94 e34 (Nat.le_of_ble_eq_true rfl) (Nat.le_of_ble_eq_true rfl) rfl ew_1496 ?_
                refine eg_aload_n (i := 0) 0 dX13_measure_97 rfl rfl ?_
                replace hF := eg_bind hF; obtain ⟨v35, e36, hF⟩ := hF
                refine eg_getI dX13_measure_98 e36 (Nat.le_of_ble_eq_true rfl) (Nat.le_of_ble_eq_true rfl) rfl ew_1499 ?_
                refine eg_iload_n (i := 2) 2 dX13_measure_101 rfl rfl ?_
                replace hF := eg_bind hF; obtain ⟨h37, e38, hF⟩ := hF
                refine eg_iast dX13_measure_102 e38 ?_
                refine eg_aload_n (i := 0) 0 dX13_measure_103 rfl rfl ?_
                replace hF := eg_bind hF; obtain ⟨p39, e40, hF⟩ := hF
                refine eg_getR dX13_measure_104 e40 (Nat.le_of_ble_eq_true rfl) (Nat.le_of_ble_eq_true rfl) rfl ew_1497 ?_
                refine eg_aload_n (i := 0) 0 dX13_measure_107 rfl rfl ?_
                replace hF := eg_bind hF; obtain ⟨v41, e42, hF⟩ := hF
                refine eg_getI dX13_measure_108 e42 (Nat.le_of_ble_eq_true rfl) (Nat.le_of_ble_eq_true rfl) rfl ew_1499 ?_
                refine eg_iload_n (i := 3) 3 dX13_measure_111 rfl rfl ?_
                replace hF := eg_bind hF; obtain ⟨h43, e44, hF⟩ := hF
                refine eg_iast dX13_measure_112 e44 ?_
                refine eg_aload_n (i := 0) 0 dX13_measure_113 rfl rfl ?_
                replace hF := eg_bind hF; obtain ⟨p45, e46, hF⟩ := hF
                refine eg_getR dX13_measure_114 e46 (Nat.le_of_ble_eq_true rfl) (Nat.le_of_ble_eq_true rfl) rfl ew_1498 ?_
                refine eg_aload_n (i := 0) 0 dX13_measure_117 rfl rfl ?_
                replace hF := eg_bind hF; obtain ⟨v47, e48, hF⟩ := hF
                refine eg_getI dX13_measure_118 e48 (Nat.le_of_ble_eq_true rfl) (Nat.le_of_ble_eq_true rfl) rfl ew_1499 ?_
                refine eg_iload (i := 4) 4 dX13_measure_121 rfl ?_
                replace hF := eg_bind hF; obtain ⟨h49, e50, hF⟩ := hF
                refine eg_iast dX13_measure_123 e50 ?_
                refine eg_aload_n (i := 0) 0 dX13_measure_124 rfl rfl ?_
                refine eg_dup dX13_measure_125 rfl ?_
                replace hF := eg_bind hF; obtain ⟨v51, e52, hF⟩ := hF
                refine eg_getI dX13_measure_126 e52 (Nat.le_of_ble_eq_true rfl) (Nat.le_of_ble_eq_true rfl) rfl ew_1499 ?_
                refine eg_iconst (v := (1 : Int32)) dX13_measure_129 (by decide) ?_
                refine eg_iadd dX13_measure_130 ?_
                replace hF := eg_bind hF; obtain ⟨h53, e54, hF⟩ := hF
                refine eg_putI dX13_measure_131 e54 (Nat.le_of_ble_eq_true rfl) (Nat.le_of_ble_eq_true rfl) rfl ew_1499 (Or.inl rfl) ?_
                refine eg_aload_n (i := 0) 0 dX13_measure_134 rfl rfl ?_
                replace hF := eg_bind hF; obtain ⟨v55, e56, hF⟩ := hF
                refine eg_getI dX13_measure_135 e56 (Nat.le_of_ble_eq_true rfl) (Nat.le_of_ble_eq_true rfl) rfl ew_1499 ?_
                exact eg_iretE dX13_measure_138 hF
theorem dX13_held_0 : decode cX13_held 0 = .ok (.aload_n 0, 1) := by decide +kernel
theorem dX13_held_1 : decode cX13_held 1 = .ok (.iconst 0, 1) := by decide +kernel
theorem dX13_held_2 : decode cX13_held 2 = .ok (.putfield 148, 3) := by decide +kernel
theorem dX13_held_5 : decode cX13_held 5 = .ok (.aload_n 0, 1) := by decide +kernel
theorem dX13_held_6 : decode cX13_held 6 = .ok (.getfield 335, 3) := by decide +kernel
theorem dX13_held_9 : decode cX13_held 9 = .ok (.ifCond .ne 5, 3) := by decide +kernel
theorem dX13_held_12 : decode cX13_held 12 = .ok (.iconst (-1), 1) := by decide +kernel
theorem dX13_held_13 : decode cX13_held 13 = .ok (.ireturn, 1) := by decide +kernel
theorem dX13_held_14 : decode cX13_held 14 = .ok (.aload_n 0, 1) := by decide +kernel
theorem dX13_held_15 : decode cX13_held 15 = .ok (.getfield 64, 3) := by decide +kernel
theorem dX13_held_18 : decode cX13_held 18 = .ok (.istore_n 1, 1) := by decide +kernel
theorem dX13_held_19 : decode cX13_held 19 = .ok (.iconst 0, 1) := by decide +kernel
theorem dX13_held_20 : decode cX13_held 20 = .ok (.istore_n 2, 1) := by decide +kernel
theorem dX13_held_21 : decode cX13_held 21 = .ok (.iconst (-1), 1) := by decide +kernel
theorem dX13_held_22 : decode cX13_held 22 = .ok (.istore_n 3, 1) := by decide +kernel
theorem dX13_held_23 : decode cX13_held 23 = .ok (.iload_n 3, 1) := by decide +kernel
theorem dX13_held_24 : decode cX13_held 24 = .ok (.aload_n 0, 1) := by decide +kernel
theorem dX13_held_25 : decode cX13_held 25 = .ok (.getfield 327, 3) := by decide +kernel
theorem dX13_held_28 : decode cX13_held 28 = .ok (.if_icmp .ge 132, 3) := by decide +kernel
theorem dX13_held_31 : decode cX13_held 31 = .ok (.aload_n 0, 1) := by decide +kernel
theorem dX13_held_32 : decode cX13_held 32 = .ok (.iload_n 3, 1) := by decide +kernel
theorem dX13_held_33 : decode cX13_held 33 = .ok (.putfield 64, 3) := by decide +kernel
theorem dX13_held_36 : decode cX13_held 36 = .ok (.iconst 1, 1) := by decide +kernel
theorem dX13_held_37 : decode cX13_held 37 = .ok (.istore 4, 2) := by decide +kernel
theorem dX13_held_39 : decode cX13_held 39 = .ok (.iconst 0, 1) := by decide +kernel
theorem dX13_held_40 : decode cX13_held 40 = .ok (.istore 5, 2) := by decide +kernel
theorem dX13_held_42 : decode cX13_held 42 = .ok (.iload 5, 2) := by decide +kernel
theorem dX13_held_44 : decode cX13_held 44 = .ok (.aload_n 0, 1) := by decide +kernel
theorem dX13_held_45 : decode cX13_held 45 = .ok (.getfield 344, 3) := by decide +kernel
theorem dX13_held_48 : decode cX13_held 48 = .ok (.if_icmp .ge 82, 3) := by decide +kernel
theorem dX13_held_51 : decode cX13_held 51 = .ok (.iload 4, 2) := by decide +kernel
theorem dX13_held_53 : decode cX13_held 53 = .ok (.ifCond .eq 68, 3) := by decide +kernel
theorem dX13_held_56 : decode cX13_held 56 = .ok (.aload_n 0, 1) := by decide +kernel
theorem dX13_held_57 : decode cX13_held 57 = .ok (.aload_n 0, 1) := by decide +kernel
theorem dX13_held_58 : decode cX13_held 58 = .ok (.getfield 112, 3) := by decide +kernel
theorem dX13_held_61 : decode cX13_held 61 = .ok (.iload 5, 2) := by decide +kernel
theorem dX13_held_63 : decode cX13_held 63 = .ok (.iaload, 1) := by decide +kernel
theorem dX13_held_64 : decode cX13_held 64 = .ok (.aload_n 0, 1) := by decide +kernel
theorem dX13_held_65 : decode cX13_held 65 = .ok (.getfield 115, 3) := by decide +kernel
theorem dX13_held_68 : decode cX13_held 68 = .ok (.iload 5, 2) := by decide +kernel
theorem dX13_held_70 : decode cX13_held 70 = .ok (.iaload, 1) := by decide +kernel
theorem dX13_held_71 : decode cX13_held 71 = .ok (.bipush 10, 2) := by decide +kernel
theorem dX13_held_73 : decode cX13_held 73 = .ok (.irem, 1) := by decide +kernel
theorem dX13_held_74 : decode cX13_held 74 = .ok (.aload_n 0, 1) := by decide +kernel
theorem dX13_held_75 : decode cX13_held 75 = .ok (.getfield 115, 3) := by decide +kernel
theorem dX13_held_78 : decode cX13_held 78 = .ok (.iload 5, 2) := by decide +kernel
theorem dX13_held_80 : decode cX13_held 80 = .ok (.iaload, 1) := by decide +kernel
theorem dX13_held_81 : decode cX13_held 81 = .ok (.bipush 100, 2) := by decide +kernel
theorem dX13_held_83 : decode cX13_held 83 = .ok (.idiv, 1) := by decide +kernel
theorem dX13_held_84 : decode cX13_held 84 = .ok (.aload_n 0, 1) := by decide +kernel
theorem dX13_held_85 : decode cX13_held 85 = .ok (.getfield 115, 3) := by decide +kernel
theorem dX13_held_88 : decode cX13_held 88 = .ok (.iload 5, 2) := by decide +kernel
theorem dX13_held_90 : decode cX13_held 90 = .ok (.iaload, 1) := by decide +kernel
theorem dX13_held_91 : decode cX13_held 91 = .ok (.bipush 10, 2) := by decide +kernel
theorem dX13_held_93 : decode cX13_held 93 = .ok (.idiv, 1) := by decide +kernel
theorem dX13_held_94 : decode cX13_held 94 = .ok (.bipush 10, 2) := by decide +kernel
theorem dX13_held_96 : decode cX13_held 96 = .ok (.irem, 1) := by decide +kernel
theorem dX13_held_97 : decode cX13_held 97 = .ok (.aload_n 0, 1) := by decide +kernel
theorem dX13_held_98 : decode cX13_held 98 = .ok (.getfield 118, 3) := by decide +kernel
theorem dX13_held_101 : decode cX13_held 101 = .ok (.iload 5, 2) := by decide +kernel
theorem dX13_held_103 : decode cX13_held 103 = .ok (.iaload, 1) := by decide +kernel
theorem dX13_held_104 : decode cX13_held 104 = .ok (.invokevirtual 388, 3) := by decide +kernel
theorem dX13_held_107 : decode cX13_held 107 = .ok (.aload_n 0, 1) := by decide +kernel
theorem dX13_held_108 : decode cX13_held 108 = .ok (.getfield 121, 3) := by decide +kernel
theorem dX13_held_111 : decode cX13_held 111 = .ok (.iload 5, 2) := by decide +kernel
theorem dX13_held_113 : decode cX13_held 113 = .ok (.iaload, 1) := by decide +kernel
theorem dX13_held_114 : decode cX13_held 114 = .ok (.if_icmp .ne 7, 3) := by decide +kernel
theorem dX13_held_117 : decode cX13_held 117 = .ok (.iconst 1, 1) := by decide +kernel
theorem dX13_held_118 : decode cX13_held 118 = .ok (.goto 4, 3) := by decide +kernel
theorem dX13_held_121 : decode cX13_held 121 = .ok (.iconst 0, 1) := by decide +kernel
theorem dX13_held_122 : decode cX13_held 122 = .ok (.istore 4, 2) := by decide +kernel
theorem dX13_held_124 : decode cX13_held 124 = .ok (.iinc 5 1, 3) := by decide +kernel
theorem dX13_held_127 : decode cX13_held 127 = .ok (.goto (-85), 3) := by decide +kernel
theorem dX13_held_130 : decode cX13_held 130 = .ok (.iload_n 2, 1) := by decide +kernel
theorem dX13_held_131 : decode cX13_held 131 = .ok (.iload 4, 2) := by decide +kernel
theorem dX13_held_133 : decode cX13_held 133 = .ok (.ifCond .eq 18, 3) := by decide +kernel
theorem dX13_held_136 : decode cX13_held 136 = .ok (.iconst 1, 1) := by decide +kernel
theorem dX13_held_137 : decode cX13_held 137 = .ok (.iload_n 3, 1) := by decide +kernel
theorem dX13_held_138 : decode cX13_held 138 = .ok (.iconst (-1), 1) := by decide +kernel
theorem dX13_held_139 : decode cX13_held 139 = .ok (.if_icmp .ne 7, 3) := by decide +kernel
theorem dX13_held_142 : decode cX13_held 142 = .ok (.iconst 4, 1) := by decide +kernel
theorem dX13_held_143 : decode cX13_held 143 = .ok (.goto 4, 3) := by decide +kernel
theorem dX13_held_146 : decode cX13_held 146 = .ok (.iload_n 3, 1) := by decide +kernel
theorem dX13_held_147 : decode cX13_held 147 = .ok (.ishl, 1) := by decide +kernel
theorem dX13_held_148 : decode cX13_held 148 = .ok (.goto 4, 3) := by decide +kernel
theorem dX13_held_151 : decode cX13_held 151 = .ok (.iconst 0, 1) := by decide +kernel
theorem dX13_held_152 : decode cX13_held 152 = .ok (.ior, 1) := by decide +kernel
theorem dX13_held_153 : decode cX13_held 153 = .ok (.istore_n 2, 1) := by decide +kernel
theorem dX13_held_154 : decode cX13_held 154 = .ok (.iinc 3 1, 3) := by decide +kernel
theorem dX13_held_157 : decode cX13_held 157 = .ok (.goto (-134), 3) := by decide +kernel
theorem dX13_held_160 : decode cX13_held 160 = .ok (.aload_n 0, 1) := by decide +kernel
theorem dX13_held_161 : decode cX13_held 161 = .ok (.iload_n 1, 1) := by decide +kernel
theorem dX13_held_162 : decode cX13_held 162 = .ok (.putfield 64, 3) := by decide +kernel
theorem dX13_held_165 : decode cX13_held 165 = .ok (.iload_n 2, 1) := by decide +kernel
theorem dX13_held_166 : decode cX13_held 166 = .ok (.ireturn, 1) := by decide +kernel
def fX13_held_L42 : Nat → eg_H → Nat → Int32 → Int32 → Int32 → Int32 → Int32 → Option (Nat × Int32 × Int32 × Int32 × Int32 × eg_H)
  | 0, _, _, _, _, _, _, _ => none
  | n + 1, h, l0, l1, l2, l3, l4, l5 =>
    (eg_gI h 13 65 l0).bind fun v1 =>
    if v1 ≤ l5 then
      (some (l0, l1, l2, l3, l4, h))
    else
      if l4 = 0 then
        (fX13_held_L42 n h l0 l1 l2 l3 (0 : Int32) (l5 + (1 : Int32)))
      else
        (eg_gR h 13 61 l0).bind fun p5 =>
        (eg_aI h 100 p5 l5).bind fun v7 =>
        (eg_gR h 13 62 l0).bind fun p9 =>
        (eg_aI h 100 p9 l5).bind fun v11 =>
        (eg_gR h 13 62 l0).bind fun p13 =>
        (eg_aI h 100 p13 l5).bind fun v15 =>
        (eg_gR h 13 62 l0).bind fun p17 =>
        (eg_aI h 100 p17 l5).bind fun v19 =>
        (eg_gR h 13 63 l0).bind fun p21 =>
        (eg_aI h 100 p21 l5).bind fun v23 =>
        (fX13_forceOf h l0 v7 (v11 % (10 : Int32)) (v15 / (100 : Int32)) ((v19 / (10 : Int32)) % (10 : Int32)) v23).bind fun ⟨v26, h25⟩ =>
        (eg_gR h25 13 64 l0).bind fun p28 =>
        (eg_aI h25 100 p28 l5).bind fun v30 =>
        if v26 = v30 then
          (fX13_held_L42 n h25 l0 l1 l2 l3 (1 : Int32) (l5 + (1 : Int32)))
        else
          fX13_held_L42 n h25 l0 l1 l2 l3 (0 : Int32) (l5 + (1 : Int32))
set_option maxRecDepth 20000 in
theorem fX13_held_L42_ok {h0 : eg_H} {Z : eg_C → State → Prop} {N S : Nat} : ∀ (n : Nat) (h : eg_H) (l0 : Nat) (l1 : Int32) (l2 : Int32) (l3 : Int32) (l4 : Int32) (l5 : Int32) (eE : Nat × Int32 × Int32 × Int32 × Int32 × eg_H), fX13_held_L42 n h l0 l1 l2 l3 l4 l5 = some eE → (hk0 : ∀ (l0 : Nat) (l1 : Int32) (l2 : Int32) (l3 : Int32) (l4 : Int32) (h : eg_H), eE = (l0, l1, l2, l3, l4, h) → eg_AW (RX13, cX13_held, 6, 396, none, "held", (some .int)) Z N S h0 130 [(0, .ref l0), (1, .int l1), (2, .int l2), (3, .int l3), (4, .int l4)] [] h) → eg_AW (RX13, cX13_held, 6, 396, none, "held", (some .int)) Z N S h0 42 [(0, .ref l0), (1, .int l1), (2, .int l2), (3, .int l3), (4, .int l4), (5, .int l5)] [] h := by
  intro n
  induction n with
  | zero => intro h l0 l1 l2 l3 l4 l5 eE hF; exact absurd hF (by intro q; cases q)
  | succ n ih =>
    intro h l0 l1 l2 l3 l4 l5 eE hF hk0
    have hrec := fun (h' : eg_H) (l0 : Nat) (l1 : Int32) (l2 : Int32) (l3 : Int32) (l4 : Int32) (l5 : Int32) hq => ih h' l0 l1 l2 l3 l4 l5 eE hq hk0
    refine eg_iload (i := 5) 5 dX13_held_42 rfl ?_
    refine eg_aload_n (i := 0) 0 dX13_held_44 rfl rfl ?_
    replace hF := eg_bind hF; obtain ⟨v1, e2, hF⟩ := hF
    refine eg_getI dX13_held_45 e2 (Nat.le_of_ble_eq_true rfl) (Nat.le_of_ble_eq_true rfl) rfl ew_1499 ?_
    refine eg_ic_ge 130 dX13_held_48 rfl (fun c3 => ?_) (fun c3 => ?_)
    · replace hF := eg_it c3 hF
      exact eg_sub [0, 1, 2, 3, 4] [(0, .ref l0), (1, .int l1), (2, .int l2), (3, .int l3), (4, .int l4)] rfl (hk0 l0 l1 l2 l3 l4 h (Option.some.inj hF).symm)
    · replace hF := eg_if c3 hF
      refine eg_iload (i := 4) 4 dX13_held_51 rfl ?_
      refine eg_if_eq 121 dX13_held_53 rfl (fun c4 => ?_) (fun c4 => ?_)
      · replace hF := eg_it c4 hF
        refine eg_iconst (v := (0 : Int32)) dX13_held_121 (by decide) ?_
        refine eg_istore (i := 4) [(4, .int (0 : Int32)), (0, .ref l0), (1, .int l1), (2, .int l2), (3, .int l3), (5, .int l5)] dX13_held_122 (Nat.le_of_ble_eq_true rfl) rfl ?_
        refine eg_iinc (i := 5) (v := (l5 + (1 : Int32))) 5 [(5, .int (l5 + (1 : Int32))), (4, .int (0 : Int32)), (0, .ref l0), (1, .int l1), (2, .int l2), (3, .int l3)] dX13_held_124 rfl rfl (Nat.le_of_ble_eq_true rfl) rfl ?_
        refine eg_goto 42 dX13_held_127 rfl ?_
        exact eg_sub [2, 3, 4, 5, 1, 0] [(0, .ref l0), (1, .int l1), (2, .int l2), (3, .int l3), (4, .int (0 : Int32)), (5, .int (l5 + (1 : Int32)))] rfl (hrec h l0 l1 l2 l3 (0 : Int32) (l5 + (1 : Int32)) hF)
      · replace hF := eg_if c4 hF
        refine eg_aload_n (i := 0) 0 dX13_held_56 rfl rfl ?_
        refine eg_aload_n (i := 0) 0 dX13_held_57 rfl rfl ?_
        replace hF := eg_bind hF; obtain ⟨p5, e6, hF⟩ := hF
        refine eg_getR dX13_held_58 e6 (Nat.le_of_ble_eq_true rfl) (Nat.le_of_ble_eq_true rfl) rfl ew_1495 ?_
        refine eg_iload (i := 5) 5 dX13_held_61 rfl ?_
        replace hF := eg_bind hF; obtain ⟨v7, e8, hF⟩ := hF
        refine eg_iald dX13_held_63 e8 ?_
        refine eg_aload_n (i := 0) 0 dX13_held_64 rfl rfl ?_
        replace hF := eg_bind hF; obtain ⟨p9, e10, hF⟩ := hF
        refine eg_getR dX13_held_65 e10 (Nat.le_of_ble_eq_true rfl) (Nat.le_of_ble_eq_true rfl) rfl ew_1496 ?_
        refine eg_iload (i := 5) 5 dX13_held_68 rfl ?_
        replace hF := eg_bind hF; obtain ⟨v11, e12, hF⟩ := hF
        refine eg_iald dX13_held_70 e12 ?_
        refine eg_bipush (v := (10 : Int32)) dX13_held_71 (by decide) ?_
        refine eg_irem dX13_held_73 (by decide) ?_
        refine eg_aload_n (i := 0) 0 dX13_held_74 rfl rfl ?_
        replace hF := eg_bind hF; obtain ⟨p13, e14, hF⟩ := hF
        refine eg_getR dX13_held_75 e14 (Nat.le_of_ble_eq_true rfl) (Nat.le_of_ble_eq_true rfl) rfl ew_1496 ?_
        refine eg_iload (i := 5) 5 dX13_held_78 rfl ?_
        replace hF := eg_bind hF; obtain ⟨v15, e16, hF⟩ := hF
        refine eg_iald dX13_held_80 e16 ?_
        refine eg_bipush (v := (100 : Int32)) dX13_held_81 (by decide) ?_
        refine eg_idiv dX13_held_83 (by decide) ?_
        refine eg_aload_n (i := 0) 0 dX13_held_84 rfl rfl ?_
        replace hF := eg_bind hF; obtain ⟨p17, e18, hF⟩ := hF
        refine eg_getR dX13_held_85 e18 (Nat.le_of_ble_eq_true rfl) (Nat.le_of_ble_eq_true rfl) rfl ew_1496 ?_
        refine eg_iload (i := 5) 5 dX13_held_88 rfl ?_
        replace hF := eg_bind hF; obtain ⟨v19, e20, hF⟩ := hF
        refine eg_iald dX13_held_90 e20 ?_
        refine eg_bipush (v := (10 : Int32)) dX13_held_91 (by decide) ?_
        refine eg_idiv dX13_held_93 (by decide) ?_
        refine eg_bipush (v := (10 : Int32)) dX13_held_94 (by decide) ?_
        refine eg_irem dX13_held_96 (by decide) ?_
        refine eg_aload_n (i := 0) 0 dX13_held_97 rfl rfl ?_
        replace hF := eg_bind hF; obtain ⟨p21, e22, hF⟩ := hF
        refine eg_getR dX13_held_98 e22 (Nat.le_of_ble_eq_true rfl) (Nat.le_of_ble_eq_true rfl) rfl ew_1497 ?_
        refine eg_iload (i := 5) 5 dX13_held_101 rfl ?_
        replace hF := eg_bind hF; obtain ⟨v23, e24, hF⟩ := hF
        refine eg_iald dX13_held_103 e24 ?_
        replace hF := eg_bind hF; obtain ⟨⟨v26, h25⟩, e27, hF⟩ := hF
        refine eg_callV (c := 13) (n := 5) [.int v7, .int (v11 % (10 : Int32)), .int (v15 / (100 : Int32)), .int ((v19 / (10 : Int32)) % (10 : Int32)), .int v23] dX13_held_104 (mX13_forceOf e27) rfl (fX13_forceOf_O e27) (Nat.le_of_ble_eq_true rfl) rfl ew_1916 ew_1918 ew_75 ew_110 ew_1919 hy_X13_forceOf rfl (Nat.le_of_ble_eq_true rfl) (Nat.le_of_ble_eq_true rfl) (Nat.le_of_ble_eq_true rfl) ?_
        refine eg_aload_n (i := 0) 0 dX13_held_107 rfl rfl ?_
        replace hF := eg_bind hF; obtain ⟨p28, e29, hF⟩ := hF
        refine eg_getR dX13_held_108 e29 (Nat.le_of_ble_eq_true rfl) (Nat.le_of_ble_eq_true rfl) rfl ew_1498 ?_
        refine eg_iload (i := 5) 5 dX13_held_111 rfl ?_
        replace hF := eg_bind hF; obtain ⟨v30, e31, hF⟩ := hF
        refine eg_iald dX13_held_113 e31 ?_
        refine eg_ic_ne 121 dX13_held_114 rfl (fun c32 => ?_) (fun c32 => ?_)
        · replace hF := eg_it c32 hF
          refine eg_iconst (v := (1 : Int32)) dX13_held_117 (by decide) ?_
          refine eg_goto 122 dX13_held_118 rfl ?_
          refine eg_istore (i := 4) [(4, .int (1 : Int32)), (0, .ref l0), (1, .int l1), (2, .int l2), (3, .int l3), (5, .int l5)] dX13_held_122 (Nat.le_of_ble_eq_true rfl) rfl ?_
          refine eg_iinc (i := 5) (v := (l5 + (1 : Int32))) 5 [(5, .int (l5 + (1 : Int32))), (4, .int (1 : Int32)), (0, .ref l0), (1, .int l1), (2, .int l2), (3, .int l3)] dX13_held_124 rfl rfl (Nat.le_of_ble_eq_true rfl) rfl ?_
          refine eg_goto 42 dX13_held_127 rfl ?_
          exact eg_sub [2, 3, 4, 5, 1, 0] [(0, .ref l0), (1, .int l1), (2, .int l2), (3, .int l3), (4, .int (1 : Int32)), (5, .int (l5 + (1 : Int32)))] rfl (hrec h25 l0 l1 l2 l3 (1 : Int32) (l5 + (1 : Int32)) hF)
        · replace hF := eg_if c32 hF
          refine eg_iconst (v := (0 : Int32)) dX13_held_121 (by decide) ?_
          refine eg_istore (i := 4) [(4, .int (0 : Int32)), (0, .ref l0), (1, .int l1), (2, .int l2), (3, .int l3), (5, .int l5)] dX13_held_122 (Nat.le_of_ble_eq_true rfl) rfl ?_
          refine eg_iinc (i := 5) (v := (l5 + (1 : Int32))) 5 [(5, .int (l5 + (1 : Int32))), (4, .int (0 : Int32)), (0, .ref l0), (1, .int l1), (2, .int l2), (3, .int l3)] dX13_held_124 rfl rfl (Nat.le_of_ble_eq_true rfl) rfl ?_
          refine eg_goto 42 dX13_held_127 rfl ?_
          exact eg_sub [2, 3, 4, 5, 1, 0] [(0, .ref l0), (1, .int l1), (2, .int l2), (3, .int l3), (4, .int (0 : Int32)), (5, .int (l5 + (1 : Int32)))] rfl (hrec h25 l0 l1 l2 l3 (0 : Int32) (l5 + (1 : Int32)) hF)
def fX13_held_L23 : Nat → eg_H → Nat → Int32 → Int32 → Int32 → Option (Nat × Int32 × Int32 × eg_H)
  | 0, _, _, _, _, _ => none
  | n + 1, h, l0, l1, l2, l3 =>
    (eg_gI h 13 7 l0).bind fun v1 =>
    if v1 ≤ l3 then
      (some (l0, l1, l2, h))
    else
      (eg_pI h 13 34 l0 l3).bind fun h4 =>
      (fX13_held_L42 eg_F h4 l0 l1 l2 l3 (1 : Int32) (0 : Int32)).bind fun e =>
      match e with
      | (p8, v9, v10, v11, v12, h13) =>
        if v12 = 0 then
          ((some ((v10 ||| (0 : Int32)))).bind fun v15 =>
          fX13_held_L23 n h13 p8 v9 v15 (v11 + (1 : Int32)))
        else
          if v11 = (-1 : Int32) then
            ((some ((v10 ||| ((1 : Int32) <<< ((4 : Int32) &&& 31))))).bind fun v18 =>
            fX13_held_L23 n h13 p8 v9 v18 (v11 + (1 : Int32)))
          else
            (some ((v10 ||| ((1 : Int32) <<< (v11 &&& 31))))).bind fun v20 =>
            fX13_held_L23 n h13 p8 v9 v20 (v11 + (1 : Int32))
set_option maxRecDepth 20000 in
theorem fX13_held_L23_ok {h0 : eg_H} {Z : eg_C → State → Prop} {N S : Nat} : ∀ (n : Nat) (h : eg_H) (l0 : Nat) (l1 : Int32) (l2 : Int32) (l3 : Int32) (eE : Nat × Int32 × Int32 × eg_H), fX13_held_L23 n h l0 l1 l2 l3 = some eE → (hk0 : ∀ (l0 : Nat) (l1 : Int32) (l2 : Int32) (h : eg_H), eE = (l0, l1, l2, h) → eg_AW (RX13, cX13_held, 6, 396, none, "held", (some .int)) Z N S h0 160 [(0, .ref l0), (1, .int l1), (2, .int l2)] [] h) → eg_AW (RX13, cX13_held, 6, 396, none, "held", (some .int)) Z N S h0 23 [(0, .ref l0), (1, .int l1), (2, .int l2), (3, .int l3)] [] h := by
  intro n
  induction n with
  | zero => intro h l0 l1 l2 l3 eE hF; exact absurd hF (by intro q; cases q)
  | succ n ih =>
    intro h l0 l1 l2 l3 eE hF hk0
    have hrec := fun (h' : eg_H) (l0 : Nat) (l1 : Int32) (l2 : Int32) (l3 : Int32) hq => ih h' l0 l1 l2 l3 eE hq hk0
    refine eg_iload_n (i := 3) 3 dX13_held_23 rfl rfl ?_
    refine eg_aload_n (i := 0) 0 dX13_held_24 rfl rfl ?_
    replace hF := eg_bind hF; obtain ⟨v1, e2, hF⟩ := hF
    refine eg_getI dX13_held_25 e2 (Nat.le_of_ble_eq_true rfl) (Nat.le_of_ble_eq_true rfl) rfl ew_1441 ?_
    refine eg_ic_ge 160 dX13_held_28 rfl (fun c3 => ?_) (fun c3 => ?_)
    · replace hF := eg_it c3 hF
      exact eg_sub [0, 1, 2] [(0, .ref l0), (1, .int l1), (2, .int l2)] rfl (hk0 l0 l1 l2 h (Option.some.inj hF).symm)
    · replace hF := eg_if c3 hF
      refine eg_aload_n (i := 0) 0 dX13_held_31 rfl rfl ?_
      refine eg_iload_n (i := 3) 3 dX13_held_32 rfl rfl ?_
      replace hF := eg_bind hF; obtain ⟨h4, e5, hF⟩ := hF
      refine eg_putI dX13_held_33 e5 (Nat.le_of_ble_eq_true rfl) (Nat.le_of_ble_eq_true rfl) rfl ew_1468 (Or.inl rfl) ?_
      refine eg_iconst (v := (1 : Int32)) dX13_held_36 (by decide) ?_
      refine eg_istore (i := 4) [(4, .int (1 : Int32)), (0, .ref l0), (1, .int l1), (2, .int l2), (3, .int l3)] dX13_held_37 (Nat.le_of_ble_eq_true rfl) rfl ?_
      refine eg_iconst (v := (0 : Int32)) dX13_held_39 (by decide) ?_
      refine eg_istore (i := 5) [(5, .int (0 : Int32)), (4, .int (1 : Int32)), (0, .ref l0), (1, .int l1), (2, .int l2), (3, .int l3)] dX13_held_40 (Nat.le_of_ble_eq_true rfl) rfl ?_
      replace hF := eg_bind hF; obtain ⟨x7, e6, hF⟩ := hF
      refine eg_sub [2, 3, 4, 5, 1, 0] [(0, .ref l0), (1, .int l1), (2, .int l2), (3, .int l3), (4, .int (1 : Int32)), (5, .int (0 : Int32))] rfl (fX13_held_L42_ok eg_F h4 l0 l1 l2 l3 (1 : Int32) (0 : Int32) x7 e6 ?_)
      · intro p8 v9 v10 v11 v12 h13 e22
        subst e22
        refine eg_iload_n (i := 2) 2 dX13_held_130 rfl rfl ?_
        refine eg_iload (i := 4) 4 dX13_held_131 rfl ?_
        refine eg_if_eq 151 dX13_held_133 rfl (fun c14 => ?_) (fun c14 => ?_)
        · replace hF := eg_it c14 hF
          refine eg_iconst (v := (0 : Int32)) dX13_held_151 (by decide) ?_
          refine eg_ior dX13_held_152 ?_
          replace hF := eg_bind hF; obtain ⟨v15, e16, hF⟩ := hF
          replace e16 := Option.some.inj e16
          rw [e16]
          refine eg_istore_n (i := 2) [(2, .int v15), (0, .ref p8), (1, .int v9), (3, .int v11), (4, .int v12)] dX13_held_153 rfl (Nat.le_of_ble_eq_true rfl) rfl ?_
          refine eg_iinc (i := 3) (v := (v11 + (1 : Int32))) 3 [(3, .int (v11 + (1 : Int32))), (2, .int v15), (0, .ref p8), (1, .int v9), (4, .int v12)] dX13_held_154 rfl rfl (Nat.le_of_ble_eq_true rfl) rfl ?_
          refine eg_goto 23 dX13_held_157 rfl ?_
          exact eg_sub [2, 3, 1, 0] [(0, .ref p8), (1, .int v9), (2, .int v15), (3, .int (v11 + (1 : Int32)))] rfl (hrec h13 p8 v9 v15 (v11 + (1 : Int32)) hF)
        · replace hF := eg_if c14 hF
          refine eg_iconst (v := (1 : Int32)) dX13_held_136 (by decide) ?_
          refine eg_iload_n (i := 3) 3 dX13_held_137 rfl rfl ?_
          refine eg_iconst (v := (-1 : Int32)) dX13_held_138 (by decide) ?_
          refine eg_ic_ne 146 dX13_held_139 rfl (fun c17 => ?_) (fun c17 => ?_)
          · replace hF := eg_it c17 hF
            refine eg_iconst (v := (4 : Int32)) dX13_held_142 (by decide) ?_
            refine eg_goto 147 dX13_held_143 rfl ?_
            refine eg_ishl dX13_held_147 ?_
            refine eg_goto 152 dX13_held_148 rfl ?_
            refine eg_ior dX13_held_152 ?_
            replace hF := eg_bind hF; obtain ⟨v18, e19, hF⟩ := hF
            replace e19 := Option.some.inj e19
            rw [e19]
            refine eg_istore_n (i := 2) [(2, .int v18), (0, .ref p8), (1, .int v9), (3, .int v11), (4, .int v12)] dX13_held_153 rfl (Nat.le_of_ble_eq_true rfl) rfl ?_
            refine eg_iinc (i := 3) (v := (v11 + (1 : Int32))) 3 [(3, .int (v11 + (1 : Int32))), (2, .int v18), (0, .ref p8), (1, .int v9), (4, .int v12)] dX13_held_154 rfl rfl (Nat.le_of_ble_eq_true rfl) rfl ?_
            refine eg_goto 23 dX13_held_157 rfl ?_
            exact eg_sub [2, 3, 1, 0] [(0, .ref p8), (1, .int v9), (2, .int v18), (3, .int (v11 + (1 : Int32)))] rfl (hrec h13 p8 v9 v18 (v11 + (1 : Int32)) hF)
          · replace hF := eg_if c17 hF
            refine eg_iload_n (i := 3) 3 dX13_held_146 rfl rfl ?_
            refine eg_ishl dX13_held_147 ?_
            refine eg_goto 152 dX13_held_148 rfl ?_
            refine eg_ior dX13_held_152 ?_
            replace hF := eg_bind hF; obtain ⟨v20, e21, hF⟩ := hF
            replace e21 := Option.some.inj e21
            rw [e21]
            refine eg_istore_n (i := 2) [(2, .int v20), (0, .ref p8), (1, .int v9), (3, .int v11), (4, .int v12)] dX13_held_153 rfl (Nat.le_of_ble_eq_true rfl) rfl ?_
            refine eg_iinc (i := 3) (v := (v11 + (1 : Int32))) 3 [(3, .int (v11 + (1 : Int32))), (2, .int v20), (0, .ref p8), (1, .int v9), (4, .int v12)] dX13_held_154 rfl rfl (Nat.le_of_ble_eq_true rfl) rfl ?_
            refine eg_goto 23 dX13_held_157 rfl ?_
            exact eg_sub [2, 3, 1, 0] [(0, .ref p8), (1, .int v9), (2, .int v20), (3, .int (v11 + (1 : Int32)))] rfl (hrec h13 p8 v9 v20 (v11 + (1 : Int32)) hF)
def fX13_held (h : eg_H) (l0 : Nat) : Option (Int32 × eg_H) :=
  if eg_isO h 13 l0 then (
    (eg_pI h 13 0 l0 (0 : Int32)).bind fun h1 =>
    (eg_gI h1 13 24 l0).bind fun v3 =>
    if v3 = 0 then
      (some ((-1 : Int32), h1))
    else
      (eg_gI h1 13 34 l0).bind fun v6 =>
      (fX13_held_L23 eg_F h1 l0 v6 (0 : Int32) (-1 : Int32)).bind fun e =>
      match e with
      | (p10, v11, v12, h13) =>
        (eg_pI h13 13 34 p10 v11).bind fun h14 =>
        some (v12, h14)) else none
theorem fX13_held_O {h : eg_H} {l0 : Nat} {rE : Int32} {hE : eg_H} (hF : fX13_held h l0 = some (rE, hE)) : eg_isO h 13 l0 := (eg_ifn hF).1
set_option maxRecDepth 20000 in
theorem mX13_held {h : eg_H} {l0 : Nat} {rE : Int32} {hE : eg_H} (hF : fX13_held h l0 = some (rE, hE)) : eg_Met yX13_held cX13_held 6 (some .int) 396 [.ref l0] h (some (.int rE)) hE := by
  refine eg_enter rfl (Nat.le_of_ble_eq_true rfl) ?_
  show eg_AW (RX13, cX13_held, 6, 396, none, "held", (some .int)) (eg_Zm (some (.int rE)) hE h) (eg_nc hE) (eg_ns hE) h 0 [(0, .ref l0)] [] h
  replace hF := (eg_ifn hF).2
  refine eg_aload_n (i := 0) 0 dX13_held_0 rfl rfl ?_
  refine eg_iconst (v := (0 : Int32)) dX13_held_1 (by decide) ?_
  replace hF := eg_bind hF; obtain ⟨h1, e2, hF⟩ := hF
  refine eg_putI dX13_held_2 e2 (Nat.le_of_ble_eq_true rfl) (Nat.le_of_ble_eq_true rfl) rfl ew_1434 (Or.inl rfl) ?_
  refine eg_aload_n (i := 0) 0 dX13_held_5 rfl rfl ?_
  replace hF := eg_bind hF; obtain ⟨v3, e4, hF⟩ := hF
  refine eg_getI dX13_held_6 e4 (Nat.le_of_ble_eq_true rfl) (Nat.le_of_ble_eq_true rfl) rfl ew_1458 ?_
  refine eg_if_ne 14 dX13_held_9 rfl (fun c5 => ?_) (fun c5 => ?_)
  · replace hF := eg_it c5 hF
    refine eg_iconst (v := (-1 : Int32)) dX13_held_12 (by decide) ?_
    exact eg_iretE dX13_held_13 hF
  · replace hF := eg_if c5 hF
    refine eg_aload_n (i := 0) 0 dX13_held_14 rfl rfl ?_
    replace hF := eg_bind hF; obtain ⟨v6, e7, hF⟩ := hF
    refine eg_getI dX13_held_15 e7 (Nat.le_of_ble_eq_true rfl) (Nat.le_of_ble_eq_true rfl) rfl ew_1468 ?_
    refine eg_istore_n (i := 1) [(1, .int v6), (0, .ref l0)] dX13_held_18 rfl (Nat.le_of_ble_eq_true rfl) rfl ?_
    refine eg_iconst (v := (0 : Int32)) dX13_held_19 (by decide) ?_
    refine eg_istore_n (i := 2) [(2, .int (0 : Int32)), (1, .int v6), (0, .ref l0)] dX13_held_20 rfl (Nat.le_of_ble_eq_true rfl) rfl ?_
    refine eg_iconst (v := (-1 : Int32)) dX13_held_21 (by decide) ?_
    refine eg_istore_n (i := 3) [(3, .int (-1 : Int32)), (2, .int (0 : Int32)), (1, .int v6), (0, .ref l0)] dX13_held_22 rfl (Nat.le_of_ble_eq_true rfl) rfl ?_
    replace hF := eg_bind hF; obtain ⟨x9, e8, hF⟩ := hF
    refine eg_sub [3, 2, 1, 0] [(0, .ref l0), (1, .int v6), (2, .int (0 : Int32)), (3, .int (-1 : Int32))] rfl (fX13_held_L23_ok eg_F h1 l0 v6 (0 : Int32) (-1 : Int32) x9 e8 ?_)
    · intro p10 v11 v12 h13 e16
      subst e16
      refine eg_aload_n (i := 0) 0 dX13_held_160 rfl rfl ?_
      refine eg_iload_n (i := 1) 1 dX13_held_161 rfl rfl ?_
      replace hF := eg_bind hF; obtain ⟨h14, e15, hF⟩ := hF
      refine eg_putI dX13_held_162 e15 (Nat.le_of_ble_eq_true rfl) (Nat.le_of_ble_eq_true rfl) rfl ew_1468 (Or.inl rfl) ?_
      refine eg_iload_n (i := 2) 2 dX13_held_165 rfl rfl ?_
      exact eg_iretE dX13_held_166 hF
