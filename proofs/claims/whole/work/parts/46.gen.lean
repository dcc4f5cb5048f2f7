theorem dX13_hopOf_0 : decode cX13_hopOf 0 = .ok (.aload_n 0, 1) := by decide +kernel
theorem dX13_hopOf_1 : decode cX13_hopOf 1 = .ok (.iload_n 1, 1) := by decide +kernel
theorem dX13_hopOf_2 : decode cX13_hopOf 2 = .ok (.iload_n 2, 1) := by decide +kernel
theorem dX13_hopOf_3 : decode cX13_hopOf 3 = .ok (.bipush 10, 2) := by decide +kernel
theorem dX13_hopOf_5 : decode cX13_hopOf 5 = .ok (.iload_n 3, 1) := by decide +kernel
theorem dX13_hopOf_6 : decode cX13_hopOf 6 = .ok (.imul, 1) := by decide +kernel
theorem dX13_hopOf_7 : decode cX13_hopOf 7 = .ok (.iload 4, 2) := by decide +kernel
theorem dX13_hopOf_9 : decode cX13_hopOf 9 = .ok (.invokevirtual 426, 3) := by decide +kernel
theorem dX13_hopOf_12 : decode cX13_hopOf 12 = .ok (.aload_n 0, 1) := by decide +kernel
theorem dX13_hopOf_13 : decode cX13_hopOf 13 = .ok (.getfield 417, 3) := by decide +kernel
theorem dX13_hopOf_16 : decode cX13_hopOf 16 = .ok (.ireturn, 1) := by decide +kernel
def fX13_hopOf (h : eg_H) (l0 : Nat) (l1 : Int32) (l2 : Int32) (l3 : Int32) (l4 : Int32) : Option (Int32 × eg_H) :=
  if eg_isO h 13 l0 then (
    (fX13_layBest h l0 l1 l2 ((10 : Int32) * l3) l4).bind fun h1 =>
    (eg_gI h1 13 38 l0).bind fun v3 =>
    some (v3, h1)) else none
theorem fX13_hopOf_O {h : eg_H} {l0 : Nat} {l1 : Int32} {l2 : Int32} {l3 : Int32} {l4 : Int32} {rE : Int32} {hE : eg_H} (hF : fX13_hopOf h l0 l1 l2 l3 l4 = some (rE, hE)) : eg_isO h 13 l0 := (eg_ifn hF).1
set_option maxRecDepth 20000 in
theorem mX13_hopOf {h : eg_H} {l0 : Nat} {l1 : Int32} {l2 : Int32} {l3 : Int32} {l4 : Int32} {rE : Int32} {hE : eg_H} (hF : fX13_hopOf h l0 l1 l2 l3 l4 = some (rE, hE)) : eg_Met yX13_hopOf cX13_hopOf 5 (some .int) 398 [.ref l0, .int l1, .int l2, .int l3, .int l4] h (some (.int rE)) hE := by
  refine eg_enter rfl (Nat.le_of_ble_eq_true rfl) ?_
  show eg_AW (RX13, cX13_hopOf, 5, 398, none, "hopOf", (some .int)) (eg_Zm (some (.int rE)) hE h) (eg_nc hE) (eg_ns hE) h 0 [(0, .ref l0), (1, .int l1), (2, .int l2), (3, .int l3), (4, .int l4)] [] h
  replace hF := (eg_ifn hF).2
  refine eg_aload_n (i := 0) 0 dX13_hopOf_0 rfl rfl ?_
  refine eg_iload_n (i := 1) 1 dX13_hopOf_1 rfl rfl ?_
  refine eg_iload_n (i := 2) 2 dX13_hopOf_2 rfl rfl ?_
  refine eg_bipush (v := (10 : Int32)) dX13_hopOf_3 (by decide) ?_
  refine eg_iload_n (i := 3) 3 dX13_hopOf_5 rfl rfl ?_
  refine eg_imul dX13_hopOf_6 ?_
  refine eg_iload (i := 4) 4 dX13_hopOf_7 rfl ?_
  replace hF := eg_bind hF; obtain ⟨h1, e2, hF⟩ := hF
  refine eg_callV (c := 13) (n := 4) [.int l1, .int l2, .int ((10 : Int32) * l3), .int l4] dX13_hopOf_9 (mX13_layBest e2) rfl (fX13_layBest_O e2) (Nat.le_of_ble_eq_true rfl) rfl ew_1965 ew_1967 ew_84 ew_110 ew_1968 hy_X13_layBest rfl (Nat.le_of_ble_eq_true rfl) (Nat.le_of_ble_eq_true rfl) (Nat.le_of_ble_eq_true rfl) ?_
  refine eg_aload_n (i := 0) 0 dX13_hopOf_12 rfl rfl ?_
  replace hF := eg_bind hF; obtain ⟨v3, e4, hF⟩ := hF
  refine eg_getI dX13_hopOf_13 e4 (Nat.le_of_ble_eq_true rfl) (Nat.le_of_ble_eq_true rfl) rfl ew_1472 ?_
  exact eg_iretE dX13_hopOf_16 hF
theorem dX13_afterHop_0 : decode cX13_afterHop 0 = .ok (.iload_n 1, 1) := by decide +kernel
theorem dX13_afterHop_1 : decode cX13_afterHop 1 = .ok (.i2l, 1) := by decide +kernel
theorem dX13_afterHop_2 : decode cX13_afterHop 2 = .ok (.iload_n 3, 1) := by decide +kernel
theorem dX13_afterHop_3 : decode cX13_afterHop 3 = .ok (.i2l, 1) := by decide +kernel
theorem dX13_afterHop_4 : decode cX13_afterHop 4 = .ok (.lmul, 1) := by decide +kernel
theorem dX13_afterHop_5 : decode cX13_afterHop 5 = .ok (.iconst 2, 1) := by decide +kernel
theorem dX13_afterHop_6 : decode cX13_afterHop 6 = .ok (.aload_n 0, 1) := by decide +kernel
theorem dX13_afterHop_7 : decode cX13_afterHop 7 = .ok (.getfield 43, 3) := by decide +kernel
theorem dX13_afterHop_10 : decode cX13_afterHop 10 = .ok (.iconst 4, 1) := by decide +kernel
theorem dX13_afterHop_11 : decode cX13_afterHop 11 = .ok (.iload_n 2, 1) := by decide +kernel
theorem dX13_afterHop_12 : decode cX13_afterHop 12 = .ok (.imul, 1) := by decide +kernel
theorem dX13_afterHop_13 : decode cX13_afterHop 13 = .ok (.iaload, 1) := by decide +kernel
theorem dX13_afterHop_14 : decode cX13_afterHop 14 = .ok (.imul, 1) := by decide +kernel
theorem dX13_afterHop_15 : decode cX13_afterHop 15 = .ok (.iconst 1, 1) := by decide +kernel
theorem dX13_afterHop_16 : decode cX13_afterHop 16 = .ok (.iadd, 1) := by decide +kernel
theorem dX13_afterHop_17 : decode cX13_afterHop 17 = .ok (.i2l, 1) := by decide +kernel
theorem dX13_afterHop_18 : decode cX13_afterHop 18 = .ok (.ldiv, 1) := by decide +kernel
theorem dX13_afterHop_19 : decode cX13_afterHop 19 = .ok (.l2i, 1) := by decide +kernel
theorem dX13_afterHop_20 : decode cX13_afterHop 20 = .ok (.ireturn, 1) := by decide +kernel
def fX13_afterHop (h : eg_H) (l0 : Nat) (l1 : Int32) (l2 : Int32) (l3 : Int32) : Option (Int32 × eg_H) :=
  if eg_isO h 13 l0 then (
    (eg_gR h 13 20 l0).bind fun p1 =>
    (eg_aI h 100 p1 ((4 : Int32) * l2)).bind fun v3 =>
    if (((2 : Int32) * v3) + (1 : Int32)).toInt64 = 0 then none else
    some (((l1.toInt64 * l3.toInt64) / (((2 : Int32) * v3) + (1 : Int32)).toInt64).toInt32, h)) else none
theorem fX13_afterHop_O {h : eg_H} {l0 : Nat} {l1 : Int32} {l2 : Int32} {l3 : Int32} {rE : Int32} {hE : eg_H} (hF : fX13_afterHop h l0 l1 l2 l3 = some (rE, hE)) : eg_isO h 13 l0 := (eg_ifn hF).1
set_option maxRecDepth 20000 in
theorem mX13_afterHop {h : eg_H} {l0 : Nat} {l1 : Int32} {l2 : Int32} {l3 : Int32} {rE : Int32} {hE : eg_H} (hF : fX13_afterHop h l0 l1 l2 l3 = some (rE, hE)) : eg_Met yX13_afterHop cX13_afterHop 4 (some .int) 1 [.ref l0, .int l1, .int l2, .int l3] h (some (.int rE)) hE := by
  refine eg_enter rfl (Nat.le_of_ble_eq_true rfl) ?_
  show eg_AW (RX13, cX13_afterHop, 4, 1, none, "afterHop", (some .int)) (eg_Zm (some (.int rE)) hE h) (eg_nc hE) (eg_ns hE) h 0 [(0, .ref l0), (1, .int l1), (2, .int l2), (3, .int l3)] [] h
  replace hF := (eg_ifn hF).2
  refine eg_iload_n (i := 1) 1 dX13_afterHop_0 rfl rfl ?_
  refine eg_i2l dX13_afterHop_1 ?_
  refine eg_iload_n (i := 3) 3 dX13_afterHop_2 rfl rfl ?_
  refine eg_i2l dX13_afterHop_3 ?_
  refine eg_lmul dX13_afterHop_4 ?_
  refine eg_iconst (v := (2 : Int32)) dX13_afterHop_5 (by decide) ?_
  refine eg_aload_n (i := 0) 0 dX13_afterHop_6 rfl rfl ?_
  replace hF := eg_bind hF; obtain ⟨p1, e2, hF⟩ := hF
  refine eg_getR dX13_afterHop_7 e2 (Nat.le_of_ble_eq_true rfl) (Nat.le_of_ble_eq_true rfl) rfl ew_1454 ?_
  refine eg_iconst (v := (4 : Int32)) dX13_afterHop_10 (by decide) ?_
  refine eg_iload_n (i := 2) 2 dX13_afterHop_11 rfl rfl ?_
  refine eg_imul dX13_afterHop_12 ?_
  replace hF := eg_bind hF; obtain ⟨v3, e4, hF⟩ := hF
  refine eg_iald dX13_afterHop_13 e4 ?_
  refine eg_imul dX13_afterHop_14 ?_
  refine eg_iconst (v := (1 : Int32)) dX13_afterHop_15 (by decide) ?_
  refine eg_iadd dX13_afterHop_16 ?_
  refine eg_i2l dX13_afterHop_17 ?_
  replace hF := eg_nif hF; obtain ⟨c5, hF⟩ := hF
  refine eg_ldiv dX13_afterHop_18 c5 ?_
  refine eg_l2i dX13_afterHop_19 ?_
  exact eg_iretE dX13_afterHop_20 hF
theorem dX13_chain_0 : decode cX13_chain 0 = .ok (.aload_n 0, 1) := by decide +kernel
theorem dX13_chain_1 : decode cX13_chain 1 = .ok (.iconst 0, 1) := by decide +kernel
theorem dX13_chain_2 : decode cX13_chain 2 = .ok (.putfield 148, 3) := by decide +kernel
theorem dX13_chain_5 : decode cX13_chain 5 = .ok (.iload_n 1, 1) := by decide +kernel
theorem dX13_chain_6 : decode cX13_chain 6 = .ok (.ifCond .lt 23, 3) := by decide +kernel
theorem dX13_chain_9 : decode cX13_chain 9 = .ok (.aload_n 0, 1) := by decide +kernel
theorem dX13_chain_10 : decode cX13_chain 10 = .ok (.iload_n 2, 1) := by decide +kernel
theorem dX13_chain_11 : decode cX13_chain 11 = .ok (.invokevirtual 356, 3) := by decide +kernel
theorem dX13_chain_14 : decode cX13_chain 14 = .ok (.ifCond .eq 15, 3) := by decide +kernel
theorem dX13_chain_17 : decode cX13_chain 17 = .ok (.iload_n 3, 1) := by decide +kernel
theorem dX13_chain_18 : decode cX13_chain 18 = .ok (.i2l, 1) := by decide +kernel
theorem dX13_chain_19 : decode cX13_chain 19 = .ok (.lconst 1, 1) := by decide +kernel
theorem dX13_chain_20 : decode cX13_chain 20 = .ok (.ldc2_w 380, 3) := by decide +kernel
theorem dX13_chain_23 : decode cX13_chain 23 = .ok (.invokestatic 269, 3) := by decide +kernel
theorem dX13_chain_26 : decode cX13_chain 26 = .ok (.ifCond .ne 5, 3) := by decide +kernel
theorem dX13_chain_29 : decode cX13_chain 29 = .ok (.iconst (-1), 1) := by decide +kernel
theorem dX13_chain_30 : decode cX13_chain 30 = .ok (.ireturn, 1) := by decide +kernel
theorem dX13_chain_31 : decode cX13_chain 31 = .ok (.iload_n 1, 1) := by decide +kernel
theorem dX13_chain_32 : decode cX13_chain 32 = .ok (.istore 4, 2) := by decide +kernel
theorem dX13_chain_34 : decode cX13_chain 34 = .ok (.iconst 0, 1) := by decide +kernel
theorem dX13_chain_35 : decode cX13_chain 35 = .ok (.istore 5, 2) := by decide +kernel
theorem dX13_chain_37 : decode cX13_chain 37 = .ok (.aload_n 0, 1) := by decide +kernel
theorem dX13_chain_38 : decode cX13_chain 38 = .ok (.getfield 335, 3) := by decide +kernel
theorem dX13_chain_41 : decode cX13_chain 41 = .ok (.iconst 1, 1) := by decide +kernel
theorem dX13_chain_42 : decode cX13_chain 42 = .ok (.isub, 1) := by decide +kernel
theorem dX13_chain_43 : decode cX13_chain 43 = .ok (.istore 6, 2) := by decide +kernel
theorem dX13_chain_45 : decode cX13_chain 45 = .ok (.iload 6, 2) := by decide +kernel
theorem dX13_chain_47 : decode cX13_chain 47 = .ok (.ifCond .lt 73, 3) := by decide +kernel
theorem dX13_chain_50 : decode cX13_chain 50 = .ok (.aload_n 0, 1) := by decide +kernel
theorem dX13_chain_51 : decode cX13_chain 51 = .ok (.getfield 79, 3) := by decide +kernel
theorem dX13_chain_54 : decode cX13_chain 54 = .ok (.iload 6, 2) := by decide +kernel
theorem dX13_chain_56 : decode cX13_chain 56 = .ok (.iload 4, 2) := by decide +kernel
theorem dX13_chain_58 : decode cX13_chain 58 = .ok (.bipush 10, 2) := by decide +kernel
theorem dX13_chain_60 : decode cX13_chain 60 = .ok (.irem, 1) := by decide +kernel
theorem dX13_chain_61 : decode cX13_chain 61 = .ok (.iastore, 1) := by decide +kernel
theorem dX13_chain_62 : decode cX13_chain 62 = .ok (.iload 4, 2) := by decide +kernel
theorem dX13_chain_64 : decode cX13_chain 64 = .ok (.bipush 10, 2) := by decide +kernel
theorem dX13_chain_66 : decode cX13_chain 66 = .ok (.idiv, 1) := by decide +kernel
theorem dX13_chain_67 : decode cX13_chain 67 = .ok (.istore 4, 2) := by decide +kernel
theorem dX13_chain_69 : decode cX13_chain 69 = .ok (.aload_n 0, 1) := by decide +kernel
theorem dX13_chain_70 : decode cX13_chain 70 = .ok (.aload_n 0, 1) := by decide +kernel
theorem dX13_chain_71 : decode cX13_chain 71 = .ok (.getfield 79, 3) := by decide +kernel
theorem dX13_chain_74 : decode cX13_chain 74 = .ok (.iload 6, 2) := by decide +kernel
theorem dX13_chain_76 : decode cX13_chain 76 = .ok (.iaload, 1) := by decide +kernel
theorem dX13_chain_77 : decode cX13_chain 77 = .ok (.invokevirtual 353, 3) := by decide +kernel
theorem dX13_chain_80 : decode cX13_chain 80 = .ok (.ifCond .eq 18, 3) := by decide +kernel
theorem dX13_chain_83 : decode cX13_chain 83 = .ok (.iload 5, 2) := by decide +kernel
theorem dX13_chain_85 : decode cX13_chain 85 = .ok (.aload_n 0, 1) := by decide +kernel
theorem dX13_chain_86 : decode cX13_chain 86 = .ok (.getfield 79, 3) := by decide +kernel
theorem dX13_chain_89 : decode cX13_chain 89 = .ok (.iload 6, 2) := by decide +kernel
theorem dX13_chain_91 : decode cX13_chain 91 = .ok (.iaload, 1) := by decide +kernel
theorem dX13_chain_92 : decode cX13_chain 92 = .ok (.invokestatic 296, 3) := by decide +kernel
theorem dX13_chain_95 : decode cX13_chain 95 = .ok (.ifCond .eq 5, 3) := by decide +kernel
theorem dX13_chain_98 : decode cX13_chain 98 = .ok (.iconst (-1), 1) := by decide +kernel
theorem dX13_chain_99 : decode cX13_chain 99 = .ok (.ireturn, 1) := by decide +kernel
theorem dX13_chain_100 : decode cX13_chain 100 = .ok (.iload 5, 2) := by decide +kernel
theorem dX13_chain_102 : decode cX13_chain 102 = .ok (.iconst 1, 1) := by decide +kernel
theorem dX13_chain_103 : decode cX13_chain 103 = .ok (.aload_n 0, 1) := by decide +kernel
theorem dX13_chain_104 : decode cX13_chain 104 = .ok (.getfield 79, 3) := by decide +kernel
theorem dX13_chain_107 : decode cX13_chain 107 = .ok (.iload 6, 2) := by decide +kernel
theorem dX13_chain_109 : decode cX13_chain 109 = .ok (.iaload, 1) := by decide +kernel
theorem dX13_chain_110 : decode cX13_chain 110 = .ok (.ishl, 1) := by decide +kernel
theorem dX13_chain_111 : decode cX13_chain 111 = .ok (.ior, 1) := by decide +kernel
theorem dX13_chain_112 : decode cX13_chain 112 = .ok (.istore 5, 2) := by decide +kernel
theorem dX13_chain_114 : decode cX13_chain 114 = .ok (.iinc 6 (-1), 3) := by decide +kernel
theorem dX13_chain_117 : decode cX13_chain 117 = .ok (.goto (-72), 3) := by decide +kernel
theorem dX13_chain_120 : decode cX13_chain 120 = .ok (.iload 4, 2) := by decide +kernel
theorem dX13_chain_122 : decode cX13_chain 122 = .ok (.ifCond .eq 5, 3) := by decide +kernel
theorem dX13_chain_125 : decode cX13_chain 125 = .ok (.iconst (-1), 1) := by decide +kernel
theorem dX13_chain_126 : decode cX13_chain 126 = .ok (.ireturn, 1) := by decide +kernel
theorem dX13_chain_127 : decode cX13_chain 127 = .ok (.ldc_w 429, 3) := by decide +kernel
theorem dX13_chain_130 : decode cX13_chain 130 = .ok (.istore 6, 2) := by decide +kernel
theorem dX13_chain_132 : decode cX13_chain 132 = .ok (.iconst 1, 1) := by decide +kernel
theorem dX13_chain_133 : decode cX13_chain 133 = .ok (.istore 7, 2) := by decide +kernel
theorem dX13_chain_135 : decode cX13_chain 135 = .ok (.iload 7, 2) := by decide +kernel
theorem dX13_chain_137 : decode cX13_chain 137 = .ok (.aload_n 0, 1) := by decide +kernel
theorem dX13_chain_138 : decode cX13_chain 138 = .ok (.getfield 335, 3) := by decide +kernel
theorem dX13_chain_141 : decode cX13_chain 141 = .ok (.if_icmp .ge 48, 3) := by decide +kernel
theorem dX13_chain_144 : decode cX13_chain 144 = .ok (.aload_n 0, 1) := by decide +kernel
theorem dX13_chain_145 : decode cX13_chain 145 = .ok (.iload 6, 2) := by decide +kernel
theorem dX13_chain_147 : decode cX13_chain 147 = .ok (.aload_n 0, 1) := by decide +kernel
theorem dX13_chain_148 : decode cX13_chain 148 = .ok (.getfield 79, 3) := by decide +kernel
theorem dX13_chain_151 : decode cX13_chain 151 = .ok (.iload 7, 2) := by decide +kernel
theorem dX13_chain_153 : decode cX13_chain 153 = .ok (.iconst 1, 1) := by decide +kernel
theorem dX13_chain_154 : decode cX13_chain 154 = .ok (.isub, 1) := by decide +kernel
theorem dX13_chain_155 : decode cX13_chain 155 = .ok (.iaload, 1) := by decide +kernel
theorem dX13_chain_156 : decode cX13_chain 156 = .ok (.aload_n 0, 1) := by decide +kernel
theorem dX13_chain_157 : decode cX13_chain 157 = .ok (.aload_n 0, 1) := by decide +kernel
theorem dX13_chain_158 : decode cX13_chain 158 = .ok (.getfield 79, 3) := by decide +kernel
theorem dX13_chain_161 : decode cX13_chain 161 = .ok (.iload 7, 2) := by decide +kernel
theorem dX13_chain_163 : decode cX13_chain 163 = .ok (.iconst 1, 1) := by decide +kernel
theorem dX13_chain_164 : decode cX13_chain 164 = .ok (.isub, 1) := by decide +kernel
theorem dX13_chain_165 : decode cX13_chain 165 = .ok (.iaload, 1) := by decide +kernel
theorem dX13_chain_166 : decode cX13_chain 166 = .ok (.aload_n 0, 1) := by decide +kernel
theorem dX13_chain_167 : decode cX13_chain 167 = .ok (.getfield 79, 3) := by decide +kernel
theorem dX13_chain_170 : decode cX13_chain 170 = .ok (.iload 7, 2) := by decide +kernel
theorem dX13_chain_172 : decode cX13_chain 172 = .ok (.iaload, 1) := by decide +kernel
theorem dX13_chain_173 : decode cX13_chain 173 = .ok (.iload_n 2, 1) := by decide +kernel
theorem dX13_chain_174 : decode cX13_chain 174 = .ok (.iload_n 3, 1) := by decide +kernel
theorem dX13_chain_175 : decode cX13_chain 175 = .ok (.invokevirtual 521, 3) := by decide +kernel
theorem dX13_chain_178 : decode cX13_chain 178 = .ok (.invokevirtual 524, 3) := by decide +kernel
theorem dX13_chain_181 : decode cX13_chain 181 = .ok (.istore 6, 2) := by decide +kernel
theorem dX13_chain_183 : decode cX13_chain 183 = .ok (.iinc 7 1, 3) := by decide +kernel
theorem dX13_chain_186 : decode cX13_chain 186 = .ok (.goto (-51), 3) := by decide +kernel
theorem dX13_chain_189 : decode cX13_chain 189 = .ok (.iload 6, 2) := by decide +kernel
theorem dX13_chain_191 : decode cX13_chain 191 = .ok (.ireturn, 1) := by decide +kernel
def fX13_chain_L45 : Nat → eg_H → Nat → Int32 → Int32 → Int32 → Int32 → Int32 → Option ((Nat × Int32 × Int32 × Int32 × eg_H) ⊕ (eg_H))
  | 0, _, _, _, _, _, _, _ => none
  | n + 1, h, l0, l2, l3, l4, l5, l6 =>
    if l6 < 0 then
      (some (.inl (l0, l2, l3, l4, h)))
    else
      (eg_gR h 13 43 l0).bind fun p2 =>
      (eg_wI h 100 p2 l6 (l4 % (10 : Int32))).bind fun h4 =>
      (some ((l4 / (10 : Int32)))).bind fun v6 =>
      (eg_gR h4 13 43 l0).bind fun p8 =>
      (eg_aI h4 100 p8 l6).bind fun v10 =>
      (fX13_isPerson h4 l0 v10).bind fun ⟨v13, h12⟩ =>
      if v13 = 0 then
        (some (.inr (h12)))
      else
        (eg_gR h12 13 43 l0).bind fun p16 =>
        (eg_aI h12 100 p16 l6).bind fun v18 =>
        (fX13_has h12 l5 v18).bind fun ⟨v21, h20⟩ =>
        if v21 = 0 then
          ((eg_gR h20 13 43 l0).bind fun p24 =>
          (eg_aI h20 100 p24 l6).bind fun v26 =>
          (some ((l5 ||| ((1 : Int32) <<< (v26 &&& 31))))).bind fun v28 =>
          fX13_chain_L45 n h20 l0 l2 l3 v6 v28 (l6 + (-1 : Int32)))
        else
          some (.inr (h20))
set_option maxRecDepth 20000 in
theorem fX13_chain_L45_ok {h0 : eg_H} {Z : eg_C → State → Prop} {N S : Nat} : ∀ (n : Nat) (h : eg_H) (l0 : Nat) (l2 : Int32) (l3 : Int32) (l4 : Int32) (l5 : Int32) (l6 : Int32) (eE : (Nat × Int32 × Int32 × Int32 × eg_H) ⊕ (eg_H)), fX13_chain_L45 n h l0 l2 l3 l4 l5 l6 = some eE → (hk0 : ∀ (l0 : Nat) (l2 : Int32) (l3 : Int32) (l4 : Int32) (h : eg_H), eE = (.inl (l0, l2, l3, l4, h)) → eg_AW (RX13, cX13_chain, 8, 399, none, "chain", (some .int)) Z N S h0 120 [(0, .ref l0), (2, .int l2), (3, .int l3), (4, .int l4)] [] h) → (hk1 : ∀  (h : eg_H), eE = (.inr (h)) → eg_AW (RX13, cX13_chain, 8, 399, none, "chain", (some .int)) Z N S h0 98 [] [] h) → eg_AW (RX13, cX13_chain, 8, 399, none, "chain", (some .int)) Z N S h0 45 [(0, .ref l0), (2, .int l2), (3, .int l3), (4, .int l4), (5, .int l5), (6, .int l6)] [] h := by
  intro n
  induction n with
  | zero => intro h l0 l2 l3 l4 l5 l6 eE hF; exact absurd hF (by intro q; cases q)
  | succ n ih =>
    intro h l0 l2 l3 l4 l5 l6 eE hF hk0 hk1
    have hrec := fun (h' : eg_H) (l0 : Nat) (l2 : Int32) (l3 : Int32) (l4 : Int32) (l5 : Int32) (l6 : Int32) hq => ih h' l0 l2 l3 l4 l5 l6 eE hq hk0 hk1
    refine eg_iload (i := 6) 5 dX13_chain_45 rfl ?_
    refine eg_if_lt 120 dX13_chain_47 rfl (fun c1 => ?_) (fun c1 => ?_)
    · replace hF := eg_it c1 hF
      exact eg_sub [0, 1, 2, 3] [(0, .ref l0), (2, .int l2), (3, .int l3), (4, .int l4)] rfl (hk0 l0 l2 l3 l4 h (Option.some.inj hF).symm)
    · replace hF := eg_if c1 hF
      refine eg_aload_n (i := 0) 0 dX13_chain_50 rfl rfl ?_
      replace hF := eg_bind hF; obtain ⟨p2, e3, hF⟩ := hF
      refine eg_getR dX13_chain_51 e3 (Nat.le_of_ble_eq_true rfl) (Nat.le_of_ble_eq_true rfl) rfl ew_1477 ?_
      refine eg_iload (i := 6) 5 dX13_chain_54 rfl ?_
      refine eg_iload (i := 4) 3 dX13_chain_56 rfl ?_
      refine eg_bipush (v := (10 : Int32)) dX13_chain_58 (by decide) ?_
      refine eg_irem dX13_chain_60 (by decide) ?_
      replace hF := eg_bind hF; obtain ⟨h4, e5, hF⟩ := hF
      refine eg_iast dX13_chain_61 e5 ?_
      refine eg_iload (i := 4) 3 dX13_chain_62 rfl ?_
      refine eg_bipush (v := (10 : Int32)) dX13_chain_64 (by decide) ?_
      refine eg_idiv dX13_chain_66 (by decide) ?_
      replace hF := eg_bind hF; obtain ⟨v6, e7, hF⟩ := hF
      replace e7 := Option.some.inj e7
      rw [e7]
      refine eg_istore (i := 4) [(4, .int v6), (0, .ref l0), (2, .int l2), (3, .int l3), (5, .int l5), (6, .int l6)] dX13_chain_67 (Nat.le_of_ble_eq_true rfl) rfl ?_
      refine eg_aload_n (i := 0) 1 dX13_chain_69 rfl rfl ?_
      refine eg_aload_n (i := 0) 1 dX13_chain_70 rfl rfl ?_
      replace hF := eg_bind hF; obtain ⟨p8, e9, hF⟩ := hF
      refine eg_getR dX13_chain_71 e9 (Nat.le_of_ble_eq_true rfl) (Nat.le_of_ble_eq_true rfl) rfl ew_1477 ?_
      refine eg_iload (i := 6) 5 dX13_chain_74 rfl ?_
      replace hF := eg_bind hF; obtain ⟨v10, e11, hF⟩ := hF
      refine eg_iald dX13_chain_76 e11 ?_
      replace hF := eg_bind hF; obtain ⟨⟨v13, h12⟩, e14, hF⟩ := hF
      refine eg_callV (c := 13) (n := 1) [.int v10] dX13_chain_77 (mX13_isPerson e14) rfl (fX13_isPerson_O e14) (Nat.le_of_ble_eq_true rfl) rfl ew_1872 ew_1874 ew_71 ew_110 ew_1875 hy_X13_isPerson rfl (Nat.le_of_ble_eq_true rfl) (Nat.le_of_ble_eq_true rfl) (Nat.le_of_ble_eq_true rfl) ?_
      refine eg_if_eq 98 dX13_chain_80 rfl (fun c15 => ?_) (fun c15 => ?_)
      · replace hF := eg_it c15 hF
        exact eg_sub [] [] rfl (hk1 h12 (Option.some.inj hF).symm)
      · replace hF := eg_if c15 hF
        refine eg_iload (i := 5) 4 dX13_chain_83 rfl ?_
        refine eg_aload_n (i := 0) 1 dX13_chain_85 rfl rfl ?_
        replace hF := eg_bind hF; obtain ⟨p16, e17, hF⟩ := hF
        refine eg_getR dX13_chain_86 e17 (Nat.le_of_ble_eq_true rfl) (Nat.le_of_ble_eq_true rfl) rfl ew_1477 ?_
        refine eg_iload (i := 6) 5 dX13_chain_89 rfl ?_
        replace hF := eg_bind hF; obtain ⟨v18, e19, hF⟩ := hF
        refine eg_iald dX13_chain_91 e19 ?_
        replace hF := eg_bind hF; obtain ⟨⟨v21, h20⟩, e22, hF⟩ := hF
        refine eg_callS (n := 2) [.int l5, .int v18] dX13_chain_92 (mX13_has e22) rfl ew_1777 ew_1778 ew_110 ew_1779 hy_X13_has.2 rfl (Nat.le_of_ble_eq_true rfl) (Nat.le_of_ble_eq_true rfl) (Nat.le_of_ble_eq_true rfl) ?_
        refine eg_if_eq 100 dX13_chain_95 rfl (fun c23 => ?_) (fun c23 => ?_)
        · replace hF := eg_it c23 hF
          refine eg_iload (i := 5) 4 dX13_chain_100 rfl ?_
          refine eg_iconst (v := (1 : Int32)) dX13_chain_102 (by decide) ?_
          refine eg_aload_n (i := 0) 1 dX13_chain_103 rfl rfl ?_
          replace hF := eg_bind hF; obtain ⟨p24, e25, hF⟩ := hF
          refine eg_getR dX13_chain_104 e25 (Nat.le_of_ble_eq_true rfl) (Nat.le_of_ble_eq_true rfl) rfl ew_1477 ?_
          refine eg_iload (i := 6) 5 dX13_chain_107 rfl ?_
          replace hF := eg_bind hF; obtain ⟨v26, e27, hF⟩ := hF
          refine eg_iald dX13_chain_109 e27 ?_
          refine eg_ishl dX13_chain_110 ?_
          refine eg_ior dX13_chain_111 ?_
          replace hF := eg_bind hF; obtain ⟨v28, e29, hF⟩ := hF
          replace e29 := Option.some.inj e29
          rw [e29]
          refine eg_istore (i := 5) [(5, .int v28), (4, .int v6), (0, .ref l0), (2, .int l2), (3, .int l3), (6, .int l6)] dX13_chain_112 (Nat.le_of_ble_eq_true rfl) rfl ?_
          refine eg_iinc (i := 6) (v := (l6 + (-1 : Int32))) 5 [(6, .int (l6 + (-1 : Int32))), (5, .int v28), (4, .int v6), (0, .ref l0), (2, .int l2), (3, .int l3)] dX13_chain_114 rfl rfl (Nat.le_of_ble_eq_true rfl) rfl ?_
          refine eg_goto 45 dX13_chain_117 rfl ?_
          exact eg_sub [3, 4, 5, 2, 1, 0] [(0, .ref l0), (2, .int l2), (3, .int l3), (4, .int v6), (5, .int v28), (6, .int (l6 + (-1 : Int32)))] rfl (hrec h20 l0 l2 l3 v6 v28 (l6 + (-1 : Int32)) hF)
        · replace hF := eg_if c23 hF
          exact eg_sub [] [] rfl (hk1 h20 (Option.some.inj hF).symm)
def fX13_chain_L135 : Nat → eg_H → Nat → Int32 → Int32 → Int32 → Int32 → Option (Int32 × eg_H)
  | 0, _, _, _, _, _, _ => none
  | n + 1, h, l0, l2, l3, l6, l7 =>
    (eg_gI h 13 24 l0).bind fun v1 =>
    if v1 ≤ l7 then
      (some (l6, h))
    else
      (eg_gR h 13 43 l0).bind fun p4 =>
      (eg_aI h 100 p4 (l7 - (1 : Int32))).bind fun v6 =>
      (eg_gR h 13 43 l0).bind fun p8 =>
      (eg_aI h 100 p8 (l7 - (1 : Int32))).bind fun v10 =>
      (eg_gR h 13 43 l0).bind fun p12 =>
      (eg_aI h 100 p12 l7).bind fun v14 =>
      (fX13_hopOf h l0 v10 v14 l2 l3).bind fun ⟨v17, h16⟩ =>
      (fX13_afterHop h16 l0 l6 v6 v17).bind fun ⟨v20, h19⟩ =>
      fX13_chain_L135 n h19 l0 l2 l3 v20 (l7 + (1 : Int32))
set_option maxRecDepth 20000 in
theorem fX13_chain_L135_ok {h0 : eg_H} {Z : eg_C → State → Prop} {N S : Nat} : ∀ (n : Nat) (h : eg_H) (l0 : Nat) (l2 : Int32) (l3 : Int32) (l6 : Int32) (l7 : Int32) (eE : Int32 × eg_H), fX13_chain_L135 n h l0 l2 l3 l6 l7 = some eE → (hk0 : ∀ (l6 : Int32) (h : eg_H), eE = (l6, h) → eg_AW (RX13, cX13_chain, 8, 399, none, "chain", (some .int)) Z N S h0 189 [(6, .int l6)] [] h) → eg_AW (RX13, cX13_chain, 8, 399, none, "chain", (some .int)) Z N S h0 135 [(0, .ref l0), (2, .int l2), (3, .int l3), (6, .int l6), (7, .int l7)] [] h := by
  intro n
  induction n with
  | zero => intro h l0 l2 l3 l6 l7 eE hF; exact absurd hF (by intro q; cases q)
  | succ n ih =>
    intro h l0 l2 l3 l6 l7 eE hF hk0
    have hrec := fun (h' : eg_H) (l0 : Nat) (l2 : Int32) (l3 : Int32) (l6 : Int32) (l7 : Int32) hq => ih h' l0 l2 l3 l6 l7 eE hq hk0
    refine eg_iload (i := 7) 4 dX13_chain_135 rfl ?_
    refine eg_aload_n (i := 0) 0 dX13_chain_137 rfl rfl ?_
    replace hF := eg_bind hF; obtain ⟨v1, e2, hF⟩ := hF
    refine eg_getI dX13_chain_138 e2 (Nat.le_of_ble_eq_true rfl) (Nat.le_of_ble_eq_true rfl) rfl ew_1458 ?_
    refine eg_ic_ge 189 dX13_chain_141 rfl (fun c3 => ?_) (fun c3 => ?_)
    · replace hF := eg_it c3 hF
      exact eg_sub [3] [(6, .int l6)] rfl (hk0 l6 h (Option.some.inj hF).symm)
    · replace hF := eg_if c3 hF
      refine eg_aload_n (i := 0) 0 dX13_chain_144 rfl rfl ?_
      refine eg_iload (i := 6) 3 dX13_chain_145 rfl ?_
      refine eg_aload_n (i := 0) 0 dX13_chain_147 rfl rfl ?_
      replace hF := eg_bind hF; obtain ⟨p4, e5, hF⟩ := hF
      refine eg_getR dX13_chain_148 e5 (Nat.le_of_ble_eq_true rfl) (Nat.le_of_ble_eq_true rfl) rfl ew_1477 ?_
      refine eg_iload (i := 7) 4 dX13_chain_151 rfl ?_
      refine eg_iconst (v := (1 : Int32)) dX13_chain_153 (by decide) ?_
      refine eg_isub dX13_chain_154 ?_
      replace hF := eg_bind hF; obtain ⟨v6, e7, hF⟩ := hF
      refine eg_iald dX13_chain_155 e7 ?_
      refine eg_aload_n (i := 0) 0 dX13_chain_156 rfl rfl ?_
      refine eg_aload_n (i := 0) 0 dX13_chain_157 rfl rfl ?_
      replace hF := eg_bind hF; obtain ⟨p8, e9, hF⟩ := hF
      refine eg_getR dX13_chain_158 e9 (Nat.le_of_ble_eq_true rfl) (Nat.le_of_ble_eq_true rfl) rfl ew_1477 ?_
      refine eg_iload (i := 7) 4 dX13_chain_161 rfl ?_
      refine eg_iconst (v := (1 : Int32)) dX13_chain_163 (by decide) ?_
      refine eg_isub dX13_chain_164 ?_
      replace hF := eg_bind hF; obtain ⟨v10, e11, hF⟩ := hF
      refine eg_iald dX13_chain_165 e11 ?_
      refine eg_aload_n (i := 0) 0 dX13_chain_166 rfl rfl ?_
      replace hF := eg_bind hF; obtain ⟨p12, e13, hF⟩ := hF
      refine eg_getR dX13_chain_167 e13 (Nat.le_of_ble_eq_true rfl) (Nat.le_of_ble_eq_true rfl) rfl ew_1477 ?_
      refine eg_iload (i := 7) 4 dX13_chain_170 rfl ?_
      replace hF := eg_bind hF; obtain ⟨v14, e15, hF⟩ := hF
      refine eg_iald dX13_chain_172 e15 ?_
      refine eg_iload_n (i := 2) 1 dX13_chain_173 rfl rfl ?_
      refine eg_iload_n (i := 3) 2 dX13_chain_174 rfl rfl ?_
      replace hF := eg_bind hF; obtain ⟨⟨v17, h16⟩, e18, hF⟩ := hF
      refine eg_callV (c := 13) (n := 4) [.int v10, .int v14, .int l2, .int l3] dX13_chain_175 (mX13_hopOf e18) rfl (fX13_hopOf_O e18) (Nat.le_of_ble_eq_true rfl) rfl ew_2157 ew_2159 ew_96 ew_110 ew_2160 hy_X13_hopOf rfl (Nat.le_of_ble_eq_true rfl) (Nat.le_of_ble_eq_true rfl) (Nat.le_of_ble_eq_true rfl) ?_
      replace hF := eg_bind hF; obtain ⟨⟨v20, h19⟩, e21, hF⟩ := hF
      refine eg_callV (c := 13) (n := 3) [.int l6, .int v6, .int v17] dX13_chain_178 (mX13_afterHop e21) rfl (fX13_afterHop_O e21) (Nat.le_of_ble_eq_true rfl) rfl ew_2161 ew_2163 ew_97 ew_110 ew_2164 hy_X13_afterHop rfl (Nat.le_of_ble_eq_true rfl) (Nat.le_of_ble_eq_true rfl) (Nat.le_of_ble_eq_true rfl) ?_
      refine eg_istore (i := 6) [(6, .int v20), (0, .ref l0), (2, .int l2), (3, .int l3), (7, .int l7)] dX13_chain_181 (Nat.le_of_ble_eq_true rfl) rfl ?_
      refine eg_iinc (i := 7) (v := (l7 + (1 : Int32))) 4 [(7, .int (l7 + (1 : Int32))), (6, .int v20), (0, .ref l0), (2, .int l2), (3, .int l3)] dX13_chain_183 rfl rfl (Nat.le_of_ble_eq_true rfl) rfl ?_
      refine eg_goto 135 dX13_chain_186 rfl ?_
      exact eg_sub [2, 3, 4, 1, 0] [(0, .ref l0), (2, .int l2), (3, .int l3), (6, .int v20), (7, .int (l7 + (1 : Int32)))] rfl (hrec h19 l0 l2 l3 v20 (l7 + (1 : Int32)) hF)
def fX13_chain (h : eg_H) (l0 : Nat) (l1 : Int32) (l2 : Int32) (l3 : Int32) : Option (Int32 × eg_H) :=
  if eg_isO h 13 l0 then (
    (eg_pI h 13 0 l0 (0 : Int32)).bind fun h1 =>
    if l1 < 0 then
      (some ((-1 : Int32), h1))
    else
      (fX13_isEgg h1 l0 l2).bind fun ⟨v5, h4⟩ =>
      if v5 = 0 then
        (some ((-1 : Int32), h4))
      else
        (fX13_isIn h4 l3.toInt64 (1 : Int64) (60 : Int64)).bind fun ⟨v9, h8⟩ =>
        if v9 = 0 then
          (some ((-1 : Int32), h8))
        else
          (eg_gI h8 13 24 l0).bind fun v12 =>
          (some ((v12 - (1 : Int32)))).bind fun v14 =>
          (fX13_chain_L45 eg_F h8 l0 l2 l3 l1 (0 : Int32) v14).bind fun e =>
          match e with
          | .inl (p18, v19, v20, v21, h22) =>
            if v21 = 0 then
              ((fX13_chain_L135 eg_F h22 p18 v19 v20 (1000000000 : Int32) (1 : Int32)).bind fun e =>
              match e with
              | (v26, h27) =>
                some (v26, h27))
            else
              some ((-1 : Int32), h22)
          | .inr (h30) =>
            some ((-1 : Int32), h30)) else none
theorem fX13_chain_O {h : eg_H} {l0 : Nat} {l1 : Int32} {l2 : Int32} {l3 : Int32} {rE : Int32} {hE : eg_H} (hF : fX13_chain h l0 l1 l2 l3 = some (rE, hE)) : eg_isO h 13 l0 := (eg_ifn hF).1
set_option maxRecDepth 20000 in
theorem mX13_chain {h : eg_H} {l0 : Nat} {l1 : Int32} {l2 : Int32} {l3 : Int32} {rE : Int32} {hE : eg_H} (hF : fX13_chain h l0 l1 l2 l3 = some (rE, hE)) : eg_Met yX13_chain cX13_chain 8 (some .int) 399 [.ref l0, .int l1, .int l2, .int l3] h (some (.int rE)) hE := by
  refine eg_enter rfl (Nat.le_of_ble_eq_true rfl) ?_
  show eg_AW (RX13, cX13_chain, 8, 399, none, "chain", (some .int)) (eg_Zm (some (.int rE)) hE h) (eg_nc hE) (eg_ns hE) h 0 [(0, .ref l0), (1, .int l1), (2, .int l2), (3, .int l3)] [] h
  replace hF := (eg_ifn hF).2
  refine eg_aload_n (i := 0) 0 dX13_chain_0 rfl rfl ?_
  refine eg_iconst (v := (0 : Int32)) dX13_chain_1 (by decide) ?_
  replace hF := eg_bind hF; obtain ⟨h1, e2, hF⟩ := hF
  refine eg_putI dX13_chain_2 e2 (Nat.le_of_ble_eq_true rfl) (Nat.le_of_ble_eq_true rfl) rfl ew_1434 (Or.inl rfl) ?_
  refine eg_iload_n (i := 1) 1 dX13_chain_5 rfl rfl ?_
  refine eg_if_lt 29 dX13_chain_6 rfl (fun c3 => ?_) (fun c3 => ?_)
  · replace hF := eg_it c3 hF
    refine eg_iconst (v := (-1 : Int32)) dX13_chain_29 (by decide) ?_
    exact eg_iretE dX13_chain_30 hF
  · replace hF := eg_if c3 hF
    refine eg_aload_n (i := 0) 0 dX13_chain_9 rfl rfl ?_
    refine eg_iload_n (i := 2) 2 dX13_chain_10 rfl rfl ?_
    replace hF := eg_bind hF; obtain ⟨⟨v5, h4⟩, e6, hF⟩ := hF
    refine eg_callV (c := 13) (n := 1) [.int l2] dX13_chain_11 (mX13_isEgg e6) rfl (fX13_isEgg_O e6) (Nat.le_of_ble_eq_true rfl) rfl ew_1881 ew_1883 ew_72 ew_110 ew_1884 hy_X13_isEgg rfl (Nat.le_of_ble_eq_true rfl) (Nat.le_of_ble_eq_true rfl) (Nat.le_of_ble_eq_true rfl) ?_
    refine eg_if_eq 29 dX13_chain_14 rfl (fun c7 => ?_) (fun c7 => ?_)
    · replace hF := eg_it c7 hF
      refine eg_iconst (v := (-1 : Int32)) dX13_chain_29 (by decide) ?_
      exact eg_iretE dX13_chain_30 hF
    · replace hF := eg_if c7 hF
      refine eg_iload_n (i := 3) 3 dX13_chain_17 rfl rfl ?_
      refine eg_i2l dX13_chain_18 ?_
      refine eg_lconst (v := (1 : Int64)) dX13_chain_19 (by decide) ?_
      refine eg_ldc2 (v := (60 : Int64)) dX13_chain_20 ew_1912 ?_
      replace hF := eg_bind hF; obtain ⟨⟨v9, h8⟩, e10, hF⟩ := hF
      refine eg_callS (n := 3) [.long l3.toInt64, .long (1 : Int64), .long (60 : Int64)] dX13_chain_23 (mX13_isIn e10) rfl ew_1697 ew_1698 ew_110 ew_1699 hy_X13_isIn.2 rfl (Nat.le_of_ble_eq_true rfl) (Nat.le_of_ble_eq_true rfl) (Nat.le_of_ble_eq_true rfl) ?_
      refine eg_if_ne 31 dX13_chain_26 rfl (fun c11 => ?_) (fun c11 => ?_)
      · replace hF := eg_it c11 hF
        refine eg_iconst (v := (-1 : Int32)) dX13_chain_29 (by decide) ?_
        exact eg_iretE dX13_chain_30 hF
      · replace hF := eg_if c11 hF
        refine eg_iload_n (i := 1) 1 dX13_chain_31 rfl rfl ?_
        refine eg_istore (i := 4) [(4, .int l1), (0, .ref l0), (1, .int l1), (2, .int l2), (3, .int l3)] dX13_chain_32 (Nat.le_of_ble_eq_true rfl) rfl ?_
        refine eg_iconst (v := (0 : Int32)) dX13_chain_34 (by decide) ?_
        refine eg_istore (i := 5) [(5, .int (0 : Int32)), (4, .int l1), (0, .ref l0), (1, .int l1), (2, .int l2), (3, .int l3)] dX13_chain_35 (Nat.le_of_ble_eq_true rfl) rfl ?_
        refine eg_aload_n (i := 0) 2 dX13_chain_37 rfl rfl ?_
        replace hF := eg_bind hF; obtain ⟨v12, e13, hF⟩ := hF
        refine eg_getI dX13_chain_38 e13 (Nat.le_of_ble_eq_true rfl) (Nat.le_of_ble_eq_true rfl) rfl ew_1458 ?_
        refine eg_iconst (v := (1 : Int32)) dX13_chain_41 (by decide) ?_
        refine eg_isub dX13_chain_42 ?_
        replace hF := eg_bind hF; obtain ⟨v14, e15, hF⟩ := hF
        replace e15 := Option.some.inj e15
        rw [e15]
        refine eg_istore (i := 6) [(6, .int v14), (5, .int (0 : Int32)), (4, .int l1), (0, .ref l0), (1, .int l1), (2, .int l2), (3, .int l3)] dX13_chain_43 (Nat.le_of_ble_eq_true rfl) rfl ?_
        replace hF := eg_bind hF; obtain ⟨x17, e16, hF⟩ := hF
        refine eg_sub [3, 5, 6, 2, 1, 0] [(0, .ref l0), (2, .int l2), (3, .int l3), (4, .int l1), (5, .int (0 : Int32)), (6, .int v14)] rfl (fX13_chain_L45_ok eg_F h8 l0 l2 l3 l1 (0 : Int32) v14 x17 e16 ?_ ?_)
        · intro p18 v19 v20 v21 h22 e29
          subst e29
          refine eg_iload (i := 4) 3 dX13_chain_120 rfl ?_
          refine eg_if_eq 127 dX13_chain_122 rfl (fun c23 => ?_) (fun c23 => ?_)
          · replace hF := eg_it c23 hF
            refine eg_ldcw (v := (1000000000 : Int32)) dX13_chain_127 ew_1977 ?_
            refine eg_istore (i := 6) [(6, .int (1000000000 : Int32)), (0, .ref p18), (2, .int v19), (3, .int v20), (4, .int v21)] dX13_chain_130 (Nat.le_of_ble_eq_true rfl) rfl ?_
            refine eg_iconst (v := (1 : Int32)) dX13_chain_132 (by decide) ?_
            refine eg_istore (i := 7) [(7, .int (1 : Int32)), (6, .int (1000000000 : Int32)), (0, .ref p18), (2, .int v19), (3, .int v20), (4, .int v21)] dX13_chain_133 (Nat.le_of_ble_eq_true rfl) rfl ?_
            replace hF := eg_bind hF; obtain ⟨x25, e24, hF⟩ := hF
            refine eg_sub [2, 3, 4, 1, 0] [(0, .ref p18), (2, .int v19), (3, .int v20), (6, .int (1000000000 : Int32)), (7, .int (1 : Int32))] rfl (fX13_chain_L135_ok eg_F h22 p18 v19 v20 (1000000000 : Int32) (1 : Int32) x25 e24 ?_)
            · intro v26 h27 e28
              subst e28
              refine eg_iload (i := 6) 0 dX13_chain_189 rfl ?_
              exact eg_iretE dX13_chain_191 hF
          · replace hF := eg_if c23 hF
            refine eg_iconst (v := (-1 : Int32)) dX13_chain_125 (by decide) ?_
            exact eg_iretE dX13_chain_126 hF
        · intro h30 e31
          subst e31
          refine eg_iconst (v := (-1 : Int32)) dX13_chain_98 (by decide) ?_
          exact eg_iretE dX13_chain_99 hF
theorem dX13_goRow_0 : decode cX13_goRow 0 = .ok (.iload_n 2, 1) := by decide +kernel
theorem dX13_goRow_1 : decode cX13_goRow 1 = .ok (.iconst 1, 1) := by decide +kernel
theorem dX13_goRow_2 : decode cX13_goRow 2 = .ok (.aload_n 0, 1) := by decide +kernel
theorem dX13_goRow_3 : decode cX13_goRow 3 = .ok (.getfield 335, 3) := by decide +kernel
theorem dX13_goRow_6 : decode cX13_goRow 6 = .ok (.ishl, 1) := by decide +kernel
theorem dX13_goRow_7 : decode cX13_goRow 7 = .ok (.iconst 1, 1) := by decide +kernel
theorem dX13_goRow_8 : decode cX13_goRow 8 = .ok (.isub, 1) := by decide +kernel
theorem dX13_goRow_9 : decode cX13_goRow 9 = .ok (.if_icmp .ne 25, 3) := by decide +kernel
theorem dX13_goRow_12 : decode cX13_goRow 12 = .ok (.iload 4, 2) := by decide +kernel
theorem dX13_goRow_14 : decode cX13_goRow 14 = .ok (.aload_n 0, 1) := by decide +kernel
theorem dX13_goRow_15 : decode cX13_goRow 15 = .ok (.getfield 528, 3) := by decide +kernel
theorem dX13_goRow_18 : decode cX13_goRow 18 = .ok (.if_icmp .gt 4, 3) := by decide +kernel
theorem dX13_goRow_21 : decode cX13_goRow 21 = .ok (.return_, 1) := by decide +kernel
theorem dX13_goRow_22 : decode cX13_goRow 22 = .ok (.aload_n 0, 1) := by decide +kernel
theorem dX13_goRow_23 : decode cX13_goRow 23 = .ok (.iload_n 3, 1) := by decide +kernel
theorem dX13_goRow_24 : decode cX13_goRow 24 = .ok (.putfield 531, 3) := by decide +kernel
theorem dX13_goRow_27 : decode cX13_goRow 27 = .ok (.aload_n 0, 1) := by decide +kernel
theorem dX13_goRow_28 : decode cX13_goRow 28 = .ok (.iload 4, 2) := by decide +kernel
theorem dX13_goRow_30 : decode cX13_goRow 30 = .ok (.putfield 528, 3) := by decide +kernel
theorem dX13_goRow_33 : decode cX13_goRow 33 = .ok (.return_, 1) := by decide +kernel
theorem dX13_goRow_34 : decode cX13_goRow 34 = .ok (.iconst 0, 1) := by decide +kernel
theorem dX13_goRow_35 : decode cX13_goRow 35 = .ok (.istore 5, 2) := by decide +kernel
theorem dX13_goRow_37 : decode cX13_goRow 37 = .ok (.iload 5, 2) := by decide +kernel
theorem dX13_goRow_39 : decode cX13_goRow 39 = .ok (.aload_n 0, 1) := by decide +kernel
theorem dX13_goRow_40 : decode cX13_goRow 40 = .ok (.getfield 335, 3) := by decide +kernel
theorem dX13_goRow_43 : decode cX13_goRow 43 = .ok (.if_icmp .ge 66, 3) := by decide +kernel
theorem dX13_goRow_46 : decode cX13_goRow 46 = .ok (.iload_n 2, 1) := by decide +kernel
theorem dX13_goRow_47 : decode cX13_goRow 47 = .ok (.iload 5, 2) := by decide +kernel
theorem dX13_goRow_49 : decode cX13_goRow 49 = .ok (.invokestatic 296, 3) := by decide +kernel
theorem dX13_goRow_52 : decode cX13_goRow 52 = .ok (.ifCond .ne 51, 3) := by decide +kernel
theorem dX13_goRow_55 : decode cX13_goRow 55 = .ok (.aload_n 0, 1) := by decide +kernel
theorem dX13_goRow_56 : decode cX13_goRow 56 = .ok (.iload 5, 2) := by decide +kernel
theorem dX13_goRow_58 : decode cX13_goRow 58 = .ok (.iload_n 2, 1) := by decide +kernel
theorem dX13_goRow_59 : decode cX13_goRow 59 = .ok (.iconst 1, 1) := by decide +kernel
theorem dX13_goRow_60 : decode cX13_goRow 60 = .ok (.iload 5, 2) := by decide +kernel
theorem dX13_goRow_62 : decode cX13_goRow 62 = .ok (.ishl, 1) := by decide +kernel
theorem dX13_goRow_63 : decode cX13_goRow 63 = .ok (.ior, 1) := by decide +kernel
theorem dX13_goRow_64 : decode cX13_goRow 64 = .ok (.bipush 10, 2) := by decide +kernel
theorem dX13_goRow_66 : decode cX13_goRow 66 = .ok (.iload_n 3, 1) := by decide +kernel
theorem dX13_goRow_67 : decode cX13_goRow 67 = .ok (.imul, 1) := by decide +kernel
theorem dX13_goRow_68 : decode cX13_goRow 68 = .ok (.iload 5, 2) := by decide +kernel
theorem dX13_goRow_70 : decode cX13_goRow 70 = .ok (.iadd, 1) := by decide +kernel
theorem dX13_goRow_71 : decode cX13_goRow 71 = .ok (.iload_n 1, 1) := by decide +kernel
theorem dX13_goRow_72 : decode cX13_goRow 72 = .ok (.iconst (-1), 1) := by decide +kernel
theorem dX13_goRow_73 : decode cX13_goRow 73 = .ok (.if_icmp .ne 8, 3) := by decide +kernel
theorem dX13_goRow_76 : decode cX13_goRow 76 = .ok (.iload 4, 2) := by decide +kernel
theorem dX13_goRow_78 : decode cX13_goRow 78 = .ok (.goto 22, 3) := by decide +kernel
theorem dX13_goRow_81 : decode cX13_goRow 81 = .ok (.aload_n 0, 1) := by decide +kernel
theorem dX13_goRow_82 : decode cX13_goRow 82 = .ok (.iload 4, 2) := by decide +kernel
theorem dX13_goRow_84 : decode cX13_goRow 84 = .ok (.iload_n 1, 1) := by decide +kernel
theorem dX13_goRow_85 : decode cX13_goRow 85 = .ok (.aload_n 0, 1) := by decide +kernel
theorem dX13_goRow_86 : decode cX13_goRow 86 = .ok (.getfield 124, 3) := by decide +kernel
theorem dX13_goRow_89 : decode cX13_goRow 89 = .ok (.bipush 6, 2) := by decide +kernel
theorem dX13_goRow_91 : decode cX13_goRow 91 = .ok (.iload_n 1, 1) := by decide +kernel
theorem dX13_goRow_92 : decode cX13_goRow 92 = .ok (.imul, 1) := by decide +kernel
theorem dX13_goRow_93 : decode cX13_goRow 93 = .ok (.iload 5, 2) := by decide +kernel
theorem dX13_goRow_95 : decode cX13_goRow 95 = .ok (.iadd, 1) := by decide +kernel
theorem dX13_goRow_96 : decode cX13_goRow 96 = .ok (.iaload, 1) := by decide +kernel
theorem dX13_goRow_97 : decode cX13_goRow 97 = .ok (.invokevirtual 524, 3) := by decide +kernel
theorem dX13_goRow_100 : decode cX13_goRow 100 = .ok (.invokevirtual 534, 3) := by decide +kernel
theorem dX13_goRow_103 : decode cX13_goRow 103 = .ok (.iinc 5 1, 3) := by decide +kernel
theorem dX13_goRow_106 : decode cX13_goRow 106 = .ok (.goto (-69), 3) := by decide +kernel
theorem dX13_goRow_109 : decode cX13_goRow 109 = .ok (.return_, 1) := by decide +kernel
def fX13_goRow_L37 (rc : eg_H → Nat → Int32 → Int32 → Int32 → Int32 → Option (eg_H)) : Nat → eg_H → Nat → Int32 → Int32 → Int32 → Int32 → Int32 → Option (eg_H)
  | 0, _, _, _, _, _, _, _ => none
  | n + 1, h, l0, l1, l2, l3, l4, l5 =>
    (eg_gI h 13 24 l0).bind fun v1 =>
    if v1 ≤ l5 then
      (some h)
    else
      (fX13_has h l2 l5).bind fun ⟨v5, h4⟩ =>
      if v5 = 0 then
        (if l1 = (-1 : Int32) then
          (if eg_isO h4 13 l0 then (
          (rc h4 l0 l5 (l2 ||| ((1 : Int32) <<< (l5 &&& 31))) (((10 : Int32) * l3) + l5) l4).bind fun h9 =>
          fX13_goRow_L37 rc n h9 l0 l1 l2 l3 l4 (l5 + (1 : Int32))) else none)
        else
          (eg_gR h4 13 66 l0).bind fun p12 =>
          (eg_aI h4 100 p12 (((6 : Int32) * l1) + l5)).bind fun v14 =>
          (fX13_afterHop h4 l0 l4 l1 v14).bind fun ⟨v17, h16⟩ =>
          if eg_isO h16 13 l0 then (
          (rc h16 l0 l5 (l2 ||| ((1 : Int32) <<< (l5 &&& 31))) (((10 : Int32) * l3) + l5) v17).bind fun h19 =>
          fX13_goRow_L37 rc n h19 l0 l1 l2 l3 l4 (l5 + (1 : Int32))) else none)
      else
        fX13_goRow_L37 rc n h4 l0 l1 l2 l3 l4 (l5 + (1 : Int32))
set_option maxRecDepth 20000 in
theorem fX13_goRow_L37_ok {rc : eg_H → Nat → Int32 → Int32 → Int32 → Int32 → Option (eg_H)} {dr : Nat} (hdr : 1 ≤ dr) (hrc : ∀ (h : eg_H) (a0 : Nat) (a1 : Int32) (a2 : Int32) (a3 : Int32) (a4 : Int32) (hE : eg_H), rc h a0 a1 a2 a3 a4 = some hE → eg_Met yX13_goRow cX13_goRow 6 none dr [.ref a0, .int a1, .int a2, .int a3, .int a4] h none hE) {h0 : eg_H} {Z : eg_C → State → Prop} {N S : Nat} : ∀ (n : Nat) (h : eg_H) (l0 : Nat) (l1 : Int32) (l2 : Int32) (l3 : Int32) (l4 : Int32) (l5 : Int32) (eE : eg_H), fX13_goRow_L37 rc n h l0 l1 l2 l3 l4 l5 = some eE → (hk0 : ∀  (h : eg_H), eE = h → eg_AW (RX13, cX13_goRow, 6, dr + 1, none, "goRow", none) Z N S h0 109 [] [] h) → eg_AW (RX13, cX13_goRow, 6, dr + 1, none, "goRow", none) Z N S h0 37 [(0, .ref l0), (1, .int l1), (2, .int l2), (3, .int l3), (4, .int l4), (5, .int l5)] [] h := by
  intro n
  induction n with
  | zero => intro h l0 l1 l2 l3 l4 l5 eE hF; exact absurd hF (by intro q; cases q)
  | succ n ih =>
    intro h l0 l1 l2 l3 l4 l5 eE hF hk0
    have hrec := fun (h' : eg_H) (l0 : Nat) (l1 : Int32) (l2 : Int32) (l3 : Int32) (l4 : Int32) (l5 : Int32) hq => ih h' l0 l1 l2 l3 l4 l5 eE hq hk0
    refine eg_iload (i := 5) 5 dX13_goRow_37 rfl ?_
    refine eg_aload_n (i := 0) 0 dX13_goRow_39 rfl rfl ?_
    replace hF := eg_bind hF; obtain ⟨v1, e2, hF⟩ := hF
    refine eg_getI dX13_goRow_40 e2 (Nat.le_of_ble_eq_true rfl) (Nat.le_of_ble_eq_true rfl) rfl ew_1458 ?_
    refine eg_ic_ge 109 dX13_goRow_43 rfl (fun c3 => ?_) (fun c3 => ?_)
    · replace hF := eg_it c3 hF
      exact eg_sub [] [] rfl (hk0 h (Option.some.inj hF).symm)
    · replace hF := eg_if c3 hF
      refine eg_iload_n (i := 2) 2 dX13_goRow_46 rfl rfl ?_
      refine eg_iload (i := 5) 5 dX13_goRow_47 rfl ?_
      replace hF := eg_bind hF; obtain ⟨⟨v5, h4⟩, e6, hF⟩ := hF
      refine eg_callS (n := 2) [.int l2, .int l5] dX13_goRow_49 (mX13_has e6) rfl ew_1777 ew_1778 ew_110 ew_1779 hy_X13_has.2 rfl (by have := eg_D_eq; omega) (Nat.le_of_ble_eq_true rfl) (Nat.le_of_ble_eq_true rfl) ?_
      refine eg_if_ne 103 dX13_goRow_52 rfl (fun c7 => ?_) (fun c7 => ?_)
      · replace hF := eg_it c7 hF
        refine eg_aload_n (i := 0) 0 dX13_goRow_55 rfl rfl ?_
        refine eg_iload (i := 5) 5 dX13_goRow_56 rfl ?_
        refine eg_iload_n (i := 2) 2 dX13_goRow_58 rfl rfl ?_
        refine eg_iconst (v := (1 : Int32)) dX13_goRow_59 (by decide) ?_
        refine eg_iload (i := 5) 5 dX13_goRow_60 rfl ?_
        refine eg_ishl dX13_goRow_62 ?_
        refine eg_ior dX13_goRow_63 ?_
        refine eg_bipush (v := (10 : Int32)) dX13_goRow_64 (by decide) ?_
        refine eg_iload_n (i := 3) 3 dX13_goRow_66 rfl rfl ?_
        refine eg_imul dX13_goRow_67 ?_
        refine eg_iload (i := 5) 5 dX13_goRow_68 rfl ?_
        refine eg_iadd dX13_goRow_70 ?_
        refine eg_iload_n (i := 1) 1 dX13_goRow_71 rfl rfl ?_
        refine eg_iconst (v := (-1 : Int32)) dX13_goRow_72 (by decide) ?_
        refine eg_ic_ne 81 dX13_goRow_73 rfl (fun c8 => ?_) (fun c8 => ?_)
        · replace hF := eg_it c8 hF
          refine eg_iload (i := 4) 4 dX13_goRow_76 rfl ?_
          refine eg_goto 100 dX13_goRow_78 rfl ?_
          replace hF := eg_ifn hF; obtain ⟨c11, hF⟩ := hF
          replace hF := eg_bind hF; obtain ⟨h9, e10, hF⟩ := hF
          refine eg_callV (c := 13) (n := 4) [.int l5, .int (l2 ||| ((1 : Int32) <<< (l5 &&& 31))), .int (((10 : Int32) * l3) + l5), .int l4] dX13_goRow_100 (hrc _ _ _ _ _ _ _ e10) rfl c11 (Nat.le_of_ble_eq_true rfl) rfl ew_2169 ew_2171 ew_98 ew_110 ew_2172 hy_X13_goRow rfl (by have := eg_D_eq; omega) (Nat.le_of_ble_eq_true rfl) (Nat.le_of_ble_eq_true rfl) ?_
          refine eg_iinc (i := 5) (v := (l5 + (1 : Int32))) 5 [(5, .int (l5 + (1 : Int32))), (0, .ref l0), (1, .int l1), (2, .int l2), (3, .int l3), (4, .int l4)] dX13_goRow_103 rfl rfl (Nat.le_of_ble_eq_true rfl) rfl ?_
          refine eg_goto 37 dX13_goRow_106 rfl ?_
          exact eg_sub [1, 2, 3, 4, 5, 0] [(0, .ref l0), (1, .int l1), (2, .int l2), (3, .int l3), (4, .int l4), (5, .int (l5 + (1 : Int32)))] rfl (hrec h9 l0 l1 l2 l3 l4 (l5 + (1 : Int32)) hF)
        · replace hF := eg_if c8 hF
          refine eg_aload_n (i := 0) 0 dX13_goRow_81 rfl rfl ?_
          refine eg_iload (i := 4) 4 dX13_goRow_82 rfl ?_
          refine eg_iload_n (i := 1) 1 dX13_goRow_84 rfl rfl ?_
          refine eg_aload_n (i := 0) 0 dX13_goRow_85 rfl rfl ?_
          replace hF := eg_bind hF; obtain ⟨p12, e13, hF⟩ := hF
          refine eg_getR dX13_goRow_86 e13 (Nat.le_of_ble_eq_true rfl) (Nat.le_of_ble_eq_true rfl) rfl ew_1500 ?_
          refine eg_bipush (v := (6 : Int32)) dX13_goRow_89 (by decide) ?_
          refine eg_iload_n (i := 1) 1 dX13_goRow_91 rfl rfl ?_
          refine eg_imul dX13_goRow_92 ?_
          refine eg_iload (i := 5) 5 dX13_goRow_93 rfl ?_
          refine eg_iadd dX13_goRow_95 ?_
          replace hF := eg_bind hF; obtain ⟨v14, e15, hF⟩ := hF
          refine eg_iald dX13_goRow_96 e15 ?_
          replace hF := eg_bind hF; obtain ⟨⟨v17, h16⟩, e18, hF⟩ := hF
          refine eg_callV (c := 13) (n := 3) [.int l4, .int l1, .int v14] dX13_goRow_97 (mX13_afterHop e18) rfl (fX13_afterHop_O e18) (Nat.le_of_ble_eq_true rfl) rfl ew_2161 ew_2163 ew_97 ew_110 ew_2164 hy_X13_afterHop rfl (by have := eg_D_eq; omega) (Nat.le_of_ble_eq_true rfl) (Nat.le_of_ble_eq_true rfl) ?_
          replace hF := eg_ifn hF; obtain ⟨c21, hF⟩ := hF
          replace hF := eg_bind hF; obtain ⟨h19, e20, hF⟩ := hF
          refine eg_callV (c := 13) (n := 4) [.int l5, .int (l2 ||| ((1 : Int32) <<< (l5 &&& 31))), .int (((10 : Int32) * l3) + l5), .int v17] dX13_goRow_100 (hrc _ _ _ _ _ _ _ e20) rfl c21 (Nat.le_of_ble_eq_true rfl) rfl ew_2169 ew_2171 ew_98 ew_110 ew_2172 hy_X13_goRow rfl (by have := eg_D_eq; omega) (Nat.le_of_ble_eq_true rfl) (Nat.le_of_ble_eq_true rfl) ?_
          refine eg_iinc (i := 5) (v := (l5 + (1 : Int32))) 5 [(5, .int (l5 + (1 : Int32))), (0, .ref l0), (1, .int l1), (2, .int l2), (3, .int l3), (4, .int l4)] dX13_goRow_103 rfl rfl (Nat.le_of_ble_eq_true rfl) rfl ?_
          refine eg_goto 37 dX13_goRow_106 rfl ?_
          exact eg_sub [1, 2, 3, 4, 5, 0] [(0, .ref l0), (1, .int l1), (2, .int l2), (3, .int l3), (4, .int l4), (5, .int (l5 + (1 : Int32)))] rfl (hrec h19 l0 l1 l2 l3 l4 (l5 + (1 : Int32)) hF)
      · replace hF := eg_if c7 hF
        refine eg_iinc (i := 5) (v := (l5 + (1 : Int32))) 5 [(5, .int (l5 + (1 : Int32))), (0, .ref l0), (1, .int l1), (2, .int l2), (3, .int l3), (4, .int l4)] dX13_goRow_103 rfl rfl (Nat.le_of_ble_eq_true rfl) rfl ?_
        refine eg_goto 37 dX13_goRow_106 rfl ?_
        exact eg_sub [1, 2, 3, 4, 5, 0] [(0, .ref l0), (1, .int l1), (2, .int l2), (3, .int l3), (4, .int l4), (5, .int (l5 + (1 : Int32)))] rfl (hrec h4 l0 l1 l2 l3 l4 (l5 + (1 : Int32)) hF)
def fX13_goRowB (rc : eg_H → Nat → Int32 → Int32 → Int32 → Int32 → Option (eg_H)) (h : eg_H) (l0 : Nat) (l1 : Int32) (l2 : Int32) (l3 : Int32) (l4 : Int32) : Option (eg_H) :=
  if eg_isO h 13 l0 then (
    (eg_gI h 13 24 l0).bind fun v1 =>
    if l2 = (((1 : Int32) <<< (v1 &&& 31)) - (1 : Int32)) then
      ((eg_gI h 13 68 l0).bind fun v4 =>
      if v4 < l4 then
        ((eg_pI h 13 67 l0 l3).bind fun h7 =>
        (eg_pI h7 13 68 l0 l4).bind fun h9 =>
        some h9)
      else
        some h)
    else
      (fX13_goRow_L37 rc eg_F h l0 l1 l2 l3 l4 (0 : Int32)).bind fun e =>
      match e with
      | h13 =>
        some h13) else none
theorem fX13_goRowB_O {rc : eg_H → Nat → Int32 → Int32 → Int32 → Int32 → Option (eg_H)} {h : eg_H} {l0 : Nat} {l1 : Int32} {l2 : Int32} {l3 : Int32} {l4 : Int32} {hE : eg_H} (hF : fX13_goRowB rc h l0 l1 l2 l3 l4 = some hE) : eg_isO h 13 l0 := (eg_ifn hF).1
set_option maxRecDepth 20000 in
theorem mX13_goRowB {rc : eg_H → Nat → Int32 → Int32 → Int32 → Int32 → Option (eg_H)} {dr : Nat} (hdr : 1 ≤ dr) (hrc : ∀ (h : eg_H) (a0 : Nat) (a1 : Int32) (a2 : Int32) (a3 : Int32) (a4 : Int32) (hE : eg_H), rc h a0 a1 a2 a3 a4 = some hE → eg_Met yX13_goRow cX13_goRow 6 none dr [.ref a0, .int a1, .int a2, .int a3, .int a4] h none hE) {h : eg_H} {l0 : Nat} {l1 : Int32} {l2 : Int32} {l3 : Int32} {l4 : Int32} {hE : eg_H} (hF : fX13_goRowB rc h l0 l1 l2 l3 l4 = some hE) : eg_Met yX13_goRow cX13_goRow 6 none (dr + 1) [.ref l0, .int l1, .int l2, .int l3, .int l4] h none hE := by
  refine eg_enter rfl (Nat.le_of_ble_eq_true rfl) ?_
  show eg_AW (RX13, cX13_goRow, 6, dr + 1, none, "goRow", none) (eg_Zm none hE h) (eg_nc hE) (eg_ns hE) h 0 [(0, .ref l0), (1, .int l1), (2, .int l2), (3, .int l3), (4, .int l4)] [] h
  replace hF := (eg_ifn hF).2
  refine eg_iload_n (i := 2) 2 dX13_goRow_0 rfl rfl ?_
  refine eg_iconst (v := (1 : Int32)) dX13_goRow_1 (by decide) ?_
  refine eg_aload_n (i := 0) 0 dX13_goRow_2 rfl rfl ?_
  replace hF := eg_bind hF; obtain ⟨v1, e2, hF⟩ := hF
  refine eg_getI dX13_goRow_3 e2 (Nat.le_of_ble_eq_true rfl) (Nat.le_of_ble_eq_true rfl) rfl ew_1458 ?_
  refine eg_ishl dX13_goRow_6 ?_
  refine eg_iconst (v := (1 : Int32)) dX13_goRow_7 (by decide) ?_
  refine eg_isub dX13_goRow_8 ?_
  refine eg_ic_ne 34 dX13_goRow_9 rfl (fun c3 => ?_) (fun c3 => ?_)
  · replace hF := eg_it c3 hF
    refine eg_iload (i := 4) 4 dX13_goRow_12 rfl ?_
    refine eg_aload_n (i := 0) 0 dX13_goRow_14 rfl rfl ?_
    replace hF := eg_bind hF; obtain ⟨v4, e5, hF⟩ := hF
    refine eg_getI dX13_goRow_15 e5 (Nat.le_of_ble_eq_true rfl) (Nat.le_of_ble_eq_true rfl) rfl ew_1502 ?_
    refine eg_ic_gt 22 dX13_goRow_18 rfl (fun c6 => ?_) (fun c6 => ?_)
    · replace hF := eg_it c6 hF
      refine eg_aload_n (i := 0) 0 dX13_goRow_22 rfl rfl ?_
      refine eg_iload_n (i := 3) 3 dX13_goRow_23 rfl rfl ?_
      replace hF := eg_bind hF; obtain ⟨h7, e8, hF⟩ := hF
      refine eg_putI dX13_goRow_24 e8 (Nat.le_of_ble_eq_true rfl) (Nat.le_of_ble_eq_true rfl) rfl ew_1501 (Or.inl rfl) ?_
      refine eg_aload_n (i := 0) 0 dX13_goRow_27 rfl rfl ?_
      refine eg_iload (i := 4) 4 dX13_goRow_28 rfl ?_
      replace hF := eg_bind hF; obtain ⟨h9, e10, hF⟩ := hF
      refine eg_putI dX13_goRow_30 e10 (Nat.le_of_ble_eq_true rfl) (Nat.le_of_ble_eq_true rfl) rfl ew_1502 (Or.inl rfl) ?_
      exact eg_vretE dX13_goRow_33 hF
    · replace hF := eg_if c6 hF
      exact eg_vretE dX13_goRow_21 hF
  · replace hF := eg_if c3 hF
    refine eg_iconst (v := (0 : Int32)) dX13_goRow_34 (by decide) ?_
    refine eg_istore (i := 5) [(5, .int (0 : Int32)), (0, .ref l0), (1, .int l1), (2, .int l2), (3, .int l3), (4, .int l4)] dX13_goRow_35 (Nat.le_of_ble_eq_true rfl) rfl ?_
    replace hF := eg_bind hF; obtain ⟨x12, e11, hF⟩ := hF
    refine eg_sub [1, 2, 3, 4, 5, 0] [(0, .ref l0), (1, .int l1), (2, .int l2), (3, .int l3), (4, .int l4), (5, .int (0 : Int32))] rfl (fX13_goRow_L37_ok hdr hrc eg_F h l0 l1 l2 l3 l4 (0 : Int32) x12 e11 ?_)
    · intro h13 e14
      subst e14
      exact eg_vretE dX13_goRow_109 hF
def fX13_goRow : Nat → eg_H → Nat → Int32 → Int32 → Int32 → Int32 → Option (eg_H)
  | 0 => fun _ _ _ _ _ _ => none
  | n + 1 => fX13_goRowB (fX13_goRow n)
theorem fX13_goRow_O {n : Nat} {h : eg_H} {l0 : Nat} {l1 : Int32} {l2 : Int32} {l3 : Int32} {l4 : Int32} {hE : eg_H} (hF : fX13_goRow n h l0 l1 l2 l3 l4 = some hE) : eg_isO h 13 l0 := by
  cases n with
  | zero => cases hF
  | succ n => exact fX13_goRowB_O (rc := fX13_goRow n) hF
theorem mX13_goRow_x : ∀ (n : Nat) (h : eg_H) (l0 : Nat) (l1 : Int32) (l2 : Int32) (l3 : Int32) (l4 : Int32) (hE : eg_H), fX13_goRow n h l0 l1 l2 l3 l4 = some hE → eg_Met yX13_goRow cX13_goRow 6 none (1 + 1 * n) [.ref l0, .int l1, .int l2, .int l3, .int l4] h none hE := by
  intro n
  induction n with
  | zero => intro h l0 l1 l2 l3 l4 hE hF; cases hF
  | succ n ih =>
    intro h l0 l1 l2 l3 l4 hE hF
    exact mX13_goRowB (rc := fX13_goRow n) (dr := 1 + 1 * n) (by omega) ih hF
theorem mX13_goRow (n : Nat) {h : eg_H} {l0 : Nat} {l1 : Int32} {l2 : Int32} {l3 : Int32} {l4 : Int32} {hE : eg_H} (hF : fX13_goRow n h l0 l1 l2 l3 l4 = some hE) : eg_Met yX13_goRow cX13_goRow 6 none (1 + 1 * n) [.ref l0, .int l1, .int l2, .int l3, .int l4] h none hE := mX13_goRow_x n h l0 l1 l2 l3 l4 hE hF
theorem dX13_row_0 : decode cX13_row 0 = .ok (.aload_n 0, 1) := by decide +kernel
theorem dX13_row_1 : decode cX13_row 1 = .ok (.iconst 0, 1) := by decide +kernel
theorem dX13_row_2 : decode cX13_row 2 = .ok (.putfield 148, 3) := by decide +kernel
theorem dX13_row_5 : decode cX13_row 5 = .ok (.aload_n 0, 1) := by decide +kernel
theorem dX13_row_6 : decode cX13_row 6 = .ok (.iload_n 1, 1) := by decide +kernel
theorem dX13_row_7 : decode cX13_row 7 = .ok (.invokevirtual 356, 3) := by decide +kernel
theorem dX13_row_10 : decode cX13_row 10 = .ok (.ifCond .eq 25, 3) := by decide +kernel
theorem dX13_row_13 : decode cX13_row 13 = .ok (.iload_n 2, 1) := by decide +kernel
theorem dX13_row_14 : decode cX13_row 14 = .ok (.i2l, 1) := by decide +kernel
theorem dX13_row_15 : decode cX13_row 15 = .ok (.lconst 1, 1) := by decide +kernel
theorem dX13_row_16 : decode cX13_row 16 = .ok (.ldc2_w 380, 3) := by decide +kernel
theorem dX13_row_19 : decode cX13_row 19 = .ok (.invokestatic 269, 3) := by decide +kernel
theorem dX13_row_22 : decode cX13_row 22 = .ok (.ifCond .eq 13, 3) := by decide +kernel
theorem dX13_row_25 : decode cX13_row 25 = .ok (.iload_n 3, 1) := by decide +kernel
theorem dX13_row_26 : decode cX13_row 26 = .ok (.i2l, 1) := by decide +kernel
theorem dX13_row_27 : decode cX13_row 27 = .ok (.lconst 0, 1) := by decide +kernel
theorem dX13_row_28 : decode cX13_row 28 = .ok (.lconst 1, 1) := by decide +kernel
theorem dX13_row_29 : decode cX13_row 29 = .ok (.invokestatic 269, 3) := by decide +kernel
theorem dX13_row_32 : decode cX13_row 32 = .ok (.ifCond .ne 5, 3) := by decide +kernel
theorem dX13_row_35 : decode cX13_row 35 = .ok (.iconst (-1), 1) := by decide +kernel
theorem dX13_row_36 : decode cX13_row 36 = .ok (.ireturn, 1) := by decide +kernel
theorem dX13_row_37 : decode cX13_row 37 = .ok (.iconst 0, 1) := by decide +kernel
theorem dX13_row_38 : decode cX13_row 38 = .ok (.istore 4, 2) := by decide +kernel
theorem dX13_row_40 : decode cX13_row 40 = .ok (.iload 4, 2) := by decide +kernel
theorem dX13_row_42 : decode cX13_row 42 = .ok (.aload_n 0, 1) := by decide +kernel
theorem dX13_row_43 : decode cX13_row 43 = .ok (.getfield 335, 3) := by decide +kernel
theorem dX13_row_46 : decode cX13_row 46 = .ok (.if_icmp .ge 61, 3) := by decide +kernel
theorem dX13_row_49 : decode cX13_row 49 = .ok (.iconst 0, 1) := by decide +kernel
theorem dX13_row_50 : decode cX13_row 50 = .ok (.istore 5, 2) := by decide +kernel
theorem dX13_row_52 : decode cX13_row 52 = .ok (.iload 5, 2) := by decide +kernel
theorem dX13_row_54 : decode cX13_row 54 = .ok (.aload_n 0, 1) := by decide +kernel
theorem dX13_row_55 : decode cX13_row 55 = .ok (.getfield 335, 3) := by decide +kernel
theorem dX13_row_58 : decode cX13_row 58 = .ok (.if_icmp .ge 43, 3) := by decide +kernel
theorem dX13_row_61 : decode cX13_row 61 = .ok (.aload_n 0, 1) := by decide +kernel
theorem dX13_row_62 : decode cX13_row 62 = .ok (.getfield 124, 3) := by decide +kernel
theorem dX13_row_65 : decode cX13_row 65 = .ok (.bipush 6, 2) := by decide +kernel
theorem dX13_row_67 : decode cX13_row 67 = .ok (.iload 4, 2) := by decide +kernel
theorem dX13_row_69 : decode cX13_row 69 = .ok (.imul, 1) := by decide +kernel
theorem dX13_row_70 : decode cX13_row 70 = .ok (.iload 5, 2) := by decide +kernel
theorem dX13_row_72 : decode cX13_row 72 = .ok (.iadd, 1) := by decide +kernel
theorem dX13_row_73 : decode cX13_row 73 = .ok (.iload 4, 2) := by decide +kernel
theorem dX13_row_75 : decode cX13_row 75 = .ok (.iload 5, 2) := by decide +kernel
theorem dX13_row_77 : decode cX13_row 77 = .ok (.if_icmp .ne 7, 3) := by decide +kernel
theorem dX13_row_80 : decode cX13_row 80 = .ok (.iconst 0, 1) := by decide +kernel
theorem dX13_row_81 : decode cX13_row 81 = .ok (.goto 13, 3) := by decide +kernel
theorem dX13_row_84 : decode cX13_row 84 = .ok (.aload_n 0, 1) := by decide +kernel
theorem dX13_row_85 : decode cX13_row 85 = .ok (.iload 4, 2) := by decide +kernel
theorem dX13_row_87 : decode cX13_row 87 = .ok (.iload 5, 2) := by decide +kernel
theorem dX13_row_89 : decode cX13_row 89 = .ok (.iload_n 1, 1) := by decide +kernel
theorem dX13_row_90 : decode cX13_row 90 = .ok (.iload_n 2, 1) := by decide +kernel
theorem dX13_row_91 : decode cX13_row 91 = .ok (.invokevirtual 521, 3) := by decide +kernel
theorem dX13_row_94 : decode cX13_row 94 = .ok (.iastore, 1) := by decide +kernel
theorem dX13_row_95 : decode cX13_row 95 = .ok (.iinc 5 1, 3) := by decide +kernel
theorem dX13_row_98 : decode cX13_row 98 = .ok (.goto (-46), 3) := by decide +kernel
theorem dX13_row_101 : decode cX13_row 101 = .ok (.iinc 4 1, 3) := by decide +kernel
theorem dX13_row_104 : decode cX13_row 104 = .ok (.goto (-64), 3) := by decide +kernel
theorem dX13_row_107 : decode cX13_row 107 = .ok (.aload_n 0, 1) := by decide +kernel
theorem dX13_row_108 : decode cX13_row 108 = .ok (.iconst (-1), 1) := by decide +kernel
theorem dX13_row_109 : decode cX13_row 109 = .ok (.putfield 528, 3) := by decide +kernel
theorem dX13_row_112 : decode cX13_row 112 = .ok (.aload_n 0, 1) := by decide +kernel
theorem dX13_row_113 : decode cX13_row 113 = .ok (.iconst (-1), 1) := by decide +kernel
theorem dX13_row_114 : decode cX13_row 114 = .ok (.iconst 0, 1) := by decide +kernel
theorem dX13_row_115 : decode cX13_row 115 = .ok (.iconst 0, 1) := by decide +kernel
theorem dX13_row_116 : decode cX13_row 116 = .ok (.ldc_w 429, 3) := by decide +kernel
theorem dX13_row_119 : decode cX13_row 119 = .ok (.invokevirtual 534, 3) := by decide +kernel
theorem dX13_row_122 : decode cX13_row 122 = .ok (.iload_n 3, 1) := by decide +kernel
theorem dX13_row_123 : decode cX13_row 123 = .ok (.ifCond .ne 10, 3) := by decide +kernel
theorem dX13_row_126 : decode cX13_row 126 = .ok (.aload_n 0, 1) := by decide +kernel
theorem dX13_row_127 : decode cX13_row 127 = .ok (.getfield 531, 3) := by decide +kernel
theorem dX13_row_130 : decode cX13_row 130 = .ok (.goto 7, 3) := by decide +kernel
theorem dX13_row_133 : decode cX13_row 133 = .ok (.aload_n 0, 1) := by decide +kernel
theorem dX13_row_134 : decode cX13_row 134 = .ok (.getfield 528, 3) := by decide +kernel
theorem dX13_row_137 : decode cX13_row 137 = .ok (.ireturn, 1) := by decide +kernel
def fX13_row_L52 : Nat → eg_H → Nat → Int32 → Int32 → Int32 → Int32 → Int32 → Option (Nat × Int32 × Int32 × Int32 × Int32 × eg_H)
  | 0, _, _, _, _, _, _, _ => none
  | n + 1, h, l0, l1, l2, l3, l4, l5 =>
    (eg_gI h 13 24 l0).bind fun v1 =>
    if v1 ≤ l5 then
      (some (l0, l1, l2, l3, l4, h))
    else
      (eg_gR h 13 66 l0).bind fun p4 =>
      if l4 = l5 then
        ((eg_wI h 100 p4 (((6 : Int32) * l4) + l5) (0 : Int32)).bind fun h7 =>
        fX13_row_L52 n h7 l0 l1 l2 l3 l4 (l5 + (1 : Int32)))
      else
        (fX13_hopOf h l0 l4 l5 l1 l2).bind fun ⟨v10, h9⟩ =>
        (eg_wI h9 100 p4 (((6 : Int32) * l4) + l5) v10).bind fun h12 =>
        fX13_row_L52 n h12 l0 l1 l2 l3 l4 (l5 + (1 : Int32))
set_option maxRecDepth 20000 in
theorem fX13_row_L52_ok {h0 : eg_H} {Z : eg_C → State → Prop} {N S : Nat} : ∀ (n : Nat) (h : eg_H) (l0 : Nat) (l1 : Int32) (l2 : Int32) (l3 : Int32) (l4 : Int32) (l5 : Int32) (eE : Nat × Int32 × Int32 × Int32 × Int32 × eg_H), fX13_row_L52 n h l0 l1 l2 l3 l4 l5 = some eE → (hk0 : ∀ (l0 : Nat) (l1 : Int32) (l2 : Int32) (l3 : Int32) (l4 : Int32) (h : eg_H), eE = (l0, l1, l2, l3, l4, h) → eg_AW (RX13, cX13_row, 6, 399, none, "row", (some .int)) Z N S h0 101 [(0, .ref l0), (1, .int l1), (2, .int l2), (3, .int l3), (4, .int l4)] [] h) → eg_AW (RX13, cX13_row, 6, 399, none, "row", (some .int)) Z N S h0 52 [(0, .ref l0), (1, .int l1), (2, .int l2), (3, .int l3), (4, .int l4), (5, .int l5)] [] h := by
  intro n
  induction n with
  | zero => intro h l0 l1 l2 l3 l4 l5 eE hF; exact absurd hF (by intro q; cases q)
  | succ n ih =>
    intro h l0 l1 l2 l3 l4 l5 eE hF hk0
    have hrec := fun (h' : eg_H) (l0 : Nat) (l1 : Int32) (l2 : Int32) (l3 : Int32) (l4 : Int32) (l5 : Int32) hq => ih h' l0 l1 l2 l3 l4 l5 eE hq hk0
    refine eg_iload (i := 5) 5 dX13_row_52 rfl ?_
    refine eg_aload_n (i := 0) 0 dX13_row_54 rfl rfl ?_
    replace hF := eg_bind hF; obtain ⟨v1, e2, hF⟩ := hF
    refine eg_getI dX13_row_55 e2 (Nat.le_of_ble_eq_true rfl) (Nat.le_of_ble_eq_true rfl) rfl ew_1458 ?_
    refine eg_ic_ge 101 dX13_row_58 rfl (fun c3 => ?_) (fun c3 => ?_)
    · replace hF := eg_it c3 hF
      exact eg_sub [0, 1, 2, 3, 4] [(0, .ref l0), (1, .int l1), (2, .int l2), (3, .int l3), (4, .int l4)] rfl (hk0 l0 l1 l2 l3 l4 h (Option.some.inj hF).symm)
    · replace hF := eg_if c3 hF
      refine eg_aload_n (i := 0) 0 dX13_row_61 rfl rfl ?_
      replace hF := eg_bind hF; obtain ⟨p4, e5, hF⟩ := hF
      refine eg_getR dX13_row_62 e5 (Nat.le_of_ble_eq_true rfl) (Nat.le_of_ble_eq_true rfl) rfl ew_1500 ?_
      refine eg_bipush (v := (6 : Int32)) dX13_row_65 (by decide) ?_
      refine eg_iload (i := 4) 4 dX13_row_67 rfl ?_
      refine eg_imul dX13_row_69 ?_
      refine eg_iload (i := 5) 5 dX13_row_70 rfl ?_
      refine eg_iadd dX13_row_72 ?_
      refine eg_iload (i := 4) 4 dX13_row_73 rfl ?_
      refine eg_iload (i := 5) 5 dX13_row_75 rfl ?_
      refine eg_ic_ne 84 dX13_row_77 rfl (fun c6 => ?_) (fun c6 => ?_)
      · replace hF := eg_it c6 hF
        refine eg_iconst (v := (0 : Int32)) dX13_row_80 (by decide) ?_
        refine eg_goto 94 dX13_row_81 rfl ?_
        replace hF := eg_bind hF; obtain ⟨h7, e8, hF⟩ := hF
        refine eg_iast dX13_row_94 e8 ?_
        refine eg_iinc (i := 5) (v := (l5 + (1 : Int32))) 5 [(5, .int (l5 + (1 : Int32))), (0, .ref l0), (1, .int l1), (2, .int l2), (3, .int l3), (4, .int l4)] dX13_row_95 rfl rfl (Nat.le_of_ble_eq_true rfl) rfl ?_
        refine eg_goto 52 dX13_row_98 rfl ?_
        exact eg_sub [1, 2, 3, 4, 5, 0] [(0, .ref l0), (1, .int l1), (2, .int l2), (3, .int l3), (4, .int l4), (5, .int (l5 + (1 : Int32)))] rfl (hrec h7 l0 l1 l2 l3 l4 (l5 + (1 : Int32)) hF)
      · replace hF := eg_if c6 hF
        refine eg_aload_n (i := 0) 0 dX13_row_84 rfl rfl ?_
        refine eg_iload (i := 4) 4 dX13_row_85 rfl ?_
        refine eg_iload (i := 5) 5 dX13_row_87 rfl ?_
        refine eg_iload_n (i := 1) 1 dX13_row_89 rfl rfl ?_
        refine eg_iload_n (i := 2) 2 dX13_row_90 rfl rfl ?_
        replace hF := eg_bind hF; obtain ⟨⟨v10, h9⟩, e11, hF⟩ := hF
        refine eg_callV (c := 13) (n := 4) [.int l4, .int l5, .int l1, .int l2] dX13_row_91 (mX13_hopOf e11) rfl (fX13_hopOf_O e11) (Nat.le_of_ble_eq_true rfl) rfl ew_2157 ew_2159 ew_96 ew_110 ew_2160 hy_X13_hopOf rfl (Nat.le_of_ble_eq_true rfl) (Nat.le_of_ble_eq_true rfl) (Nat.le_of_ble_eq_true rfl) ?_
        replace hF := eg_bind hF; obtain ⟨h12, e13, hF⟩ := hF
        refine eg_iast dX13_row_94 e13 ?_
        refine eg_iinc (i := 5) (v := (l5 + (1 : Int32))) 5 [(5, .int (l5 + (1 : Int32))), (0, .ref l0), (1, .int l1), (2, .int l2), (3, .int l3), (4, .int l4)] dX13_row_95 rfl rfl (Nat.le_of_ble_eq_true rfl) rfl ?_
        refine eg_goto 52 dX13_row_98 rfl ?_
        exact eg_sub [1, 2, 3, 4, 5, 0] [(0, .ref l0), (1, .int l1), (2, .int l2), (3, .int l3), (4, .int l4), (5, .int (l5 + (1 : Int32)))] rfl (hrec h12 l0 l1 l2 l3 l4 (l5 + (1 : Int32)) hF)
def fX13_row_L40 : Nat → eg_H → Nat → Int32 → Int32 → Int32 → Int32 → Option (Nat × Int32 × eg_H)
  | 0, _, _, _, _, _, _ => none
  | n + 1, h, l0, l1, l2, l3, l4 =>
    (eg_gI h 13 24 l0).bind fun v1 =>
    if v1 ≤ l4 then
      (some (l0, l3, h))
    else
      (fX13_row_L52 eg_F h l0 l1 l2 l3 l4 (0 : Int32)).bind fun e =>
      match e with
      | (p6, v7, v8, v9, v10, h11) =>
        fX13_row_L40 n h11 p6 v7 v8 v9 (v10 + (1 : Int32))
set_option maxRecDepth 20000 in
theorem fX13_row_L40_ok {h0 : eg_H} {Z : eg_C → State → Prop} {N S : Nat} : ∀ (n : Nat) (h : eg_H) (l0 : Nat) (l1 : Int32) (l2 : Int32) (l3 : Int32) (l4 : Int32) (eE : Nat × Int32 × eg_H), fX13_row_L40 n h l0 l1 l2 l3 l4 = some eE → (hk0 : ∀ (l0 : Nat) (l3 : Int32) (h : eg_H), eE = (l0, l3, h) → eg_AW (RX13, cX13_row, 6, 399, none, "row", (some .int)) Z N S h0 107 [(0, .ref l0), (3, .int l3)] [] h) → eg_AW (RX13, cX13_row, 6, 399, none, "row", (some .int)) Z N S h0 40 [(0, .ref l0), (1, .int l1), (2, .int l2), (3, .int l3), (4, .int l4)] [] h := by
  intro n
  induction n with
  | zero => intro h l0 l1 l2 l3 l4 eE hF; exact absurd hF (by intro q; cases q)
  | succ n ih =>
    intro h l0 l1 l2 l3 l4 eE hF hk0
    have hrec := fun (h' : eg_H) (l0 : Nat) (l1 : Int32) (l2 : Int32) (l3 : Int32) (l4 : Int32) hq => ih h' l0 l1 l2 l3 l4 eE hq hk0
    refine eg_iload (i := 4) 4 dX13_row_40 rfl ?_
    refine eg_aload_n (i := 0) 0 dX13_row_42 rfl rfl ?_
    replace hF := eg_bind hF; obtain ⟨v1, e2, hF⟩ := hF
    refine eg_getI dX13_row_43 e2 (Nat.le_of_ble_eq_true rfl) (Nat.le_of_ble_eq_true rfl) rfl ew_1458 ?_
    refine eg_ic_ge 107 dX13_row_46 rfl (fun c3 => ?_) (fun c3 => ?_)
    · replace hF := eg_it c3 hF
      exact eg_sub [0, 3] [(0, .ref l0), (3, .int l3)] rfl (hk0 l0 l3 h (Option.some.inj hF).symm)
    · replace hF := eg_if c3 hF
      refine eg_iconst (v := (0 : Int32)) dX13_row_49 (by decide) ?_
      refine eg_istore (i := 5) [(5, .int (0 : Int32)), (0, .ref l0), (1, .int l1), (2, .int l2), (3, .int l3), (4, .int l4)] dX13_row_50 (Nat.le_of_ble_eq_true rfl) rfl ?_
      replace hF := eg_bind hF; obtain ⟨x5, e4, hF⟩ := hF
      refine eg_sub [1, 2, 3, 4, 5, 0] [(0, .ref l0), (1, .int l1), (2, .int l2), (3, .int l3), (4, .int l4), (5, .int (0 : Int32))] rfl (fX13_row_L52_ok eg_F h l0 l1 l2 l3 l4 (0 : Int32) x5 e4 ?_)
      · intro p6 v7 v8 v9 v10 h11 e12
        subst e12
        refine eg_iinc (i := 4) (v := (v10 + (1 : Int32))) 4 [(4, .int (v10 + (1 : Int32))), (0, .ref p6), (1, .int v7), (2, .int v8), (3, .int v9)] dX13_row_101 rfl rfl (Nat.le_of_ble_eq_true rfl) rfl ?_
        refine eg_goto 40 dX13_row_104 rfl ?_
        exact eg_sub [1, 2, 3, 4, 0] [(0, .ref p6), (1, .int v7), (2, .int v8), (3, .int v9), (4, .int (v10 + (1 : Int32)))] rfl (hrec h11 p6 v7 v8 v9 (v10 + (1 : Int32)) hF)
def fX13_row (h : eg_H) (l0 : Nat) (l1 : Int32) (l2 : Int32) (l3 : Int32) : Option (Int32 × eg_H) :=
  if eg_isO h 13 l0 then (
    (eg_pI h 13 0 l0 (0 : Int32)).bind fun h1 =>
    (fX13_isEgg h1 l0 l1).bind fun ⟨v4, h3⟩ =>
    if v4 = 0 then
      (some ((-1 : Int32), h3))
    else
      (fX13_isIn h3 l2.toInt64 (1 : Int64) (60 : Int64)).bind fun ⟨v8, h7⟩ =>
      if v8 = 0 then
        (some ((-1 : Int32), h7))
      else
        (fX13_isIn h7 l3.toInt64 (0 : Int64) (1 : Int64)).bind fun ⟨v12, h11⟩ =>
        if v12 = 0 then
          (some ((-1 : Int32), h11))
        else
          (fX13_row_L40 eg_F h11 l0 l1 l2 l3 (0 : Int32)).bind fun e =>
          match e with
          | (p17, v18, h19) =>
            (eg_pI h19 13 68 p17 (-1 : Int32)).bind fun h20 =>
            (fX13_goRow eg_D h20 p17 (-1 : Int32) (0 : Int32) (0 : Int32) (1000000000 : Int32)).bind fun h22 =>
            if v18 = 0 then
              ((eg_gI h22 13 67 p17).bind fun v25 =>
              some (v25, h22))
            else
              (eg_gI h22 13 68 p17).bind fun v27 =>
              some (v27, h22)) else none
theorem fX13_row_O {h : eg_H} {l0 : Nat} {l1 : Int32} {l2 : Int32} {l3 : Int32} {rE : Int32} {hE : eg_H} (hF : fX13_row h l0 l1 l2 l3 = some (rE, hE)) : eg_isO h 13 l0 := (eg_ifn hF).1
set_option maxRecDepth 20000 in
theorem mX13_row {h : eg_H} {l0 : Nat} {l1 : Int32} {l2 : Int32} {l3 : Int32} {rE : Int32} {hE : eg_H} (hF : fX13_row h l0 l1 l2 l3 = some (rE, hE)) : eg_Met yX13_row cX13_row 6 (some .int) 399 [.ref l0, .int l1, .int l2, .int l3] h (some (.int rE)) hE := by
  refine eg_enter rfl (Nat.le_of_ble_eq_true rfl) ?_
  show eg_AW (RX13, cX13_row, 6, 399, none, "row", (some .int)) (eg_Zm (some (.int rE)) hE h) (eg_nc hE) (eg_ns hE) h 0 [(0, .ref l0), (1, .int l1), (2, .int l2), (3, .int l3)] [] h
  replace hF := (eg_ifn hF).2
  refine eg_aload_n (i := 0) 0 dX13_row_0 rfl rfl ?_
  refine eg_iconst (v := (0 : Int32)) dX13_row_1 (by decide) ?_
  replace hF := eg_bind hF; obtain ⟨h1, e2, hF⟩ := hF
  refine eg_putI dX13_row_2 e2 (Nat.le_of_ble_eq_true rfl) (Nat.le_of_ble_eq_true rfl) rfl ew_1434 (Or.inl rfl) ?_
  refine eg_aload_n (i := 0) 0 dX13_row_5 rfl rfl ?_
  refine eg_iload_n (i := 1) 1 dX13_row_6 rfl rfl ?_
  replace hF := eg_bind hF; obtain ⟨⟨v4, h3⟩, e5, hF⟩ := hF
  refine eg_callV (c := 13) (n := 1) [.int l1] dX13_row_7 (mX13_isEgg e5) rfl (fX13_isEgg_O e5) (Nat.le_of_ble_eq_true rfl) rfl ew_1881 ew_1883 ew_72 ew_110 ew_1884 hy_X13_isEgg rfl (Nat.le_of_ble_eq_true rfl) (Nat.le_of_ble_eq_true rfl) (Nat.le_of_ble_eq_true rfl) ?_
  refine eg_if_eq 35 dX13_row_10 rfl (fun c6 => ?_) (fun c6 => ?_)
  · replace hF := eg_it c6 hF
    refine eg_iconst (v := (-1 : Int32)) dX13_row_35 (by decide) ?_
    exact eg_iretE dX13_row_36 hF
  · replace hF := eg_if c6 hF
    refine eg_iload_n (i := 2) 2 dX13_row_13 rfl rfl ?_
    refine eg_i2l dX13_row_14 ?_
    refine eg_lconst (v := (1 : Int64)) dX13_row_15 (by decide) ?_
    refine eg_ldc2 (v := (60 : Int64)) dX13_row_16 ew_1912 ?_
    replace hF := eg_bind hF; obtain ⟨⟨v8, h7⟩, e9, hF⟩ := hF
    refine eg_callS (n := 3) [.long l2.toInt64, .long (1 : Int64), .long (60 : Int64)] dX13_row_19 (mX13_isIn e9) rfl ew_1697 ew_1698 ew_110 ew_1699 hy_X13_isIn.2 rfl (Nat.le_of_ble_eq_true rfl) (Nat.le_of_ble_eq_true rfl) (Nat.le_of_ble_eq_true rfl) ?_
    refine eg_if_eq 35 dX13_row_22 rfl (fun c10 => ?_) (fun c10 => ?_)
    · replace hF := eg_it c10 hF
      refine eg_iconst (v := (-1 : Int32)) dX13_row_35 (by decide) ?_
      exact eg_iretE dX13_row_36 hF
    · replace hF := eg_if c10 hF
      refine eg_iload_n (i := 3) 3 dX13_row_25 rfl rfl ?_
      refine eg_i2l dX13_row_26 ?_
      refine eg_lconst (v := (0 : Int64)) dX13_row_27 (by decide) ?_
      refine eg_lconst (v := (1 : Int64)) dX13_row_28 (by decide) ?_
      replace hF := eg_bind hF; obtain ⟨⟨v12, h11⟩, e13, hF⟩ := hF
      refine eg_callS (n := 3) [.long l3.toInt64, .long (0 : Int64), .long (1 : Int64)] dX13_row_29 (mX13_isIn e13) rfl ew_1697 ew_1698 ew_110 ew_1699 hy_X13_isIn.2 rfl (Nat.le_of_ble_eq_true rfl) (Nat.le_of_ble_eq_true rfl) (Nat.le_of_ble_eq_true rfl) ?_
      refine eg_if_ne 37 dX13_row_32 rfl (fun c14 => ?_) (fun c14 => ?_)
      · replace hF := eg_it c14 hF
        refine eg_iconst (v := (-1 : Int32)) dX13_row_35 (by decide) ?_
        exact eg_iretE dX13_row_36 hF
      · replace hF := eg_if c14 hF
        refine eg_iconst (v := (0 : Int32)) dX13_row_37 (by decide) ?_
        refine eg_istore (i := 4) [(4, .int (0 : Int32)), (0, .ref l0), (1, .int l1), (2, .int l2), (3, .int l3)] dX13_row_38 (Nat.le_of_ble_eq_true rfl) rfl ?_
        replace hF := eg_bind hF; obtain ⟨x16, e15, hF⟩ := hF
        refine eg_sub [1, 2, 3, 4, 0] [(0, .ref l0), (1, .int l1), (2, .int l2), (3, .int l3), (4, .int (0 : Int32))] rfl (fX13_row_L40_ok eg_F h11 l0 l1 l2 l3 (0 : Int32) x16 e15 ?_)
        · intro p17 v18 h19 e29
          subst e29
          refine eg_aload_n (i := 0) 0 dX13_row_107 rfl rfl ?_
          refine eg_iconst (v := (-1 : Int32)) dX13_row_108 (by decide) ?_
          replace hF := eg_bind hF; obtain ⟨h20, e21, hF⟩ := hF
          refine eg_putI dX13_row_109 e21 (Nat.le_of_ble_eq_true rfl) (Nat.le_of_ble_eq_true rfl) rfl ew_1502 (Or.inl rfl) ?_
          refine eg_aload_n (i := 0) 0 dX13_row_112 rfl rfl ?_
          refine eg_iconst (v := (-1 : Int32)) dX13_row_113 (by decide) ?_
          refine eg_iconst (v := (0 : Int32)) dX13_row_114 (by decide) ?_
          refine eg_iconst (v := (0 : Int32)) dX13_row_115 (by decide) ?_
          refine eg_ldcw (v := (1000000000 : Int32)) dX13_row_116 ew_1977 ?_
          replace hF := eg_bind hF; obtain ⟨h22, e23, hF⟩ := hF
          refine eg_callV (c := 13) (n := 4) [.int (-1 : Int32), .int (0 : Int32), .int (0 : Int32), .int (1000000000 : Int32)] dX13_row_119 (mX13_goRow eg_D e23) rfl (fX13_goRow_O e23) (Nat.le_of_ble_eq_true rfl) rfl ew_2169 ew_2171 ew_98 ew_110 ew_2172 hy_X13_goRow rfl (Nat.le_of_ble_eq_true rfl) (Nat.le_of_ble_eq_true rfl) (Nat.le_of_ble_eq_true rfl) ?_
          refine eg_iload_n (i := 3) 1 dX13_row_122 rfl rfl ?_
          refine eg_if_ne 133 dX13_row_123 rfl (fun c24 => ?_) (fun c24 => ?_)
          · replace hF := eg_it c24 hF
            refine eg_aload_n (i := 0) 0 dX13_row_126 rfl rfl ?_
            replace hF := eg_bind hF; obtain ⟨v25, e26, hF⟩ := hF
            refine eg_getI dX13_row_127 e26 (Nat.le_of_ble_eq_true rfl) (Nat.le_of_ble_eq_true rfl) rfl ew_1501 ?_
            refine eg_goto 137 dX13_row_130 rfl ?_
            exact eg_iretE dX13_row_137 hF
          · replace hF := eg_if c24 hF
            refine eg_aload_n (i := 0) 0 dX13_row_133 rfl rfl ?_
            replace hF := eg_bind hF; obtain ⟨v27, e28, hF⟩ := hF
            refine eg_getI dX13_row_134 e28 (Nat.le_of_ble_eq_true rfl) (Nat.le_of_ble_eq_true rfl) rfl ew_1502 ?_
            exact eg_iretE dX13_row_137 hF
theorem dX13_game_0 : decode cX13_game 0 = .ok (.aload_n 0, 1) := by decide +kernel
theorem dX13_game_1 : decode cX13_game 1 = .ok (.iconst 0, 1) := by decide +kernel
theorem dX13_game_2 : decode cX13_game 2 = .ok (.putfield 148, 3) := by decide +kernel
theorem dX13_game_5 : decode cX13_game 5 = .ok (.aload_n 0, 1) := by decide +kernel
theorem dX13_game_6 : decode cX13_game 6 = .ok (.iload_n 1, 1) := by decide +kernel
theorem dX13_game_7 : decode cX13_game 7 = .ok (.invokevirtual 405, 3) := by decide +kernel
theorem dX13_game_10 : decode cX13_game 10 = .ok (.ifCond .eq 20, 3) := by decide +kernel
theorem dX13_game_13 : decode cX13_game 13 = .ok (.aload_n 0, 1) := by decide +kernel
theorem dX13_game_14 : decode cX13_game 14 = .ok (.iload_n 2, 1) := by decide +kernel
theorem dX13_game_15 : decode cX13_game 15 = .ok (.invokevirtual 408, 3) := by decide +kernel
theorem dX13_game_18 : decode cX13_game 18 = .ok (.ifCond .eq 12, 3) := by decide +kernel
theorem dX13_game_21 : decode cX13_game 21 = .ok (.aload_n 0, 1) := by decide +kernel
theorem dX13_game_22 : decode cX13_game 22 = .ok (.getfield 347, 3) := by decide +kernel
theorem dX13_game_25 : decode cX13_game 25 = .ok (.bipush 40, 2) := by decide +kernel
theorem dX13_game_27 : decode cX13_game 27 = .ok (.if_icmp .ne 5, 3) := by decide +kernel
theorem dX13_game_30 : decode cX13_game 30 = .ok (.iconst (-1), 1) := by decide +kernel
theorem dX13_game_31 : decode cX13_game 31 = .ok (.ireturn, 1) := by decide +kernel
theorem dX13_game_32 : decode cX13_game 32 = .ok (.lload_n 3, 1) := by decide +kernel
theorem dX13_game_33 : decode cX13_game 33 = .ok (.lstore 5, 2) := by decide +kernel
theorem dX13_game_35 : decode cX13_game 35 = .ok (.iconst 0, 1) := by decide +kernel
theorem dX13_game_36 : decode cX13_game 36 = .ok (.istore 7, 2) := by decide +kernel
theorem dX13_game_38 : decode cX13_game 38 = .ok (.iconst 1, 1) := by decide +kernel
theorem dX13_game_39 : decode cX13_game 39 = .ok (.istore 8, 2) := by decide +kernel
theorem dX13_game_41 : decode cX13_game 41 = .ok (.iload 8, 2) := by decide +kernel
theorem dX13_game_43 : decode cX13_game 43 = .ok (.ifCond .eq 220, 3) := by decide +kernel
theorem dX13_game_46 : decode cX13_game 46 = .ok (.aload_n 0, 1) := by decide +kernel
theorem dX13_game_47 : decode cX13_game 47 = .ok (.getfield 37, 3) := by decide +kernel
theorem dX13_game_50 : decode cX13_game 50 = .ok (.iconst 3, 1) := by decide +kernel
theorem dX13_game_51 : decode cX13_game 51 = .ok (.iaload, 1) := by decide +kernel
theorem dX13_game_52 : decode cX13_game 52 = .ok (.iload 7, 2) := by decide +kernel
theorem dX13_game_54 : decode cX13_game 54 = .ok (.aload_n 0, 1) := by decide +kernel
theorem dX13_game_55 : decode cX13_game 55 = .ok (.getfield 37, 3) := by decide +kernel
theorem dX13_game_58 : decode cX13_game 58 = .ok (.iconst 2, 1) := by decide +kernel
theorem dX13_game_59 : decode cX13_game 59 = .ok (.iaload, 1) := by decide +kernel
theorem dX13_game_60 : decode cX13_game 60 = .ok (.imul, 1) := by decide +kernel
theorem dX13_game_61 : decode cX13_game 61 = .ok (.iadd, 1) := by decide +kernel
theorem dX13_game_62 : decode cX13_game 62 = .ok (.istore 9, 2) := by decide +kernel
theorem dX13_game_64 : decode cX13_game 64 = .ok (.iload 9, 2) := by decide +kernel
theorem dX13_game_66 : decode cX13_game 66 = .ok (.bipush 60, 2) := by decide +kernel
theorem dX13_game_68 : decode cX13_game 68 = .ok (.if_icmp .le 6, 3) := by decide +kernel
theorem dX13_game_71 : decode cX13_game 71 = .ok (.goto 192, 3) := by decide +kernel
theorem dX13_game_74 : decode cX13_game 74 = .ok (.iload 7, 2) := by decide +kernel
theorem dX13_game_76 : decode cX13_game 76 = .ok (.iconst 2, 1) := by decide +kernel
theorem dX13_game_77 : decode cX13_game 77 = .ok (.irem, 1) := by decide +kernel
theorem dX13_game_78 : decode cX13_game 78 = .ok (.ifCond .ne 7, 3) := by decide +kernel
theorem dX13_game_81 : decode cX13_game 81 = .ok (.iconst 1, 1) := by decide +kernel
theorem dX13_game_82 : decode cX13_game 82 = .ok (.goto 4, 3) := by decide +kernel
theorem dX13_game_85 : decode cX13_game 85 = .ok (.iconst 0, 1) := by decide +kernel
theorem dX13_game_86 : decode cX13_game 86 = .ok (.istore 10, 2) := by decide +kernel
theorem dX13_game_88 : decode cX13_game 88 = .ok (.iload 10, 2) := by decide +kernel
theorem dX13_game_90 : decode cX13_game 90 = .ok (.ifCond .eq 10, 3) := by decide +kernel
theorem dX13_game_93 : decode cX13_game 93 = .ok (.iload_n 1, 1) := by decide +kernel
theorem dX13_game_94 : decode cX13_game 94 = .ok (.bipush 10, 2) := by decide +kernel
theorem dX13_game_96 : decode cX13_game 96 = .ok (.idiv, 1) := by decide +kernel
theorem dX13_game_97 : decode cX13_game 97 = .ok (.goto 7, 3) := by decide +kernel
theorem dX13_game_100 : decode cX13_game 100 = .ok (.iload_n 1, 1) := by decide +kernel
theorem dX13_game_101 : decode cX13_game 101 = .ok (.bipush 10, 2) := by decide +kernel
theorem dX13_game_103 : decode cX13_game 103 = .ok (.irem, 1) := by decide +kernel
theorem dX13_game_104 : decode cX13_game 104 = .ok (.istore 11, 2) := by decide +kernel
theorem dX13_game_106 : decode cX13_game 106 = .ok (.iload 10, 2) := by decide +kernel
theorem dX13_game_108 : decode cX13_game 108 = .ok (.ifCond .eq 10, 3) := by decide +kernel
theorem dX13_game_111 : decode cX13_game 111 = .ok (.iload_n 1, 1) := by decide +kernel
theorem dX13_game_112 : decode cX13_game 112 = .ok (.bipush 10, 2) := by decide +kernel
theorem dX13_game_114 : decode cX13_game 114 = .ok (.irem, 1) := by decide +kernel
theorem dX13_game_115 : decode cX13_game 115 = .ok (.goto 7, 3) := by decide +kernel
theorem dX13_game_118 : decode cX13_game 118 = .ok (.iload_n 1, 1) := by decide +kernel
theorem dX13_game_119 : decode cX13_game 119 = .ok (.bipush 10, 2) := by decide +kernel
theorem dX13_game_121 : decode cX13_game 121 = .ok (.idiv, 1) := by decide +kernel
theorem dX13_game_122 : decode cX13_game 122 = .ok (.istore 12, 2) := by decide +kernel
theorem dX13_game_124 : decode cX13_game 124 = .ok (.iload 10, 2) := by decide +kernel
theorem dX13_game_126 : decode cX13_game 126 = .ok (.ifCond .eq 7, 3) := by decide +kernel
theorem dX13_game_129 : decode cX13_game 129 = .ok (.iload_n 2, 1) := by decide +kernel
theorem dX13_game_130 : decode cX13_game 130 = .ok (.goto 17, 3) := by decide +kernel
theorem dX13_game_133 : decode cX13_game 133 = .ok (.iload_n 2, 1) := by decide +kernel
theorem dX13_game_134 : decode cX13_game 134 = .ok (.bipush 10, 2) := by decide +kernel
theorem dX13_game_136 : decode cX13_game 136 = .ok (.idiv, 1) := by decide +kernel
theorem dX13_game_137 : decode cX13_game 137 = .ok (.bipush 10, 2) := by decide +kernel
theorem dX13_game_139 : decode cX13_game 139 = .ok (.imul, 1) := by decide +kernel
theorem dX13_game_140 : decode cX13_game 140 = .ok (.iconst 1, 1) := by decide +kernel
theorem dX13_game_141 : decode cX13_game 141 = .ok (.iadd, 1) := by decide +kernel
theorem dX13_game_142 : decode cX13_game 142 = .ok (.iload_n 2, 1) := by decide +kernel
theorem dX13_game_143 : decode cX13_game 143 = .ok (.bipush 10, 2) := by decide +kernel
theorem dX13_game_145 : decode cX13_game 145 = .ok (.irem, 1) := by decide +kernel
theorem dX13_game_146 : decode cX13_game 146 = .ok (.isub, 1) := by decide +kernel
theorem dX13_game_147 : decode cX13_game 147 = .ok (.istore 13, 2) := by decide +kernel
theorem dX13_game_149 : decode cX13_game 149 = .ok (.aload_n 0, 1) := by decide +kernel
theorem dX13_game_150 : decode cX13_game 150 = .ok (.iload 11, 2) := by decide +kernel
theorem dX13_game_152 : decode cX13_game 152 = .ok (.iload 12, 2) := by decide +kernel
theorem dX13_game_154 : decode cX13_game 154 = .ok (.iload 13, 2) := by decide +kernel
theorem dX13_game_156 : decode cX13_game 156 = .ok (.iload 9, 2) := by decide +kernel
theorem dX13_game_158 : decode cX13_game 158 = .ok (.invokevirtual 426, 3) := by decide +kernel
theorem dX13_game_161 : decode cX13_game 161 = .ok (.lload 5, 2) := by decide +kernel
theorem dX13_game_163 : decode cX13_game 163 = .ok (.ldc2_w 491, 3) := by decide +kernel
theorem dX13_game_166 : decode cX13_game 166 = .ok (.lmul, 1) := by decide +kernel
theorem dX13_game_167 : decode cX13_game 167 = .ok (.ldc2_w 493, 3) := by decide +kernel
theorem dX13_game_170 : decode cX13_game 170 = .ok (.ladd, 1) := by decide +kernel
theorem dX13_game_171 : decode cX13_game 171 = .ok (.lstore 5, 2) := by decide +kernel
theorem dX13_game_173 : decode cX13_game 173 = .ok (.lload 5, 2) := by decide +kernel
theorem dX13_game_175 : decode cX13_game 175 = .ok (.bipush 33, 2) := by decide +kernel
theorem dX13_game_177 : decode cX13_game 177 = .ok (.lushr, 1) := by decide +kernel
theorem dX13_game_178 : decode cX13_game 178 = .ok (.iconst 2, 1) := by decide +kernel
theorem dX13_game_179 : decode cX13_game 179 = .ok (.aload_n 0, 1) := by decide +kernel
theorem dX13_game_180 : decode cX13_game 180 = .ok (.getfield 43, 3) := by decide +kernel
theorem dX13_game_183 : decode cX13_game 183 = .ok (.iconst 4, 1) := by decide +kernel
theorem dX13_game_184 : decode cX13_game 184 = .ok (.iload 11, 2) := by decide +kernel
theorem dX13_game_186 : decode cX13_game 186 = .ok (.imul, 1) := by decide +kernel
theorem dX13_game_187 : decode cX13_game 187 = .ok (.iaload, 1) := by decide +kernel
theorem dX13_game_188 : decode cX13_game 188 = .ok (.imul, 1) := by decide +kernel
theorem dX13_game_189 : decode cX13_game 189 = .ok (.iconst 1, 1) := by decide +kernel
theorem dX13_game_190 : decode cX13_game 190 = .ok (.iadd, 1) := by decide +kernel
theorem dX13_game_191 : decode cX13_game 191 = .ok (.i2l, 1) := by decide +kernel
theorem dX13_game_192 : decode cX13_game 192 = .ok (.lrem, 1) := by decide +kernel
theorem dX13_game_193 : decode cX13_game 193 = .ok (.l2i, 1) := by decide +kernel
theorem dX13_game_194 : decode cX13_game 194 = .ok (.aload_n 0, 1) := by decide +kernel
theorem dX13_game_195 : decode cX13_game 195 = .ok (.getfield 43, 3) := by decide +kernel
theorem dX13_game_198 : decode cX13_game 198 = .ok (.iconst 4, 1) := by decide +kernel
theorem dX13_game_199 : decode cX13_game 199 = .ok (.iload 11, 2) := by decide +kernel
theorem dX13_game_201 : decode cX13_game 201 = .ok (.imul, 1) := by decide +kernel
theorem dX13_game_202 : decode cX13_game 202 = .ok (.iaload, 1) := by decide +kernel
theorem dX13_game_203 : decode cX13_game 203 = .ok (.isub, 1) := by decide +kernel
theorem dX13_game_204 : decode cX13_game 204 = .ok (.istore 14, 2) := by decide +kernel
theorem dX13_game_206 : decode cX13_game 206 = .ok (.aload_n 0, 1) := by decide +kernel
theorem dX13_game_207 : decode cX13_game 207 = .ok (.iload 12, 2) := by decide +kernel
theorem dX13_game_209 : decode cX13_game 209 = .ok (.iload 13, 2) := by decide +kernel
theorem dX13_game_211 : decode cX13_game 211 = .ok (.iload 9, 2) := by decide +kernel
theorem dX13_game_213 : decode cX13_game 213 = .ok (.aload_n 0, 1) := by decide +kernel
theorem dX13_game_214 : decode cX13_game 214 = .ok (.getfield 420, 3) := by decide +kernel
theorem dX13_game_217 : decode cX13_game 217 = .ok (.invokevirtual 398, 3) := by decide +kernel
theorem dX13_game_220 : decode cX13_game 220 = .ok (.aload_n 0, 1) := by decide +kernel
theorem dX13_game_221 : decode cX13_game 221 = .ok (.aload_n 0, 1) := by decide +kernel
theorem dX13_game_222 : decode cX13_game 222 = .ok (.iload 13, 2) := by decide +kernel
theorem dX13_game_224 : decode cX13_game 224 = .ok (.bipush 10, 2) := by decide +kernel
theorem dX13_game_226 : decode cX13_game 226 = .ok (.irem, 1) := by decide +kernel
theorem dX13_game_227 : decode cX13_game 227 = .ok (.aload_n 0, 1) := by decide +kernel
theorem dX13_game_228 : decode cX13_game 228 = .ok (.getfield 420, 3) := by decide +kernel
theorem dX13_game_231 : decode cX13_game 231 = .ok (.aload_n 0, 1) := by decide +kernel
theorem dX13_game_232 : decode cX13_game 232 = .ok (.getfield 423, 3) := by decide +kernel
theorem dX13_game_235 : decode cX13_game 235 = .ok (.iload 14, 2) := by decide +kernel
theorem dX13_game_237 : decode cX13_game 237 = .ok (.invokevirtual 369, 3) := by decide +kernel
theorem dX13_game_240 : decode cX13_game 240 = .ok (.invokevirtual 395, 3) := by decide +kernel
theorem dX13_game_243 : decode cX13_game 243 = .ok (.istore 8, 2) := by decide +kernel
theorem dX13_game_245 : decode cX13_game 245 = .ok (.iload 7, 2) := by decide +kernel
theorem dX13_game_247 : decode cX13_game 247 = .ok (.iload 8, 2) := by decide +kernel
theorem dX13_game_249 : decode cX13_game 249 = .ok (.ifCond .eq 7, 3) := by decide +kernel
theorem dX13_game_252 : decode cX13_game 252 = .ok (.iconst 1, 1) := by decide +kernel
theorem dX13_game_253 : decode cX13_game 253 = .ok (.goto 4, 3) := by decide +kernel
theorem dX13_game_256 : decode cX13_game 256 = .ok (.iconst 0, 1) := by decide +kernel
theorem dX13_game_257 : decode cX13_game 257 = .ok (.iadd, 1) := by decide +kernel
theorem dX13_game_258 : decode cX13_game 258 = .ok (.istore 7, 2) := by decide +kernel
theorem dX13_game_260 : decode cX13_game 260 = .ok (.goto (-219), 3) := by decide +kernel
theorem dX13_game_263 : decode cX13_game 263 = .ok (.aload_n 0, 1) := by decide +kernel
theorem dX13_game_264 : decode cX13_game 264 = .ok (.getfield 127, 3) := by decide +kernel
theorem dX13_game_267 : decode cX13_game 267 = .ok (.aload_n 0, 1) := by decide +kernel
theorem dX13_game_268 : decode cX13_game 268 = .ok (.getfield 347, 3) := by decide +kernel
theorem dX13_game_271 : decode cX13_game 271 = .ok (.iload_n 1, 1) := by decide +kernel
theorem dX13_game_272 : decode cX13_game 272 = .ok (.iastore, 1) := by decide +kernel
theorem dX13_game_273 : decode cX13_game 273 = .ok (.aload_n 0, 1) := by decide +kernel
theorem dX13_game_274 : decode cX13_game 274 = .ok (.getfield 130, 3) := by decide +kernel
theorem dX13_game_277 : decode cX13_game 277 = .ok (.aload_n 0, 1) := by decide +kernel
theorem dX13_game_278 : decode cX13_game 278 = .ok (.getfield 347, 3) := by decide +kernel
theorem dX13_game_281 : decode cX13_game 281 = .ok (.iload_n 2, 1) := by decide +kernel
theorem dX13_game_282 : decode cX13_game 282 = .ok (.iastore, 1) := by decide +kernel
theorem dX13_game_283 : decode cX13_game 283 = .ok (.aload_n 0, 1) := by decide +kernel
theorem dX13_game_284 : decode cX13_game 284 = .ok (.getfield 133, 3) := by decide +kernel
theorem dX13_game_287 : decode cX13_game 287 = .ok (.aload_n 0, 1) := by decide +kernel
theorem dX13_game_288 : decode cX13_game 288 = .ok (.getfield 347, 3) := by decide +kernel
theorem dX13_game_291 : decode cX13_game 291 = .ok (.iload 7, 2) := by decide +kernel
theorem dX13_game_293 : decode cX13_game 293 = .ok (.iastore, 1) := by decide +kernel
theorem dX13_game_294 : decode cX13_game 294 = .ok (.aload_n 0, 1) := by decide +kernel
theorem dX13_game_295 : decode cX13_game 295 = .ok (.dup, 1) := by decide +kernel
theorem dX13_game_296 : decode cX13_game 296 = .ok (.getfield 347, 3) := by decide +kernel
theorem dX13_game_299 : decode cX13_game 299 = .ok (.iconst 1, 1) := by decide +kernel
theorem dX13_game_300 : decode cX13_game 300 = .ok (.iadd, 1) := by decide +kernel
theorem dX13_game_301 : decode cX13_game 301 = .ok (.putfield 347, 3) := by decide +kernel
theorem dX13_game_304 : decode cX13_game 304 = .ok (.iload 7, 2) := by decide +kernel
theorem dX13_game_306 : decode cX13_game 306 = .ok (.ireturn, 1) := by decide +kernel
def fX13_game_j147 (rec : eg_H → Nat → Int32 → Int32 → Int64 → Int32 → Int32 → Option ((Nat × Int32 × Int32 × Int32 × eg_H) ⊕ (Nat × Int32 × Int32 × Int32 × eg_H))) (h : eg_H) (l0 : Nat) (l1 : Int32) (l2 : Int32) (l5 : Int64) (l7 : Int32) (l9 : Int32) (l11 : Int32) (l12 : Int32) (s0 : Int32) : Option ((Nat × Int32 × Int32 × Int32 × eg_H) ⊕ (Nat × Int32 × Int32 × Int32 × eg_H)) :=
  (fX13_layBest h l0 l11 l12 s0 l9).bind fun h1 =>
  (some (((l5 * (6364136223846793005 : Int64)) + (1442695040888963407 : Int64)))).bind fun v3 =>
  (eg_gR h1 13 20 l0).bind fun p5 =>
  (eg_aI h1 100 p5 ((4 : Int32) * l11)).bind fun v7 =>
  if (((2 : Int32) * v7) + (1 : Int32)).toInt64 = 0 then none else
  (eg_gR h1 13 20 l0).bind fun p10 =>
  (eg_aI h1 100 p10 ((4 : Int32) * l11)).bind fun v12 =>
  (some ((((v3.toUInt64 >>> ((33 : Int32).toInt64.toUInt64 &&& Int64.toUInt64 63)).toInt64 - (v3.toUInt64 >>> ((33 : Int32).toInt64.toUInt64 &&& Int64.toUInt64 63)).toInt64 / (((2 : Int32) * v7) + (1 : Int32)).toInt64 * (((2 : Int32) * v7) + (1 : Int32)).toInt64).toInt32 - v12))).bind fun v14 =>
  (eg_gI h1 13 36 l0).bind fun v16 =>
  (fX13_layHolds h1 l0 l12 s0 l9 v16).bind fun h18 =>
  (eg_gI h18 13 36 l0).bind fun v20 =>
  (eg_gI h18 13 37 l0).bind fun v22 =>
  (fX13_offOf h18 l0 (s0 % (10 : Int32)) v20 v22 v14).bind fun ⟨v25, h24⟩ =>
  (fX13_isCaught h24 l0 v25).bind fun ⟨v28, h27⟩ =>
  if v28 = 0 then
    ((some ((l7 + (0 : Int32)))).bind fun v31 =>
    rec h27 l0 l1 l2 v3 v31 v28)
  else
    (some ((l7 + (1 : Int32)))).bind fun v33 =>
    rec h27 l0 l1 l2 v3 v33 v28
set_option maxRecDepth 20000 in
theorem fX13_game_j147_ok {rec : eg_H → Nat → Int32 → Int32 → Int64 → Int32 → Int32 → Option ((Nat × Int32 × Int32 × Int32 × eg_H) ⊕ (Nat × Int32 × Int32 × Int32 × eg_H))} {h0 : eg_H} {Z : eg_C → State → Prop} {N S : Nat} (h : eg_H) (l0 : Nat) (l1 : Int32) (l2 : Int32) (l5 : Int64) (l7 : Int32) (l9 : Int32) (l11 : Int32) (l12 : Int32) (s0 : Int32) (eE : (Nat × Int32 × Int32 × Int32 × eg_H) ⊕ (Nat × Int32 × Int32 × Int32 × eg_H)) (hF : fX13_game_j147 rec h l0 l1 l2 l5 l7 l9 l11 l12 s0 = some eE) (hrec : ∀ (h : eg_H) (l0 : Nat) (l1 : Int32) (l2 : Int32) (l5 : Int64) (l7 : Int32) (l8 : Int32), rec h l0 l1 l2 l5 l7 l8 = some eE → eg_AW (RX13, cX13_game, 15, 398, none, "game", (some .int)) Z N S h0 41 [(0, .ref l0), (1, .int l1), (2, .int l2), (5, .long l5), (7, .int l7), (8, .int l8)] [] h) (hk0 : ∀ (l0 : Nat) (l1 : Int32) (l2 : Int32) (l7 : Int32) (h : eg_H), eE = (.inl (l0, l1, l2, l7, h)) → eg_AW (RX13, cX13_game, 15, 398, none, "game", (some .int)) Z N S h0 263 [(0, .ref l0), (1, .int l1), (2, .int l2), (7, .int l7)] [] h) (hk1 : ∀ (l0 : Nat) (l1 : Int32) (l2 : Int32) (l7 : Int32) (h : eg_H), eE = (.inr (l0, l1, l2, l7, h)) → eg_AW (RX13, cX13_game, 15, 398, none, "game", (some .int)) Z N S h0 71 [(0, .ref l0), (1, .int l1), (2, .int l2), (7, .int l7)] [] h) : eg_AW (RX13, cX13_game, 15, 398, none, "game", (some .int)) Z N S h0 147 [(0, .ref l0), (1, .int l1), (2, .int l2), (5, .long l5), (7, .int l7), (9, .int l9), (11, .int l11), (12, .int l12)] [.int s0] h := by
  refine eg_istore (i := 13) [(13, .int s0), (0, .ref l0), (1, .int l1), (2, .int l2), (5, .long l5), (7, .int l7), (9, .int l9), (11, .int l11), (12, .int l12)] dX13_game_147 (Nat.le_of_ble_eq_true rfl) rfl ?_
  refine eg_aload_n (i := 0) 1 dX13_game_149 rfl rfl ?_
  refine eg_iload (i := 11) 7 dX13_game_150 rfl ?_
  refine eg_iload (i := 12) 8 dX13_game_152 rfl ?_
  refine eg_iload (i := 13) 0 dX13_game_154 rfl ?_
  refine eg_iload (i := 9) 6 dX13_game_156 rfl ?_
  replace hF := eg_bind hF; obtain ⟨h1, e2, hF⟩ := hF
  refine eg_callV (c := 13) (n := 4) [.int l11, .int l12, .int s0, .int l9] dX13_game_158 (mX13_layBest e2) rfl (fX13_layBest_O e2) (Nat.le_of_ble_eq_true rfl) rfl ew_1965 ew_1967 ew_84 ew_110 ew_1968 hy_X13_layBest rfl (Nat.le_of_ble_eq_true rfl) (Nat.le_of_ble_eq_true rfl) (Nat.le_of_ble_eq_true rfl) ?_
  refine eg_lload (i := 5) 4 dX13_game_161 rfl ?_
  refine eg_ldc2 (v := (6364136223846793005 : Int64)) dX13_game_163 ew_2111 ?_
  refine eg_lmul dX13_game_166 ?_
  refine eg_ldc2 (v := (1442695040888963407 : Int64)) dX13_game_167 ew_2112 ?_
  refine eg_ladd dX13_game_170 ?_
  replace hF := eg_bind hF; obtain ⟨v3, e4, hF⟩ := hF
  replace e4 := Option.some.inj e4
  rw [e4]
  refine eg_lstore (i := 5) [(5, .long v3), (13, .int s0), (0, .ref l0), (1, .int l1), (2, .int l2), (7, .int l7), (9, .int l9), (11, .int l11), (12, .int l12)] dX13_game_171 (Nat.le_of_ble_eq_true rfl) rfl ?_
  refine eg_lload (i := 5) 0 dX13_game_173 rfl ?_
  refine eg_bipush (v := (33 : Int32)) dX13_game_175 (by decide) ?_
  refine eg_lushr dX13_game_177 ?_
  refine eg_iconst (v := (2 : Int32)) dX13_game_178 (by decide) ?_
  refine eg_aload_n (i := 0) 2 dX13_game_179 rfl rfl ?_
  replace hF := eg_bind hF; obtain ⟨p5, e6, hF⟩ := hF
  refine eg_getR dX13_game_180 e6 (Nat.le_of_ble_eq_true rfl) (Nat.le_of_ble_eq_true rfl) rfl ew_1454 ?_
  refine eg_iconst (v := (4 : Int32)) dX13_game_183 (by decide) ?_
  refine eg_iload (i := 11) 7 dX13_game_184 rfl ?_
  refine eg_imul dX13_game_186 ?_
  replace hF := eg_bind hF; obtain ⟨v7, e8, hF⟩ := hF
  refine eg_iald dX13_game_187 e8 ?_
  refine eg_imul dX13_game_188 ?_
  refine eg_iconst (v := (1 : Int32)) dX13_game_189 (by decide) ?_
  refine eg_iadd dX13_game_190 ?_
  refine eg_i2l dX13_game_191 ?_
  replace hF := eg_nif hF; obtain ⟨c9, hF⟩ := hF
  refine eg_lrem dX13_game_192 c9 ?_
  refine eg_l2i dX13_game_193 ?_
  refine eg_aload_n (i := 0) 2 dX13_game_194 rfl rfl ?_
  replace hF := eg_bind hF; obtain ⟨p10, e11, hF⟩ := hF
  refine eg_getR dX13_game_195 e11 (Nat.le_of_ble_eq_true rfl) (Nat.le_of_ble_eq_true rfl) rfl ew_1454 ?_
  refine eg_iconst (v := (4 : Int32)) dX13_game_198 (by decide) ?_
  refine eg_iload (i := 11) 7 dX13_game_199 rfl ?_
  refine eg_imul dX13_game_201 ?_
  replace hF := eg_bind hF; obtain ⟨v12, e13, hF⟩ := hF
  refine eg_iald dX13_game_202 e13 ?_
  refine eg_isub dX13_game_203 ?_
  replace hF := eg_bind hF; obtain ⟨v14, e15, hF⟩ := hF
  replace e15 := Option.some.inj e15
  rw [e15]
  refine eg_istore (i := 14) [(14, .int v14), (5, .long v3), (13, .int s0), (0, .ref l0), (1, .int l1), (2, .int l2), (7, .int l7), (9, .int l9), (11, .int l11), (12, .int l12)] dX13_game_204 (Nat.le_of_ble_eq_true rfl) rfl ?_
  refine eg_aload_n (i := 0) 3 dX13_game_206 rfl rfl ?_
  refine eg_iload (i := 12) 9 dX13_game_207 rfl ?_
  refine eg_iload (i := 13) 2 dX13_game_209 rfl ?_
  refine eg_iload (i := 9) 7 dX13_game_211 rfl ?_
  refine eg_aload_n (i := 0) 3 dX13_game_213 rfl rfl ?_
  replace hF := eg_bind hF; obtain ⟨v16, e17, hF⟩ := hF
  refine eg_getI dX13_game_214 e17 (Nat.le_of_ble_eq_true rfl) (Nat.le_of_ble_eq_true rfl) rfl ew_1470 ?_
  replace hF := eg_bind hF; obtain ⟨h18, e19, hF⟩ := hF
  refine eg_callV (c := 13) (n := 4) [.int l12, .int s0, .int l9, .int v16] dX13_game_217 (mX13_layHolds e19) rfl (fX13_layHolds_O e19) (Nat.le_of_ble_eq_true rfl) rfl ew_1945 ew_1947 ew_80 ew_110 ew_1948 hy_X13_layHolds rfl (Nat.le_of_ble_eq_true rfl) (Nat.le_of_ble_eq_true rfl) (Nat.le_of_ble_eq_true rfl) ?_
  refine eg_aload_n (i := 0) 3 dX13_game_220 rfl rfl ?_
  refine eg_aload_n (i := 0) 3 dX13_game_221 rfl rfl ?_
  refine eg_iload (i := 13) 2 dX13_game_222 rfl ?_
  refine eg_bipush (v := (10 : Int32)) dX13_game_224 (by decide) ?_
  refine eg_irem dX13_game_226 (by decide) ?_
  refine eg_aload_n (i := 0) 3 dX13_game_227 rfl rfl ?_
  replace hF := eg_bind hF; obtain ⟨v20, e21, hF⟩ := hF
  refine eg_getI dX13_game_228 e21 (Nat.le_of_ble_eq_true rfl) (Nat.le_of_ble_eq_true rfl) rfl ew_1470 ?_
  refine eg_aload_n (i := 0) 3 dX13_game_231 rfl rfl ?_
  replace hF := eg_bind hF; obtain ⟨v22, e23, hF⟩ := hF
  refine eg_getI dX13_game_232 e23 (Nat.le_of_ble_eq_true rfl) (Nat.le_of_ble_eq_true rfl) rfl ew_1471 ?_
  refine eg_iload (i := 14) 0 dX13_game_235 rfl ?_
  replace hF := eg_bind hF; obtain ⟨⟨v25, h24⟩, e26, hF⟩ := hF
  refine eg_callV (c := 13) (n := 4) [.int (s0 % (10 : Int32)), .int v20, .int v22, .int v14] dX13_game_237 (mX13_offOf e26) rfl (fX13_offOf_O e26) (Nat.le_of_ble_eq_true rfl) rfl ew_1900 ew_1902 ew_73 ew_110 ew_1903 hy_X13_offOf rfl (Nat.le_of_ble_eq_true rfl) (Nat.le_of_ble_eq_true rfl) (Nat.le_of_ble_eq_true rfl) ?_
  replace hF := eg_bind hF; obtain ⟨⟨v28, h27⟩, e29, hF⟩ := hF
  refine eg_callV (c := 13) (n := 1) [.int v25] dX13_game_240 (mX13_isCaught e29) rfl (fX13_isCaught_O e29) (Nat.le_of_ble_eq_true rfl) rfl ew_1957 ew_1959 ew_83 ew_110 ew_1960 hy_X13_isCaught rfl (Nat.le_of_ble_eq_true rfl) (Nat.le_of_ble_eq_true rfl) (Nat.le_of_ble_eq_true rfl) ?_
  refine eg_istore (i := 8) [(8, .int v28), (14, .int v14), (5, .long v3), (13, .int s0), (0, .ref l0), (1, .int l1), (2, .int l2), (7, .int l7), (9, .int l9), (11, .int l11), (12, .int l12)] dX13_game_243 (Nat.le_of_ble_eq_true rfl) rfl ?_
  refine eg_iload (i := 7) 7 dX13_game_245 rfl ?_
  refine eg_iload (i := 8) 0 dX13_game_247 rfl ?_
  refine eg_if_eq 256 dX13_game_249 rfl (fun c30 => ?_) (fun c30 => ?_)
  · replace hF := eg_it c30 hF
    refine eg_iconst (v := (0 : Int32)) dX13_game_256 (by decide) ?_
    refine eg_iadd dX13_game_257 ?_
    replace hF := eg_bind hF; obtain ⟨v31, e32, hF⟩ := hF
    replace e32 := Option.some.inj e32
    rw [e32]
    refine eg_istore (i := 7) [(7, .int v31), (8, .int v28), (14, .int v14), (5, .long v3), (13, .int s0), (0, .ref l0), (1, .int l1), (2, .int l2), (9, .int l9), (11, .int l11), (12, .int l12)] dX13_game_258 (Nat.le_of_ble_eq_true rfl) rfl ?_
    refine eg_goto 41 dX13_game_260 rfl ?_
    exact eg_sub [5, 6, 7, 3, 0, 1] [(0, .ref l0), (1, .int l1), (2, .int l2), (5, .long v3), (7, .int v31), (8, .int v28)] rfl (hrec h27 l0 l1 l2 v3 v31 v28 hF)
  · replace hF := eg_if c30 hF
    refine eg_iconst (v := (1 : Int32)) dX13_game_252 (by decide) ?_
    refine eg_goto 257 dX13_game_253 rfl ?_
    refine eg_iadd dX13_game_257 ?_
    replace hF := eg_bind hF; obtain ⟨v33, e34, hF⟩ := hF
    replace e34 := Option.some.inj e34
    rw [e34]
    refine eg_istore (i := 7) [(7, .int v33), (8, .int v28), (14, .int v14), (5, .long v3), (13, .int s0), (0, .ref l0), (1, .int l1), (2, .int l2), (9, .int l9), (11, .int l11), (12, .int l12)] dX13_game_258 (Nat.le_of_ble_eq_true rfl) rfl ?_
    refine eg_goto 41 dX13_game_260 rfl ?_
    exact eg_sub [5, 6, 7, 3, 0, 1] [(0, .ref l0), (1, .int l1), (2, .int l2), (5, .long v3), (7, .int v33), (8, .int v28)] rfl (hrec h27 l0 l1 l2 v3 v33 v28 hF)
def fX13_game_j122 (rec : eg_H → Nat → Int32 → Int32 → Int64 → Int32 → Int32 → Option ((Nat × Int32 × Int32 × Int32 × eg_H) ⊕ (Nat × Int32 × Int32 × Int32 × eg_H))) (h : eg_H) (l0 : Nat) (l1 : Int32) (l2 : Int32) (l5 : Int64) (l7 : Int32) (l9 : Int32) (l10 : Int32) (l11 : Int32) (s0 : Int32) : Option ((Nat × Int32 × Int32 × Int32 × eg_H) ⊕ (Nat × Int32 × Int32 × Int32 × eg_H)) :=
  if l10 = 0 then
    (fX13_game_j147 rec h l0 l1 l2 l5 l7 l9 l11 s0 ((((l2 / (10 : Int32)) * (10 : Int32)) + (1 : Int32)) - (l2 % (10 : Int32))))
  else
    fX13_game_j147 rec h l0 l1 l2 l5 l7 l9 l11 s0 l2
set_option maxRecDepth 20000 in
theorem fX13_game_j122_ok {rec : eg_H → Nat → Int32 → Int32 → Int64 → Int32 → Int32 → Option ((Nat × Int32 × Int32 × Int32 × eg_H) ⊕ (Nat × Int32 × Int32 × Int32 × eg_H))} {h0 : eg_H} {Z : eg_C → State → Prop} {N S : Nat} (h : eg_H) (l0 : Nat) (l1 : Int32) (l2 : Int32) (l5 : Int64) (l7 : Int32) (l9 : Int32) (l10 : Int32) (l11 : Int32) (s0 : Int32) (eE : (Nat × Int32 × Int32 × Int32 × eg_H) ⊕ (Nat × Int32 × Int32 × Int32 × eg_H)) (hF : fX13_game_j122 rec h l0 l1 l2 l5 l7 l9 l10 l11 s0 = some eE) (hrec : ∀ (h : eg_H) (l0 : Nat) (l1 : Int32) (l2 : Int32) (l5 : Int64) (l7 : Int32) (l8 : Int32), rec h l0 l1 l2 l5 l7 l8 = some eE → eg_AW (RX13, cX13_game, 15, 398, none, "game", (some .int)) Z N S h0 41 [(0, .ref l0), (1, .int l1), (2, .int l2), (5, .long l5), (7, .int l7), (8, .int l8)] [] h) (hk0 : ∀ (l0 : Nat) (l1 : Int32) (l2 : Int32) (l7 : Int32) (h : eg_H), eE = (.inl (l0, l1, l2, l7, h)) → eg_AW (RX13, cX13_game, 15, 398, none, "game", (some .int)) Z N S h0 263 [(0, .ref l0), (1, .int l1), (2, .int l2), (7, .int l7)] [] h) (hk1 : ∀ (l0 : Nat) (l1 : Int32) (l2 : Int32) (l7 : Int32) (h : eg_H), eE = (.inr (l0, l1, l2, l7, h)) → eg_AW (RX13, cX13_game, 15, 398, none, "game", (some .int)) Z N S h0 71 [(0, .ref l0), (1, .int l1), (2, .int l2), (7, .int l7)] [] h) : eg_AW (RX13, cX13_game, 15, 398, none, "game", (some .int)) Z N S h0 122 [(0, .ref l0), (1, .int l1), (2, .int l2), (5, .long l5), (7, .int l7), (9, .int l9), (10, .int l10), (11, .int l11)] [.int s0] h := by
  refine eg_istore (i := 12) [(12, .int s0), (0, .ref l0), (1, .int l1), (2, .int l2), (5, .long l5), (7, .int l7), (9, .int l9), (10, .int l10), (11, .int l11)] dX13_game_122 (Nat.le_of_ble_eq_true rfl) rfl ?_
  refine eg_iload (i := 10) 7 dX13_game_124 rfl ?_
  refine eg_if_eq 133 dX13_game_126 rfl (fun c1 => ?_) (fun c1 => ?_)
  · replace hF := eg_it c1 hF
    refine eg_iload_n (i := 2) 3 dX13_game_133 rfl rfl ?_
    refine eg_bipush (v := (10 : Int32)) dX13_game_134 (by decide) ?_
    refine eg_idiv dX13_game_136 (by decide) ?_
    refine eg_bipush (v := (10 : Int32)) dX13_game_137 (by decide) ?_
    refine eg_imul dX13_game_139 ?_
    refine eg_iconst (v := (1 : Int32)) dX13_game_140 (by decide) ?_
    refine eg_iadd dX13_game_141 ?_
    refine eg_iload_n (i := 2) 3 dX13_game_142 rfl rfl ?_
    refine eg_bipush (v := (10 : Int32)) dX13_game_143 (by decide) ?_
    refine eg_irem dX13_game_145 (by decide) ?_
    refine eg_isub dX13_game_146 ?_
    exact eg_sub [1, 2, 3, 4, 5, 6, 8, 0] [(0, .ref l0), (1, .int l1), (2, .int l2), (5, .long l5), (7, .int l7), (9, .int l9), (11, .int l11), (12, .int s0)] rfl (fX13_game_j147_ok h l0 l1 l2 l5 l7 l9 l11 s0 ((((l2 / (10 : Int32)) * (10 : Int32)) + (1 : Int32)) - (l2 % (10 : Int32))) eE hF hrec hk0 hk1)
  · replace hF := eg_if c1 hF
    refine eg_iload_n (i := 2) 3 dX13_game_129 rfl rfl ?_
    refine eg_goto 147 dX13_game_130 rfl ?_
    exact eg_sub [1, 2, 3, 4, 5, 6, 8, 0] [(0, .ref l0), (1, .int l1), (2, .int l2), (5, .long l5), (7, .int l7), (9, .int l9), (11, .int l11), (12, .int s0)] rfl (fX13_game_j147_ok h l0 l1 l2 l5 l7 l9 l11 s0 l2 eE hF hrec hk0 hk1)
def fX13_game_j104 (rec : eg_H → Nat → Int32 → Int32 → Int64 → Int32 → Int32 → Option ((Nat × Int32 × Int32 × Int32 × eg_H) ⊕ (Nat × Int32 × Int32 × Int32 × eg_H))) (h : eg_H) (l0 : Nat) (l1 : Int32) (l2 : Int32) (l5 : Int64) (l7 : Int32) (l9 : Int32) (l10 : Int32) (s0 : Int32) : Option ((Nat × Int32 × Int32 × Int32 × eg_H) ⊕ (Nat × Int32 × Int32 × Int32 × eg_H)) :=
  if l10 = 0 then
    (fX13_game_j122 rec h l0 l1 l2 l5 l7 l9 l10 s0 (l1 / (10 : Int32)))
  else
    fX13_game_j122 rec h l0 l1 l2 l5 l7 l9 l10 s0 (l1 % (10 : Int32))
set_option maxRecDepth 20000 in
theorem fX13_game_j104_ok {rec : eg_H → Nat → Int32 → Int32 → Int64 → Int32 → Int32 → Option ((Nat × Int32 × Int32 × Int32 × eg_H) ⊕ (Nat × Int32 × Int32 × Int32 × eg_H))} {h0 : eg_H} {Z : eg_C → State → Prop} {N S : Nat} (h : eg_H) (l0 : Nat) (l1 : Int32) (l2 : Int32) (l5 : Int64) (l7 : Int32) (l9 : Int32) (l10 : Int32) (s0 : Int32) (eE : (Nat × Int32 × Int32 × Int32 × eg_H) ⊕ (Nat × Int32 × Int32 × Int32 × eg_H)) (hF : fX13_game_j104 rec h l0 l1 l2 l5 l7 l9 l10 s0 = some eE) (hrec : ∀ (h : eg_H) (l0 : Nat) (l1 : Int32) (l2 : Int32) (l5 : Int64) (l7 : Int32) (l8 : Int32), rec h l0 l1 l2 l5 l7 l8 = some eE → eg_AW (RX13, cX13_game, 15, 398, none, "game", (some .int)) Z N S h0 41 [(0, .ref l0), (1, .int l1), (2, .int l2), (5, .long l5), (7, .int l7), (8, .int l8)] [] h) (hk0 : ∀ (l0 : Nat) (l1 : Int32) (l2 : Int32) (l7 : Int32) (h : eg_H), eE = (.inl (l0, l1, l2, l7, h)) → eg_AW (RX13, cX13_game, 15, 398, none, "game", (some .int)) Z N S h0 263 [(0, .ref l0), (1, .int l1), (2, .int l2), (7, .int l7)] [] h) (hk1 : ∀ (l0 : Nat) (l1 : Int32) (l2 : Int32) (l7 : Int32) (h : eg_H), eE = (.inr (l0, l1, l2, l7, h)) → eg_AW (RX13, cX13_game, 15, 398, none, "game", (some .int)) Z N S h0 71 [(0, .ref l0), (1, .int l1), (2, .int l2), (7, .int l7)] [] h) : eg_AW (RX13, cX13_game, 15, 398, none, "game", (some .int)) Z N S h0 104 [(0, .ref l0), (1, .int l1), (2, .int l2), (5, .long l5), (7, .int l7), (9, .int l9), (10, .int l10)] [.int s0] h := by
  refine eg_istore (i := 11) [(11, .int s0), (0, .ref l0), (1, .int l1), (2, .int l2), (5, .long l5), (7, .int l7), (9, .int l9), (10, .int l10)] dX13_game_104 (Nat.le_of_ble_eq_true rfl) rfl ?_
  refine eg_iload (i := 10) 7 dX13_game_106 rfl ?_
  refine eg_if_eq 118 dX13_game_108 rfl (fun c1 => ?_) (fun c1 => ?_)
  · replace hF := eg_it c1 hF
    refine eg_iload_n (i := 1) 2 dX13_game_118 rfl rfl ?_
    refine eg_bipush (v := (10 : Int32)) dX13_game_119 (by decide) ?_
    refine eg_idiv dX13_game_121 (by decide) ?_
    exact eg_sub [1, 2, 3, 4, 5, 6, 7, 0] [(0, .ref l0), (1, .int l1), (2, .int l2), (5, .long l5), (7, .int l7), (9, .int l9), (10, .int l10), (11, .int s0)] rfl (fX13_game_j122_ok h l0 l1 l2 l5 l7 l9 l10 s0 (l1 / (10 : Int32)) eE hF hrec hk0 hk1)
  · replace hF := eg_if c1 hF
    refine eg_iload_n (i := 1) 2 dX13_game_111 rfl rfl ?_
    refine eg_bipush (v := (10 : Int32)) dX13_game_112 (by decide) ?_
    refine eg_irem dX13_game_114 (by decide) ?_
    refine eg_goto 122 dX13_game_115 rfl ?_
    exact eg_sub [1, 2, 3, 4, 5, 6, 7, 0] [(0, .ref l0), (1, .int l1), (2, .int l2), (5, .long l5), (7, .int l7), (9, .int l9), (10, .int l10), (11, .int s0)] rfl (fX13_game_j122_ok h l0 l1 l2 l5 l7 l9 l10 s0 (l1 % (10 : Int32)) eE hF hrec hk0 hk1)
def fX13_game_j86 (rec : eg_H → Nat → Int32 → Int32 → Int64 → Int32 → Int32 → Option ((Nat × Int32 × Int32 × Int32 × eg_H) ⊕ (Nat × Int32 × Int32 × Int32 × eg_H))) (h : eg_H) (l0 : Nat) (l1 : Int32) (l2 : Int32) (l5 : Int64) (l7 : Int32) (l9 : Int32) (s0 : Int32) : Option ((Nat × Int32 × Int32 × Int32 × eg_H) ⊕ (Nat × Int32 × Int32 × Int32 × eg_H)) :=
  if s0 = 0 then
    (fX13_game_j104 rec h l0 l1 l2 l5 l7 l9 s0 (l1 % (10 : Int32)))
  else
    fX13_game_j104 rec h l0 l1 l2 l5 l7 l9 s0 (l1 / (10 : Int32))
set_option maxRecDepth 20000 in
theorem fX13_game_j86_ok {rec : eg_H → Nat → Int32 → Int32 → Int64 → Int32 → Int32 → Option ((Nat × Int32 × Int32 × Int32 × eg_H) ⊕ (Nat × Int32 × Int32 × Int32 × eg_H))} {h0 : eg_H} {Z : eg_C → State → Prop} {N S : Nat} (h : eg_H) (l0 : Nat) (l1 : Int32) (l2 : Int32) (l5 : Int64) (l7 : Int32) (l9 : Int32) (s0 : Int32) (eE : (Nat × Int32 × Int32 × Int32 × eg_H) ⊕ (Nat × Int32 × Int32 × Int32 × eg_H)) (hF : fX13_game_j86 rec h l0 l1 l2 l5 l7 l9 s0 = some eE) (hrec : ∀ (h : eg_H) (l0 : Nat) (l1 : Int32) (l2 : Int32) (l5 : Int64) (l7 : Int32) (l8 : Int32), rec h l0 l1 l2 l5 l7 l8 = some eE → eg_AW (RX13, cX13_game, 15, 398, none, "game", (some .int)) Z N S h0 41 [(0, .ref l0), (1, .int l1), (2, .int l2), (5, .long l5), (7, .int l7), (8, .int l8)] [] h) (hk0 : ∀ (l0 : Nat) (l1 : Int32) (l2 : Int32) (l7 : Int32) (h : eg_H), eE = (.inl (l0, l1, l2, l7, h)) → eg_AW (RX13, cX13_game, 15, 398, none, "game", (some .int)) Z N S h0 263 [(0, .ref l0), (1, .int l1), (2, .int l2), (7, .int l7)] [] h) (hk1 : ∀ (l0 : Nat) (l1 : Int32) (l2 : Int32) (l7 : Int32) (h : eg_H), eE = (.inr (l0, l1, l2, l7, h)) → eg_AW (RX13, cX13_game, 15, 398, none, "game", (some .int)) Z N S h0 71 [(0, .ref l0), (1, .int l1), (2, .int l2), (7, .int l7)] [] h) : eg_AW (RX13, cX13_game, 15, 398, none, "game", (some .int)) Z N S h0 86 [(0, .ref l0), (1, .int l1), (2, .int l2), (5, .long l5), (7, .int l7), (9, .int l9)] [.int s0] h := by
  refine eg_istore (i := 10) [(10, .int s0), (0, .ref l0), (1, .int l1), (2, .int l2), (5, .long l5), (7, .int l7), (9, .int l9)] dX13_game_86 (Nat.le_of_ble_eq_true rfl) rfl ?_
  refine eg_iload (i := 10) 0 dX13_game_88 rfl ?_
  refine eg_if_eq 100 dX13_game_90 rfl (fun c1 => ?_) (fun c1 => ?_)
  · replace hF := eg_it c1 hF
    refine eg_iload_n (i := 1) 2 dX13_game_100 rfl rfl ?_
    refine eg_bipush (v := (10 : Int32)) dX13_game_101 (by decide) ?_
    refine eg_irem dX13_game_103 (by decide) ?_
    exact eg_sub [1, 2, 3, 4, 5, 6, 0] [(0, .ref l0), (1, .int l1), (2, .int l2), (5, .long l5), (7, .int l7), (9, .int l9), (10, .int s0)] rfl (fX13_game_j104_ok h l0 l1 l2 l5 l7 l9 s0 (l1 % (10 : Int32)) eE hF hrec hk0 hk1)
  · replace hF := eg_if c1 hF
    refine eg_iload_n (i := 1) 2 dX13_game_93 rfl rfl ?_
    refine eg_bipush (v := (10 : Int32)) dX13_game_94 (by decide) ?_
    refine eg_idiv dX13_game_96 (by decide) ?_
    refine eg_goto 104 dX13_game_97 rfl ?_
    exact eg_sub [1, 2, 3, 4, 5, 6, 0] [(0, .ref l0), (1, .int l1), (2, .int l2), (5, .long l5), (7, .int l7), (9, .int l9), (10, .int s0)] rfl (fX13_game_j104_ok h l0 l1 l2 l5 l7 l9 s0 (l1 / (10 : Int32)) eE hF hrec hk0 hk1)
def fX13_game_L41 : Nat → eg_H → Nat → Int32 → Int32 → Int64 → Int32 → Int32 → Option ((Nat × Int32 × Int32 × Int32 × eg_H) ⊕ (Nat × Int32 × Int32 × Int32 × eg_H))
  | 0, _, _, _, _, _, _, _ => none
  | n + 1, h, l0, l1, l2, l5, l7, l8 =>
    if l8 = 0 then
      (some (.inl (l0, l1, l2, l7, h)))
    else
      (eg_gR h 13 18 l0).bind fun p2 =>
      (eg_aI h 100 p2 (3 : Int32)).bind fun v4 =>
      (eg_gR h 13 18 l0).bind fun p6 =>
      (eg_aI h 100 p6 (2 : Int32)).bind fun v8 =>
      (some ((v4 + (l7 * v8)))).bind fun v10 =>
      if v10 ≤ (60 : Int32) then
        (if (l7 % (2 : Int32)) = 0 then
          (fX13_game_j86 (fX13_game_L41 n) h l0 l1 l2 l5 l7 v10 (1 : Int32))
        else
          fX13_game_j86 (fX13_game_L41 n) h l0 l1 l2 l5 l7 v10 (0 : Int32))
      else
        some (.inr (l0, l1, l2, l7, h))
set_option maxRecDepth 20000 in
theorem fX13_game_L41_ok {h0 : eg_H} {Z : eg_C → State → Prop} {N S : Nat} : ∀ (n : Nat) (h : eg_H) (l0 : Nat) (l1 : Int32) (l2 : Int32) (l5 : Int64) (l7 : Int32) (l8 : Int32) (eE : (Nat × Int32 × Int32 × Int32 × eg_H) ⊕ (Nat × Int32 × Int32 × Int32 × eg_H)), fX13_game_L41 n h l0 l1 l2 l5 l7 l8 = some eE → (hk0 : ∀ (l0 : Nat) (l1 : Int32) (l2 : Int32) (l7 : Int32) (h : eg_H), eE = (.inl (l0, l1, l2, l7, h)) → eg_AW (RX13, cX13_game, 15, 398, none, "game", (some .int)) Z N S h0 263 [(0, .ref l0), (1, .int l1), (2, .int l2), (7, .int l7)] [] h) → (hk1 : ∀ (l0 : Nat) (l1 : Int32) (l2 : Int32) (l7 : Int32) (h : eg_H), eE = (.inr (l0, l1, l2, l7, h)) → eg_AW (RX13, cX13_game, 15, 398, none, "game", (some .int)) Z N S h0 71 [(0, .ref l0), (1, .int l1), (2, .int l2), (7, .int l7)] [] h) → eg_AW (RX13, cX13_game, 15, 398, none, "game", (some .int)) Z N S h0 41 [(0, .ref l0), (1, .int l1), (2, .int l2), (5, .long l5), (7, .int l7), (8, .int l8)] [] h := by
  intro n
  induction n with
  | zero => intro h l0 l1 l2 l5 l7 l8 eE hF; exact absurd hF (by intro q; cases q)
  | succ n ih =>
    intro h l0 l1 l2 l5 l7 l8 eE hF hk0 hk1
    have hrec := fun (h' : eg_H) (l0 : Nat) (l1 : Int32) (l2 : Int32) (l5 : Int64) (l7 : Int32) (l8 : Int32) hq => ih h' l0 l1 l2 l5 l7 l8 eE hq hk0 hk1
    refine eg_iload (i := 8) 5 dX13_game_41 rfl ?_
    refine eg_if_eq 263 dX13_game_43 rfl (fun c1 => ?_) (fun c1 => ?_)
    · replace hF := eg_it c1 hF
      exact eg_sub [0, 1, 2, 4] [(0, .ref l0), (1, .int l1), (2, .int l2), (7, .int l7)] rfl (hk0 l0 l1 l2 l7 h (Option.some.inj hF).symm)
    · replace hF := eg_if c1 hF
      refine eg_aload_n (i := 0) 0 dX13_game_46 rfl rfl ?_
      replace hF := eg_bind hF; obtain ⟨p2, e3, hF⟩ := hF
      refine eg_getR dX13_game_47 e3 (Nat.le_of_ble_eq_true rfl) (Nat.le_of_ble_eq_true rfl) rfl ew_1452 ?_
      refine eg_iconst (v := (3 : Int32)) dX13_game_50 (by decide) ?_
      replace hF := eg_bind hF; obtain ⟨v4, e5, hF⟩ := hF
      refine eg_iald dX13_game_51 e5 ?_
      refine eg_iload (i := 7) 4 dX13_game_52 rfl ?_
      refine eg_aload_n (i := 0) 0 dX13_game_54 rfl rfl ?_
      replace hF := eg_bind hF; obtain ⟨p6, e7, hF⟩ := hF
      refine eg_getR dX13_game_55 e7 (Nat.le_of_ble_eq_true rfl) (Nat.le_of_ble_eq_true rfl) rfl ew_1452 ?_
      refine eg_iconst (v := (2 : Int32)) dX13_game_58 (by decide) ?_
      replace hF := eg_bind hF; obtain ⟨v8, e9, hF⟩ := hF
      refine eg_iald dX13_game_59 e9 ?_
      refine eg_imul dX13_game_60 ?_
      refine eg_iadd dX13_game_61 ?_
      replace hF := eg_bind hF; obtain ⟨v10, e11, hF⟩ := hF
      replace e11 := Option.some.inj e11
      rw [e11]
      refine eg_istore (i := 9) [(9, .int v10), (0, .ref l0), (1, .int l1), (2, .int l2), (5, .long l5), (7, .int l7), (8, .int l8)] dX13_game_62 (Nat.le_of_ble_eq_true rfl) rfl ?_
      refine eg_iload (i := 9) 0 dX13_game_64 rfl ?_
      refine eg_bipush (v := (60 : Int32)) dX13_game_66 (by decide) ?_
      refine eg_ic_le 74 dX13_game_68 rfl (fun c12 => ?_) (fun c12 => ?_)
      · replace hF := eg_it c12 hF
        refine eg_iload (i := 7) 5 dX13_game_74 rfl ?_
        refine eg_iconst (v := (2 : Int32)) dX13_game_76 (by decide) ?_
        refine eg_irem dX13_game_77 (by decide) ?_
        refine eg_if_ne 85 dX13_game_78 rfl (fun c13 => ?_) (fun c13 => ?_)
        · replace hF := eg_it c13 hF
          refine eg_iconst (v := (1 : Int32)) dX13_game_81 (by decide) ?_
          refine eg_goto 86 dX13_game_82 rfl ?_
          exact eg_sub [1, 2, 3, 4, 5, 0] [(0, .ref l0), (1, .int l1), (2, .int l2), (5, .long l5), (7, .int l7), (9, .int v10)] rfl (fX13_game_j86_ok h l0 l1 l2 l5 l7 v10 (1 : Int32) eE hF hrec hk0 hk1)
        · replace hF := eg_if c13 hF
          refine eg_iconst (v := (0 : Int32)) dX13_game_85 (by decide) ?_
          exact eg_sub [1, 2, 3, 4, 5, 0] [(0, .ref l0), (1, .int l1), (2, .int l2), (5, .long l5), (7, .int l7), (9, .int v10)] rfl (fX13_game_j86_ok h l0 l1 l2 l5 l7 v10 (0 : Int32) eE hF hrec hk0 hk1)
      · replace hF := eg_if c12 hF
        exact eg_sub [1, 2, 3, 5] [(0, .ref l0), (1, .int l1), (2, .int l2), (7, .int l7)] rfl (hk1 l0 l1 l2 l7 h (Option.some.inj hF).symm)
def fX13_game_j263 (h : eg_H) (l0 : Nat) (l1 : Int32) (l2 : Int32) (l7 : Int32) : Option (Int32 × eg_H) :=
  (eg_gR h 13 69 l0).bind fun p1 =>
  (eg_gI h 13 72 l0).bind fun v3 =>
  (eg_wI h 100 p1 v3 l1).bind fun h5 =>
  (eg_gR h5 13 70 l0).bind fun p7 =>
  (eg_gI h5 13 72 l0).bind fun v9 =>
  (eg_wI h5 100 p7 v9 l2).bind fun h11 =>
  (eg_gR h11 13 71 l0).bind fun p13 =>
  (eg_gI h11 13 72 l0).bind fun v15 =>
  (eg_wI h11 100 p13 v15 l7).bind fun h17 =>
  (eg_gI h17 13 72 l0).bind fun v19 =>
  (eg_pI h17 13 72 l0 (v19 + (1 : Int32))).bind fun h21 =>
  some (l7, h21)
set_option maxRecDepth 20000 in
theorem fX13_game_j263_ok {h0 : eg_H} (h : eg_H) (l0 : Nat) (l1 : Int32) (l2 : Int32) (l7 : Int32) {rE : Int32} {hE : eg_H} (hF : fX13_game_j263 h l0 l1 l2 l7 = some (rE, hE)) : eg_AW (RX13, cX13_game, 15, 398, none, "game", (some .int)) (eg_Zm (some (.int rE)) hE h0) (eg_nc hE) (eg_ns hE) h0 263 [(0, .ref l0), (1, .int l1), (2, .int l2), (7, .int l7)] [] h := by
  refine eg_aload_n (i := 0) 0 dX13_game_263 rfl rfl ?_
  replace hF := eg_bind hF; obtain ⟨p1, e2, hF⟩ := hF
  refine eg_getR dX13_game_264 e2 (Nat.le_of_ble_eq_true rfl) (Nat.le_of_ble_eq_true rfl) rfl ew_1503 ?_
  refine eg_aload_n (i := 0) 0 dX13_game_267 rfl rfl ?_
  replace hF := eg_bind hF; obtain ⟨v3, e4, hF⟩ := hF
  refine eg_getI dX13_game_268 e4 (Nat.le_of_ble_eq_true rfl) (Nat.le_of_ble_eq_true rfl) rfl ew_1506 ?_
  refine eg_iload_n (i := 1) 1 dX13_game_271 rfl rfl ?_
  replace hF := eg_bind hF; obtain ⟨h5, e6, hF⟩ := hF
  refine eg_iast dX13_game_272 e6 ?_
  refine eg_aload_n (i := 0) 0 dX13_game_273 rfl rfl ?_
  replace hF := eg_bind hF; obtain ⟨p7, e8, hF⟩ := hF
  refine eg_getR dX13_game_274 e8 (Nat.le_of_ble_eq_true rfl) (Nat.le_of_ble_eq_true rfl) rfl ew_1504 ?_
  refine eg_aload_n (i := 0) 0 dX13_game_277 rfl rfl ?_
  replace hF := eg_bind hF; obtain ⟨v9, e10, hF⟩ := hF
  refine eg_getI dX13_game_278 e10 (Nat.le_of_ble_eq_true rfl) (Nat.le_of_ble_eq_true rfl) rfl ew_1506 ?_
  refine eg_iload_n (i := 2) 2 dX13_game_281 rfl rfl ?_
  replace hF := eg_bind hF; obtain ⟨h11, e12, hF⟩ := hF
  refine eg_iast dX13_game_282 e12 ?_
  refine eg_aload_n (i := 0) 0 dX13_game_283 rfl rfl ?_
  replace hF := eg_bind hF; obtain ⟨p13, e14, hF⟩ := hF
  refine eg_getR dX13_game_284 e14 (Nat.le_of_ble_eq_true rfl) (Nat.le_of_ble_eq_true rfl) rfl ew_1505 ?_
  refine eg_aload_n (i := 0) 0 dX13_game_287 rfl rfl ?_
  replace hF := eg_bind hF; obtain ⟨v15, e16, hF⟩ := hF
  refine eg_getI dX13_game_288 e16 (Nat.le_of_ble_eq_true rfl) (Nat.le_of_ble_eq_true rfl) rfl ew_1506 ?_
  refine eg_iload (i := 7) 3 dX13_game_291 rfl ?_
  replace hF := eg_bind hF; obtain ⟨h17, e18, hF⟩ := hF
  refine eg_iast dX13_game_293 e18 ?_
  refine eg_aload_n (i := 0) 0 dX13_game_294 rfl rfl ?_
  refine eg_dup dX13_game_295 rfl ?_
  replace hF := eg_bind hF; obtain ⟨v19, e20, hF⟩ := hF
  refine eg_getI dX13_game_296 e20 (Nat.le_of_ble_eq_true rfl) (Nat.le_of_ble_eq_true rfl) rfl ew_1506 ?_
  refine eg_iconst (v := (1 : Int32)) dX13_game_299 (by decide) ?_
  refine eg_iadd dX13_game_300 ?_
  replace hF := eg_bind hF; obtain ⟨h21, e22, hF⟩ := hF
  refine eg_putI dX13_game_301 e22 (Nat.le_of_ble_eq_true rfl) (Nat.le_of_ble_eq_true rfl) rfl ew_1506 (Or.inl rfl) ?_
  refine eg_iload (i := 7) 3 dX13_game_304 rfl ?_
  exact eg_iretE dX13_game_306 hF
def fX13_game (h : eg_H) (l0 : Nat) (l1 : Int32) (l2 : Int32) (l3 : Int64) : Option (Int32 × eg_H) :=
  if eg_isO h 13 l0 then (
    (eg_pI h 13 0 l0 (0 : Int32)).bind fun h1 =>
    (fX13_isTwo h1 l0 l1).bind fun ⟨v4, h3⟩ =>
    if v4 = 0 then
      (some ((-1 : Int32), h3))
    else
      (fX13_isFrom h3 l0 l2).bind fun ⟨v8, h7⟩ =>
      if v8 = 0 then
        (some ((-1 : Int32), h7))
      else
        (eg_gI h7 13 72 l0).bind fun v11 =>
        if v11 = (40 : Int32) then
          (some ((-1 : Int32), h7))
        else
          (fX13_game_L41 eg_F h7 l0 l1 l2 l3 (0 : Int32) (1 : Int32)).bind fun e =>
          match e with
          | .inl (p16, v17, v18, v19, h20) =>
            fX13_game_j263 h20 p16 v17 v18 v19
          | .inr (p22, v23, v24, v25, h26) =>
            fX13_game_j263 h26 p22 v23 v24 v25) else none
theorem fX13_game_O {h : eg_H} {l0 : Nat} {l1 : Int32} {l2 : Int32} {l3 : Int64} {rE : Int32} {hE : eg_H} (hF : fX13_game h l0 l1 l2 l3 = some (rE, hE)) : eg_isO h 13 l0 := (eg_ifn hF).1
set_option maxRecDepth 20000 in
theorem mX13_game {h : eg_H} {l0 : Nat} {l1 : Int32} {l2 : Int32} {l3 : Int64} {rE : Int32} {hE : eg_H} (hF : fX13_game h l0 l1 l2 l3 = some (rE, hE)) : eg_Met yX13_game cX13_game 15 (some .int) 398 [.ref l0, .int l1, .int l2, .long l3] h (some (.int rE)) hE := by
  refine eg_enter rfl (Nat.le_of_ble_eq_true rfl) ?_
  show eg_AW (RX13, cX13_game, 15, 398, none, "game", (some .int)) (eg_Zm (some (.int rE)) hE h) (eg_nc hE) (eg_ns hE) h 0 [(0, .ref l0), (1, .int l1), (2, .int l2), (3, .long l3)] [] h
  replace hF := (eg_ifn hF).2
  refine eg_aload_n (i := 0) 0 dX13_game_0 rfl rfl ?_
  refine eg_iconst (v := (0 : Int32)) dX13_game_1 (by decide) ?_
  replace hF := eg_bind hF; obtain ⟨h1, e2, hF⟩ := hF
  refine eg_putI dX13_game_2 e2 (Nat.le_of_ble_eq_true rfl) (Nat.le_of_ble_eq_true rfl) rfl ew_1434 (Or.inl rfl) ?_
  refine eg_aload_n (i := 0) 0 dX13_game_5 rfl rfl ?_
  refine eg_iload_n (i := 1) 1 dX13_game_6 rfl rfl ?_
  replace hF := eg_bind hF; obtain ⟨⟨v4, h3⟩, e5, hF⟩ := hF
  refine eg_callV (c := 13) (n := 1) [.int l1] dX13_game_7 (mX13_isTwo e5) rfl (fX13_isTwo_O e5) (Nat.le_of_ble_eq_true rfl) rfl ew_1929 ew_1931 ew_76 ew_110 ew_1932 hy_X13_isTwo rfl (Nat.le_of_ble_eq_true rfl) (Nat.le_of_ble_eq_true rfl) (Nat.le_of_ble_eq_true rfl) ?_
  refine eg_if_eq 30 dX13_game_10 rfl (fun c6 => ?_) (fun c6 => ?_)
  · replace hF := eg_it c6 hF
    refine eg_iconst (v := (-1 : Int32)) dX13_game_30 (by decide) ?_
    exact eg_iretE dX13_game_31 hF
  · replace hF := eg_if c6 hF
    refine eg_aload_n (i := 0) 0 dX13_game_13 rfl rfl ?_
    refine eg_iload_n (i := 2) 2 dX13_game_14 rfl rfl ?_
    replace hF := eg_bind hF; obtain ⟨⟨v8, h7⟩, e9, hF⟩ := hF
    refine eg_callV (c := 13) (n := 1) [.int l2] dX13_game_15 (mX13_isFrom e9) rfl (fX13_isFrom_O e9) (Nat.le_of_ble_eq_true rfl) rfl ew_1933 ew_1935 ew_77 ew_110 ew_1936 hy_X13_isFrom rfl (Nat.le_of_ble_eq_true rfl) (Nat.le_of_ble_eq_true rfl) (Nat.le_of_ble_eq_true rfl) ?_
    refine eg_if_eq 30 dX13_game_18 rfl (fun c10 => ?_) (fun c10 => ?_)
    · replace hF := eg_it c10 hF
      refine eg_iconst (v := (-1 : Int32)) dX13_game_30 (by decide) ?_
      exact eg_iretE dX13_game_31 hF
    · replace hF := eg_if c10 hF
      refine eg_aload_n (i := 0) 0 dX13_game_21 rfl rfl ?_
      replace hF := eg_bind hF; obtain ⟨v11, e12, hF⟩ := hF
      refine eg_getI dX13_game_22 e12 (Nat.le_of_ble_eq_true rfl) (Nat.le_of_ble_eq_true rfl) rfl ew_1506 ?_
      refine eg_bipush (v := (40 : Int32)) dX13_game_25 (by decide) ?_
      refine eg_ic_ne 32 dX13_game_27 rfl (fun c13 => ?_) (fun c13 => ?_)
      · replace hF := eg_it c13 hF
        refine eg_iconst (v := (-1 : Int32)) dX13_game_30 (by decide) ?_
        exact eg_iretE dX13_game_31 hF
      · replace hF := eg_if c13 hF
        refine eg_lload_n (i := 3) 3 dX13_game_32 rfl rfl ?_
        refine eg_lstore (i := 5) [(5, .long l3), (0, .ref l0), (1, .int l1), (2, .int l2), (3, .long l3)] dX13_game_33 (Nat.le_of_ble_eq_true rfl) rfl ?_
        refine eg_iconst (v := (0 : Int32)) dX13_game_35 (by decide) ?_
        refine eg_istore (i := 7) [(7, .int (0 : Int32)), (5, .long l3), (0, .ref l0), (1, .int l1), (2, .int l2), (3, .long l3)] dX13_game_36 (Nat.le_of_ble_eq_true rfl) rfl ?_
        refine eg_iconst (v := (1 : Int32)) dX13_game_38 (by decide) ?_
        refine eg_istore (i := 8) [(8, .int (1 : Int32)), (7, .int (0 : Int32)), (5, .long l3), (0, .ref l0), (1, .int l1), (2, .int l2), (3, .long l3)] dX13_game_39 (Nat.le_of_ble_eq_true rfl) rfl ?_
        replace hF := eg_bind hF; obtain ⟨x15, e14, hF⟩ := hF
        refine eg_sub [3, 4, 5, 2, 1, 0] [(0, .ref l0), (1, .int l1), (2, .int l2), (5, .long l3), (7, .int (0 : Int32)), (8, .int (1 : Int32))] rfl (fX13_game_L41_ok eg_F h7 l0 l1 l2 l3 (0 : Int32) (1 : Int32) x15 e14 ?_ ?_)
        · intro p16 v17 v18 v19 h20 e21
          subst e21
          exact (fX13_game_j263_ok h20 p16 v17 v18 v19 hF)
        · intro p22 v23 v24 v25 h26 e27
          subst e27
          refine eg_goto 263 dX13_game_71 rfl ?_
          exact (fX13_game_j263_ok h26 p22 v23 v24 v25 hF)
theorem dX13_played_0 : decode cX13_played 0 = .ok (.aload_n 0, 1) := by decide +kernel
theorem dX13_played_1 : decode cX13_played 1 = .ok (.iconst 0, 1) := by decide +kernel
theorem dX13_played_2 : decode cX13_played 2 = .ok (.putfield 148, 3) := by decide +kernel
theorem dX13_played_5 : decode cX13_played 5 = .ok (.iload_n 1, 1) := by decide +kernel
theorem dX13_played_6 : decode cX13_played 6 = .ok (.i2l, 1) := by decide +kernel
theorem dX13_played_7 : decode cX13_played 7 = .ok (.lconst 0, 1) := by decide +kernel
theorem dX13_played_8 : decode cX13_played 8 = .ok (.aload_n 0, 1) := by decide +kernel
theorem dX13_played_9 : decode cX13_played 9 = .ok (.getfield 347, 3) := by decide +kernel
theorem dX13_played_12 : decode cX13_played 12 = .ok (.iconst 1, 1) := by decide +kernel
theorem dX13_played_13 : decode cX13_played 13 = .ok (.isub, 1) := by decide +kernel
theorem dX13_played_14 : decode cX13_played 14 = .ok (.i2l, 1) := by decide +kernel
theorem dX13_played_15 : decode cX13_played 15 = .ok (.invokestatic 269, 3) := by decide +kernel
theorem dX13_played_18 : decode cX13_played 18 = .ok (.ifCond .eq 15, 3) := by decide +kernel
theorem dX13_played_21 : decode cX13_played 21 = .ok (.iload_n 2, 1) := by decide +kernel
theorem dX13_played_22 : decode cX13_played 22 = .ok (.i2l, 1) := by decide +kernel
theorem dX13_played_23 : decode cX13_played 23 = .ok (.lconst 0, 1) := by decide +kernel
theorem dX13_played_24 : decode cX13_played 24 = .ok (.ldc2_w 316, 3) := by decide +kernel
theorem dX13_played_27 : decode cX13_played 27 = .ok (.invokestatic 269, 3) := by decide +kernel
theorem dX13_played_30 : decode cX13_played 30 = .ok (.ifCond .ne 5, 3) := by decide +kernel
theorem dX13_played_33 : decode cX13_played 33 = .ok (.iconst (-1), 1) := by decide +kernel
theorem dX13_played_34 : decode cX13_played 34 = .ok (.ireturn, 1) := by decide +kernel
theorem dX13_played_35 : decode cX13_played 35 = .ok (.iload_n 2, 1) := by decide +kernel
theorem dX13_played_36 : decode cX13_played 36 = .ok (.ifCond .ne 12, 3) := by decide +kernel
theorem dX13_played_39 : decode cX13_played 39 = .ok (.aload_n 0, 1) := by decide +kernel
theorem dX13_played_40 : decode cX13_played 40 = .ok (.getfield 127, 3) := by decide +kernel
theorem dX13_played_43 : decode cX13_played 43 = .ok (.iload_n 1, 1) := by decide +kernel
theorem dX13_played_44 : decode cX13_played 44 = .ok (.iaload, 1) := by decide +kernel
theorem dX13_played_45 : decode cX13_played 45 = .ok (.goto 23, 3) := by decide +kernel
theorem dX13_played_48 : decode cX13_played 48 = .ok (.iload_n 2, 1) := by decide +kernel
theorem dX13_played_49 : decode cX13_played 49 = .ok (.iconst 1, 1) := by decide +kernel
theorem dX13_played_50 : decode cX13_played 50 = .ok (.if_icmp .ne 12, 3) := by decide +kernel
theorem dX13_played_53 : decode cX13_played 53 = .ok (.aload_n 0, 1) := by decide +kernel
theorem dX13_played_54 : decode cX13_played 54 = .ok (.getfield 130, 3) := by decide +kernel
theorem dX13_played_57 : decode cX13_played 57 = .ok (.iload_n 1, 1) := by decide +kernel
theorem dX13_played_58 : decode cX13_played 58 = .ok (.iaload, 1) := by decide +kernel
theorem dX13_played_59 : decode cX13_played 59 = .ok (.goto 9, 3) := by decide +kernel
theorem dX13_played_62 : decode cX13_played 62 = .ok (.aload_n 0, 1) := by decide +kernel
theorem dX13_played_63 : decode cX13_played 63 = .ok (.getfield 133, 3) := by decide +kernel
theorem dX13_played_66 : decode cX13_played 66 = .ok (.iload_n 1, 1) := by decide +kernel
theorem dX13_played_67 : decode cX13_played 67 = .ok (.iaload, 1) := by decide +kernel
theorem dX13_played_68 : decode cX13_played 68 = .ok (.ireturn, 1) := by decide +kernel
def fX13_played (h : eg_H) (l0 : Nat) (l1 : Int32) (l2 : Int32) : Option (Int32 × eg_H) :=
  if eg_isO h 13 l0 then (
    (eg_pI h 13 0 l0 (0 : Int32)).bind fun h1 =>
    (eg_gI h1 13 72 l0).bind fun v3 =>
    (fX13_isIn h1 l1.toInt64 (0 : Int64) ((v3 - (1 : Int32)).toInt64)).bind fun ⟨v6, h5⟩ =>
    if v6 = 0 then
      (some ((-1 : Int32), h5))
    else
      (fX13_isIn h5 l2.toInt64 (0 : Int64) (2 : Int64)).bind fun ⟨v10, h9⟩ =>
      if v10 = 0 then
        (some ((-1 : Int32), h9))
      else
        if l2 = 0 then
          ((eg_gR h9 13 69 l0).bind fun p14 =>
          (eg_aI h9 100 p14 l1).bind fun v16 =>
          some (v16, h9))
        else
          if l2 = (1 : Int32) then
            ((eg_gR h9 13 70 l0).bind fun p19 =>
            (eg_aI h9 100 p19 l1).bind fun v21 =>
            some (v21, h9))
          else
            (eg_gR h9 13 71 l0).bind fun p23 =>
            (eg_aI h9 100 p23 l1).bind fun v25 =>
            some (v25, h9)) else none
theorem fX13_played_O {h : eg_H} {l0 : Nat} {l1 : Int32} {l2 : Int32} {rE : Int32} {hE : eg_H} (hF : fX13_played h l0 l1 l2 = some (rE, hE)) : eg_isO h 13 l0 := (eg_ifn hF).1
set_option maxRecDepth 20000 in
theorem mX13_played {h : eg_H} {l0 : Nat} {l1 : Int32} {l2 : Int32} {rE : Int32} {hE : eg_H} (hF : fX13_played h l0 l1 l2 = some (rE, hE)) : eg_Met yX13_played cX13_played 3 (some .int) 2 [.ref l0, .int l1, .int l2] h (some (.int rE)) hE := by
  refine eg_enter rfl (Nat.le_of_ble_eq_true rfl) ?_
  show eg_AW (RX13, cX13_played, 3, 2, none, "played", (some .int)) (eg_Zm (some (.int rE)) hE h) (eg_nc hE) (eg_ns hE) h 0 [(0, .ref l0), (1, .int l1), (2, .int l2)] [] h
  replace hF := (eg_ifn hF).2
  refine eg_aload_n (i := 0) 0 dX13_played_0 rfl rfl ?_
  refine eg_iconst (v := (0 : Int32)) dX13_played_1 (by decide) ?_
  replace hF := eg_bind hF; obtain ⟨h1, e2, hF⟩ := hF
  refine eg_putI dX13_played_2 e2 (Nat.le_of_ble_eq_true rfl) (Nat.le_of_ble_eq_true rfl) rfl ew_1434 (Or.inl rfl) ?_
  refine eg_iload_n (i := 1) 1 dX13_played_5 rfl rfl ?_
  refine eg_i2l dX13_played_6 ?_
  refine eg_lconst (v := (0 : Int64)) dX13_played_7 (by decide) ?_
  refine eg_aload_n (i := 0) 0 dX13_played_8 rfl rfl ?_
  replace hF := eg_bind hF; obtain ⟨v3, e4, hF⟩ := hF
  refine eg_getI dX13_played_9 e4 (Nat.le_of_ble_eq_true rfl) (Nat.le_of_ble_eq_true rfl) rfl ew_1506 ?_
  refine eg_iconst (v := (1 : Int32)) dX13_played_12 (by decide) ?_
  refine eg_isub dX13_played_13 ?_
  refine eg_i2l dX13_played_14 ?_
  replace hF := eg_bind hF; obtain ⟨⟨v6, h5⟩, e7, hF⟩ := hF
  refine eg_callS (n := 3) [.long l1.toInt64, .long (0 : Int64), .long ((v3 - (1 : Int32)).toInt64)] dX13_played_15 (mX13_isIn e7) rfl ew_1697 ew_1698 ew_110 ew_1699 hy_X13_isIn.2 rfl (Nat.le_of_ble_eq_true rfl) (Nat.le_of_ble_eq_true rfl) (Nat.le_of_ble_eq_true rfl) ?_
  refine eg_if_eq 33 dX13_played_18 rfl (fun c8 => ?_) (fun c8 => ?_)
  · replace hF := eg_it c8 hF
    refine eg_iconst (v := (-1 : Int32)) dX13_played_33 (by decide) ?_
    exact eg_iretE dX13_played_34 hF
  · replace hF := eg_if c8 hF
    refine eg_iload_n (i := 2) 2 dX13_played_21 rfl rfl ?_
    refine eg_i2l dX13_played_22 ?_
    refine eg_lconst (v := (0 : Int64)) dX13_played_23 (by decide) ?_
    refine eg_ldc2 (v := (2 : Int64)) dX13_played_24 ew_1696 ?_
    replace hF := eg_bind hF; obtain ⟨⟨v10, h9⟩, e11, hF⟩ := hF
    refine eg_callS (n := 3) [.long l2.toInt64, .long (0 : Int64), .long (2 : Int64)] dX13_played_27 (mX13_isIn e11) rfl ew_1697 ew_1698 ew_110 ew_1699 hy_X13_isIn.2 rfl (Nat.le_of_ble_eq_true rfl) (Nat.le_of_ble_eq_true rfl) (Nat.le_of_ble_eq_true rfl) ?_
    refine eg_if_ne 35 dX13_played_30 rfl (fun c12 => ?_) (fun c12 => ?_)
    · replace hF := eg_it c12 hF
      refine eg_iconst (v := (-1 : Int32)) dX13_played_33 (by decide) ?_
      exact eg_iretE dX13_played_34 hF
    · replace hF := eg_if c12 hF
      refine eg_iload_n (i := 2) 2 dX13_played_35 rfl rfl ?_
      refine eg_if_ne 48 dX13_played_36 rfl (fun c13 => ?_) (fun c13 => ?_)
      · replace hF := eg_it c13 hF
        refine eg_aload_n (i := 0) 0 dX13_played_39 rfl rfl ?_
        replace hF := eg_bind hF; obtain ⟨p14, e15, hF⟩ := hF
        refine eg_getR dX13_played_40 e15 (Nat.le_of_ble_eq_true rfl) (Nat.le_of_ble_eq_true rfl) rfl ew_1503 ?_
        refine eg_iload_n (i := 1) 1 dX13_played_43 rfl rfl ?_
        replace hF := eg_bind hF; obtain ⟨v16, e17, hF⟩ := hF
        refine eg_iald dX13_played_44 e17 ?_
        refine eg_goto 68 dX13_played_45 rfl ?_
        exact eg_iretE dX13_played_68 hF
      · replace hF := eg_if c13 hF
        refine eg_iload_n (i := 2) 2 dX13_played_48 rfl rfl ?_
        refine eg_iconst (v := (1 : Int32)) dX13_played_49 (by decide) ?_
        refine eg_ic_ne 62 dX13_played_50 rfl (fun c18 => ?_) (fun c18 => ?_)
        · replace hF := eg_it c18 hF
          refine eg_aload_n (i := 0) 0 dX13_played_53 rfl rfl ?_
          replace hF := eg_bind hF; obtain ⟨p19, e20, hF⟩ := hF
          refine eg_getR dX13_played_54 e20 (Nat.le_of_ble_eq_true rfl) (Nat.le_of_ble_eq_true rfl) rfl ew_1504 ?_
          refine eg_iload_n (i := 1) 1 dX13_played_57 rfl rfl ?_
          replace hF := eg_bind hF; obtain ⟨v21, e22, hF⟩ := hF
          refine eg_iald dX13_played_58 e22 ?_
          refine eg_goto 68 dX13_played_59 rfl ?_
          exact eg_iretE dX13_played_68 hF
        · replace hF := eg_if c18 hF
          refine eg_aload_n (i := 0) 0 dX13_played_62 rfl rfl ?_
          replace hF := eg_bind hF; obtain ⟨p23, e24, hF⟩ := hF
          refine eg_getR dX13_played_63 e24 (Nat.le_of_ble_eq_true rfl) (Nat.le_of_ble_eq_true rfl) rfl ew_1505 ?_
          refine eg_iload_n (i := 1) 1 dX13_played_66 rfl rfl ?_
          replace hF := eg_bind hF; obtain ⟨v25, e26, hF⟩ := hF
          refine eg_iald dX13_played_67 e26 ?_
          exact eg_iretE dX13_played_68 hF
