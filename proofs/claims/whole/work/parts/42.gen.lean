theorem dX13_legs_0 : decode cX13_legs 0 = .ok (.aload_n 0, 1) := by decide +kernel
theorem dX13_legs_1 : decode cX13_legs 1 = .ok (.iconst 0, 1) := by decide +kernel
theorem dX13_legs_2 : decode cX13_legs 2 = .ok (.putfield 148, 3) := by decide +kernel
theorem dX13_legs_5 : decode cX13_legs 5 = .ok (.aload_n 0, 1) := by decide +kernel
theorem dX13_legs_6 : decode cX13_legs 6 = .ok (.iload_n 1, 1) := by decide +kernel
theorem dX13_legs_7 : decode cX13_legs 7 = .ok (.invokevirtual 405, 3) := by decide +kernel
theorem dX13_legs_10 : decode cX13_legs 10 = .ok (.ifCond .eq 46, 3) := by decide +kernel
theorem dX13_legs_13 : decode cX13_legs 13 = .ok (.aload_n 0, 1) := by decide +kernel
theorem dX13_legs_14 : decode cX13_legs 14 = .ok (.iload_n 2, 1) := by decide +kernel
theorem dX13_legs_15 : decode cX13_legs 15 = .ok (.invokevirtual 408, 3) := by decide +kernel
theorem dX13_legs_18 : decode cX13_legs 18 = .ok (.ifCond .eq 38, 3) := by decide +kernel
theorem dX13_legs_21 : decode cX13_legs 21 = .ok (.iload_n 3, 1) := by decide +kernel
theorem dX13_legs_22 : decode cX13_legs 22 = .ok (.i2l, 1) := by decide +kernel
theorem dX13_legs_23 : decode cX13_legs 23 = .ok (.lconst 1, 1) := by decide +kernel
theorem dX13_legs_24 : decode cX13_legs 24 = .ok (.ldc2_w 380, 3) := by decide +kernel
theorem dX13_legs_27 : decode cX13_legs 27 = .ok (.invokestatic 269, 3) := by decide +kernel
theorem dX13_legs_30 : decode cX13_legs 30 = .ok (.ifCond .eq 26, 3) := by decide +kernel
theorem dX13_legs_33 : decode cX13_legs 33 = .ok (.aload_n 0, 1) := by decide +kernel
theorem dX13_legs_34 : decode cX13_legs 34 = .ok (.iload_n 1, 1) := by decide +kernel
theorem dX13_legs_35 : decode cX13_legs 35 = .ok (.iload 4, 2) := by decide +kernel
theorem dX13_legs_37 : decode cX13_legs 37 = .ok (.invokevirtual 411, 3) := by decide +kernel
theorem dX13_legs_40 : decode cX13_legs 40 = .ok (.ifCond .eq 16, 3) := by decide +kernel
theorem dX13_legs_43 : decode cX13_legs 43 = .ok (.iload 5, 2) := by decide +kernel
theorem dX13_legs_45 : decode cX13_legs 45 = .ok (.i2l, 1) := by decide +kernel
theorem dX13_legs_46 : decode cX13_legs 46 = .ok (.lconst 0, 1) := by decide +kernel
theorem dX13_legs_47 : decode cX13_legs 47 = .ok (.ldc2_w 463, 3) := by decide +kernel
theorem dX13_legs_50 : decode cX13_legs 50 = .ok (.invokestatic 269, 3) := by decide +kernel
theorem dX13_legs_53 : decode cX13_legs 53 = .ok (.ifCond .ne 5, 3) := by decide +kernel
theorem dX13_legs_56 : decode cX13_legs 56 = .ok (.iconst (-1), 1) := by decide +kernel
theorem dX13_legs_57 : decode cX13_legs 57 = .ok (.ireturn, 1) := by decide +kernel
theorem dX13_legs_58 : decode cX13_legs 58 = .ok (.iconst 4, 1) := by decide +kernel
theorem dX13_legs_59 : decode cX13_legs 59 = .ok (.iload_n 1, 1) := by decide +kernel
theorem dX13_legs_60 : decode cX13_legs 60 = .ok (.bipush 10, 2) := by decide +kernel
theorem dX13_legs_62 : decode cX13_legs 62 = .ok (.irem, 1) := by decide +kernel
theorem dX13_legs_63 : decode cX13_legs 63 = .ok (.imul, 1) := by decide +kernel
theorem dX13_legs_64 : decode cX13_legs 64 = .ok (.iconst 2, 1) := by decide +kernel
theorem dX13_legs_65 : decode cX13_legs 65 = .ok (.iadd, 1) := by decide +kernel
theorem dX13_legs_66 : decode cX13_legs 66 = .ok (.istore 6, 2) := by decide +kernel
theorem dX13_legs_68 : decode cX13_legs 68 = .ok (.aload_n 0, 1) := by decide +kernel
theorem dX13_legs_69 : decode cX13_legs 69 = .ok (.getfield 43, 3) := by decide +kernel
theorem dX13_legs_72 : decode cX13_legs 72 = .ok (.iload 6, 2) := by decide +kernel
theorem dX13_legs_74 : decode cX13_legs 74 = .ok (.iaload, 1) := by decide +kernel
theorem dX13_legs_75 : decode cX13_legs 75 = .ok (.istore 7, 2) := by decide +kernel
theorem dX13_legs_77 : decode cX13_legs 77 = .ok (.iconst 0, 1) := by decide +kernel
theorem dX13_legs_78 : decode cX13_legs 78 = .ok (.istore 8, 2) := by decide +kernel
theorem dX13_legs_80 : decode cX13_legs 80 = .ok (.iconst 0, 1) := by decide +kernel
theorem dX13_legs_81 : decode cX13_legs 81 = .ok (.istore 9, 2) := by decide +kernel
theorem dX13_legs_83 : decode cX13_legs 83 = .ok (.iload 9, 2) := by decide +kernel
theorem dX13_legs_85 : decode cX13_legs 85 = .ok (.bipush 6, 2) := by decide +kernel
theorem dX13_legs_87 : decode cX13_legs 87 = .ok (.if_icmp .ge 45, 3) := by decide +kernel
theorem dX13_legs_90 : decode cX13_legs 90 = .ok (.aload_n 0, 1) := by decide +kernel
theorem dX13_legs_91 : decode cX13_legs 91 = .ok (.getfield 43, 3) := by decide +kernel
theorem dX13_legs_94 : decode cX13_legs 94 = .ok (.iload 6, 2) := by decide +kernel
theorem dX13_legs_96 : decode cX13_legs 96 = .ok (.iload 9, 2) := by decide +kernel
theorem dX13_legs_98 : decode cX13_legs 98 = .ok (.iastore, 1) := by decide +kernel
theorem dX13_legs_99 : decode cX13_legs 99 = .ok (.iload 8, 2) := by decide +kernel
theorem dX13_legs_101 : decode cX13_legs 101 = .ok (.aload_n 0, 1) := by decide +kernel
theorem dX13_legs_102 : decode cX13_legs 102 = .ok (.iload_n 1, 1) := by decide +kernel
theorem dX13_legs_103 : decode cX13_legs 103 = .ok (.iload_n 2, 1) := by decide +kernel
theorem dX13_legs_104 : decode cX13_legs 104 = .ok (.iload_n 3, 1) := by decide +kernel
theorem dX13_legs_105 : decode cX13_legs 105 = .ok (.iload 4, 2) := by decide +kernel
theorem dX13_legs_107 : decode cX13_legs 107 = .ok (.invokevirtual 414, 3) := by decide +kernel
theorem dX13_legs_110 : decode cX13_legs 110 = .ok (.iload 5, 2) := by decide +kernel
theorem dX13_legs_112 : decode cX13_legs 112 = .ok (.if_icmp .lt 10, 3) := by decide +kernel
theorem dX13_legs_115 : decode cX13_legs 115 = .ok (.iconst 1, 1) := by decide +kernel
theorem dX13_legs_116 : decode cX13_legs 116 = .ok (.iload 9, 2) := by decide +kernel
theorem dX13_legs_118 : decode cX13_legs 118 = .ok (.ishl, 1) := by decide +kernel
theorem dX13_legs_119 : decode cX13_legs 119 = .ok (.goto 4, 3) := by decide +kernel
theorem dX13_legs_122 : decode cX13_legs 122 = .ok (.iconst 0, 1) := by decide +kernel
theorem dX13_legs_123 : decode cX13_legs 123 = .ok (.ior, 1) := by decide +kernel
theorem dX13_legs_124 : decode cX13_legs 124 = .ok (.istore 8, 2) := by decide +kernel
theorem dX13_legs_126 : decode cX13_legs 126 = .ok (.iinc 9 1, 3) := by decide +kernel
theorem dX13_legs_129 : decode cX13_legs 129 = .ok (.goto (-46), 3) := by decide +kernel
theorem dX13_legs_132 : decode cX13_legs 132 = .ok (.aload_n 0, 1) := by decide +kernel
theorem dX13_legs_133 : decode cX13_legs 133 = .ok (.getfield 43, 3) := by decide +kernel
theorem dX13_legs_136 : decode cX13_legs 136 = .ok (.iload 6, 2) := by decide +kernel
theorem dX13_legs_138 : decode cX13_legs 138 = .ok (.iload 7, 2) := by decide +kernel
theorem dX13_legs_140 : decode cX13_legs 140 = .ok (.iastore, 1) := by decide +kernel
theorem dX13_legs_141 : decode cX13_legs 141 = .ok (.iload 8, 2) := by decide +kernel
theorem dX13_legs_143 : decode cX13_legs 143 = .ok (.ireturn, 1) := by decide +kernel
def fX13_legs_L83 : Nat → eg_H → Nat → Int32 → Int32 → Int32 → Int32 → Int32 → Int32 → Int32 → Int32 → Int32 → Option (Nat × Int32 × Int32 × Int32 × eg_H)
  | 0, _, _, _, _, _, _, _, _, _, _, _ => none
  | n + 1, h, l0, l1, l2, l3, l4, l5, l6, l7, l8, l9 =>
    if (6 : Int32) ≤ l9 then
      (some (l0, l6, l7, l8, h))
    else
      (eg_gR h 13 20 l0).bind fun p2 =>
      (eg_wI h 100 p2 l6 l9).bind fun h4 =>
      (fX13_goodOf h4 l0 l1 l2 l3 l4).bind fun ⟨v7, h6⟩ =>
      if v7 < l5 then
        ((some ((l8 ||| (0 : Int32)))).bind fun v10 =>
        fX13_legs_L83 n h6 l0 l1 l2 l3 l4 l5 l6 l7 v10 (l9 + (1 : Int32)))
      else
        (some ((l8 ||| ((1 : Int32) <<< (l9 &&& 31))))).bind fun v12 =>
        fX13_legs_L83 n h6 l0 l1 l2 l3 l4 l5 l6 l7 v12 (l9 + (1 : Int32))
set_option maxRecDepth 20000 in
theorem fX13_legs_L83_ok {h0 : eg_H} {Z : eg_C → State → Prop} {N S : Nat} : ∀ (n : Nat) (h : eg_H) (l0 : Nat) (l1 : Int32) (l2 : Int32) (l3 : Int32) (l4 : Int32) (l5 : Int32) (l6 : Int32) (l7 : Int32) (l8 : Int32) (l9 : Int32) (eE : Nat × Int32 × Int32 × Int32 × eg_H), fX13_legs_L83 n h l0 l1 l2 l3 l4 l5 l6 l7 l8 l9 = some eE → (hk0 : ∀ (l0 : Nat) (l6 : Int32) (l7 : Int32) (l8 : Int32) (h : eg_H), eE = (l0, l6, l7, l8, h) → eg_AW (RX13, cX13_legs, 10, 398, none, "legs", (some .int)) Z N S h0 132 [(0, .ref l0), (6, .int l6), (7, .int l7), (8, .int l8)] [] h) → eg_AW (RX13, cX13_legs, 10, 398, none, "legs", (some .int)) Z N S h0 83 [(0, .ref l0), (1, .int l1), (2, .int l2), (3, .int l3), (4, .int l4), (5, .int l5), (6, .int l6), (7, .int l7), (8, .int l8), (9, .int l9)] [] h := by
  intro n
  induction n with
  | zero => intro h l0 l1 l2 l3 l4 l5 l6 l7 l8 l9 eE hF; exact absurd hF (by intro q; cases q)
  | succ n ih =>
    intro h l0 l1 l2 l3 l4 l5 l6 l7 l8 l9 eE hF hk0
    have hrec := fun (h' : eg_H) (l0 : Nat) (l1 : Int32) (l2 : Int32) (l3 : Int32) (l4 : Int32) (l5 : Int32) (l6 : Int32) (l7 : Int32) (l8 : Int32) (l9 : Int32) hq => ih h' l0 l1 l2 l3 l4 l5 l6 l7 l8 l9 eE hq hk0
    refine eg_iload (i := 9) 9 dX13_legs_83 rfl ?_
    refine eg_bipush (v := (6 : Int32)) dX13_legs_85 (by decide) ?_
    refine eg_ic_ge 132 dX13_legs_87 rfl (fun c1 => ?_) (fun c1 => ?_)
    · replace hF := eg_it c1 hF
      exact eg_sub [0, 6, 7, 8] [(0, .ref l0), (6, .int l6), (7, .int l7), (8, .int l8)] rfl (hk0 l0 l6 l7 l8 h (Option.some.inj hF).symm)
    · replace hF := eg_if c1 hF
      refine eg_aload_n (i := 0) 0 dX13_legs_90 rfl rfl ?_
      replace hF := eg_bind hF; obtain ⟨p2, e3, hF⟩ := hF
      refine eg_getR dX13_legs_91 e3 (Nat.le_of_ble_eq_true rfl) (Nat.le_of_ble_eq_true rfl) rfl ew_1454 ?_
      refine eg_iload (i := 6) 6 dX13_legs_94 rfl ?_
      refine eg_iload (i := 9) 9 dX13_legs_96 rfl ?_
      replace hF := eg_bind hF; obtain ⟨h4, e5, hF⟩ := hF
      refine eg_iast dX13_legs_98 e5 ?_
      refine eg_iload (i := 8) 8 dX13_legs_99 rfl ?_
      refine eg_aload_n (i := 0) 0 dX13_legs_101 rfl rfl ?_
      refine eg_iload_n (i := 1) 1 dX13_legs_102 rfl rfl ?_
      refine eg_iload_n (i := 2) 2 dX13_legs_103 rfl rfl ?_
      refine eg_iload_n (i := 3) 3 dX13_legs_104 rfl rfl ?_
      refine eg_iload (i := 4) 4 dX13_legs_105 rfl ?_
      replace hF := eg_bind hF; obtain ⟨⟨v7, h6⟩, e8, hF⟩ := hF
      refine eg_callV (c := 13) (n := 4) [.int l1, .int l2, .int l3, .int l4] dX13_legs_107 (mX13_goodOf e8) rfl (fX13_goodOf_O e8) (Nat.le_of_ble_eq_true rfl) rfl ew_1941 ew_1943 ew_79 ew_110 ew_1944 hy_X13_goodOf rfl (Nat.le_of_ble_eq_true rfl) (Nat.le_of_ble_eq_true rfl) (Nat.le_of_ble_eq_true rfl) ?_
      refine eg_iload (i := 5) 5 dX13_legs_110 rfl ?_
      refine eg_ic_lt 122 dX13_legs_112 rfl (fun c9 => ?_) (fun c9 => ?_)
      · replace hF := eg_it c9 hF
        refine eg_iconst (v := (0 : Int32)) dX13_legs_122 (by decide) ?_
        refine eg_ior dX13_legs_123 ?_
        replace hF := eg_bind hF; obtain ⟨v10, e11, hF⟩ := hF
        replace e11 := Option.some.inj e11
        rw [e11]
        refine eg_istore (i := 8) [(8, .int v10), (0, .ref l0), (1, .int l1), (2, .int l2), (3, .int l3), (4, .int l4), (5, .int l5), (6, .int l6), (7, .int l7), (9, .int l9)] dX13_legs_124 (Nat.le_of_ble_eq_true rfl) rfl ?_
        refine eg_iinc (i := 9) (v := (l9 + (1 : Int32))) 9 [(9, .int (l9 + (1 : Int32))), (8, .int v10), (0, .ref l0), (1, .int l1), (2, .int l2), (3, .int l3), (4, .int l4), (5, .int l5), (6, .int l6), (7, .int l7)] dX13_legs_126 rfl rfl (Nat.le_of_ble_eq_true rfl) rfl ?_
        refine eg_goto 83 dX13_legs_129 rfl ?_
        exact eg_sub [2, 3, 4, 5, 6, 7, 8, 9, 1, 0] [(0, .ref l0), (1, .int l1), (2, .int l2), (3, .int l3), (4, .int l4), (5, .int l5), (6, .int l6), (7, .int l7), (8, .int v10), (9, .int (l9 + (1 : Int32)))] rfl (hrec h6 l0 l1 l2 l3 l4 l5 l6 l7 v10 (l9 + (1 : Int32)) hF)
      · replace hF := eg_if c9 hF
        refine eg_iconst (v := (1 : Int32)) dX13_legs_115 (by decide) ?_
        refine eg_iload (i := 9) 9 dX13_legs_116 rfl ?_
        refine eg_ishl dX13_legs_118 ?_
        refine eg_goto 123 dX13_legs_119 rfl ?_
        refine eg_ior dX13_legs_123 ?_
        replace hF := eg_bind hF; obtain ⟨v12, e13, hF⟩ := hF
        replace e13 := Option.some.inj e13
        rw [e13]
        refine eg_istore (i := 8) [(8, .int v12), (0, .ref l0), (1, .int l1), (2, .int l2), (3, .int l3), (4, .int l4), (5, .int l5), (6, .int l6), (7, .int l7), (9, .int l9)] dX13_legs_124 (Nat.le_of_ble_eq_true rfl) rfl ?_
        refine eg_iinc (i := 9) (v := (l9 + (1 : Int32))) 9 [(9, .int (l9 + (1 : Int32))), (8, .int v12), (0, .ref l0), (1, .int l1), (2, .int l2), (3, .int l3), (4, .int l4), (5, .int l5), (6, .int l6), (7, .int l7)] dX13_legs_126 rfl rfl (Nat.le_of_ble_eq_true rfl) rfl ?_
        refine eg_goto 83 dX13_legs_129 rfl ?_
        exact eg_sub [2, 3, 4, 5, 6, 7, 8, 9, 1, 0] [(0, .ref l0), (1, .int l1), (2, .int l2), (3, .int l3), (4, .int l4), (5, .int l5), (6, .int l6), (7, .int l7), (8, .int v12), (9, .int (l9 + (1 : Int32)))] rfl (hrec h6 l0 l1 l2 l3 l4 l5 l6 l7 v12 (l9 + (1 : Int32)) hF)
def fX13_legs (h : eg_H) (l0 : Nat) (l1 : Int32) (l2 : Int32) (l3 : Int32) (l4 : Int32) (l5 : Int32) : Option (Int32 × eg_H) :=
  if eg_isO h 13 l0 then (
    (eg_pI h 13 0 l0 (0 : Int32)).bind fun h1 =>
    (fX13_isTwo h1 l0 l1).bind fun ⟨v4, h3⟩ =>
    if v4 = 0 then
      (some ((-1 : Int32), h3))
    else
      (fX13_isFrom h3 l0 l2).bind fun ⟨v8, h7⟩ =>
      if v8 = 0 then
        (some ((-1 : Int32), h7))
      else
        (fX13_isIn h7 l3.toInt64 (1 : Int64) (60 : Int64)).bind fun ⟨v12, h11⟩ =>
        if v12 = 0 then
          (some ((-1 : Int32), h11))
        else
          (fX13_isHow h11 l0 l1 l4).bind fun ⟨v16, h15⟩ =>
          if v16 = 0 then
            (some ((-1 : Int32), h15))
          else
            (fX13_isIn h15 l5.toInt64 (0 : Int64) (11 : Int64)).bind fun ⟨v20, h19⟩ =>
            if v20 = 0 then
              (some ((-1 : Int32), h19))
            else
              (some ((((4 : Int32) * (l1 % (10 : Int32))) + (2 : Int32)))).bind fun v23 =>
              (eg_gR h19 13 20 l0).bind fun p25 =>
              (eg_aI h19 100 p25 v23).bind fun v27 =>
              (fX13_legs_L83 eg_F h19 l0 l1 l2 l3 l4 l5 v23 v27 (0 : Int32) (0 : Int32)).bind fun e =>
              match e with
              | (p31, v32, v33, v34, h35) =>
                (eg_gR h35 13 20 p31).bind fun p36 =>
                (eg_wI h35 100 p36 v32 v33).bind fun h38 =>
                some (v34, h38)) else none
theorem fX13_legs_O {h : eg_H} {l0 : Nat} {l1 : Int32} {l2 : Int32} {l3 : Int32} {l4 : Int32} {l5 : Int32} {rE : Int32} {hE : eg_H} (hF : fX13_legs h l0 l1 l2 l3 l4 l5 = some (rE, hE)) : eg_isO h 13 l0 := (eg_ifn hF).1
set_option maxRecDepth 20000 in
theorem mX13_legs {h : eg_H} {l0 : Nat} {l1 : Int32} {l2 : Int32} {l3 : Int32} {l4 : Int32} {l5 : Int32} {rE : Int32} {hE : eg_H} (hF : fX13_legs h l0 l1 l2 l3 l4 l5 = some (rE, hE)) : eg_Met yX13_legs cX13_legs 10 (some .int) 398 [.ref l0, .int l1, .int l2, .int l3, .int l4, .int l5] h (some (.int rE)) hE := by
  refine eg_enter rfl (Nat.le_of_ble_eq_true rfl) ?_
  show eg_AW (RX13, cX13_legs, 10, 398, none, "legs", (some .int)) (eg_Zm (some (.int rE)) hE h) (eg_nc hE) (eg_ns hE) h 0 [(0, .ref l0), (1, .int l1), (2, .int l2), (3, .int l3), (4, .int l4), (5, .int l5)] [] h
  replace hF := (eg_ifn hF).2
  refine eg_aload_n (i := 0) 0 dX13_legs_0 rfl rfl ?_
  refine eg_iconst (v := (0 : Int32)) dX13_legs_1 (by decide) ?_
  replace hF := eg_bind hF; obtain ⟨h1, e2, hF⟩ := hF
  refine eg_putI dX13_legs_2 e2 (Nat.le_of_ble_eq_true rfl) (Nat.le_of_ble_eq_true rfl) rfl ew_1434 (Or.inl rfl) ?_
  refine eg_aload_n (i := 0) 0 dX13_legs_5 rfl rfl ?_
  refine eg_iload_n (i := 1) 1 dX13_legs_6 rfl rfl ?_
  replace hF := eg_bind hF; obtain ⟨⟨v4, h3⟩, e5, hF⟩ := hF
  refine eg_callV (c := 13) (n := 1) [.int l1] dX13_legs_7 (mX13_isTwo e5) rfl (fX13_isTwo_O e5) (Nat.le_of_ble_eq_true rfl) rfl ew_1929 ew_1931 ew_76 ew_110 ew_1932 hy_X13_isTwo rfl (Nat.le_of_ble_eq_true rfl) (Nat.le_of_ble_eq_true rfl) (Nat.le_of_ble_eq_true rfl) ?_
  refine eg_if_eq 56 dX13_legs_10 rfl (fun c6 => ?_) (fun c6 => ?_)
  · replace hF := eg_it c6 hF
    refine eg_iconst (v := (-1 : Int32)) dX13_legs_56 (by decide) ?_
    exact eg_iretE dX13_legs_57 hF
  · replace hF := eg_if c6 hF
    refine eg_aload_n (i := 0) 0 dX13_legs_13 rfl rfl ?_
    refine eg_iload_n (i := 2) 2 dX13_legs_14 rfl rfl ?_
    replace hF := eg_bind hF; obtain ⟨⟨v8, h7⟩, e9, hF⟩ := hF
    refine eg_callV (c := 13) (n := 1) [.int l2] dX13_legs_15 (mX13_isFrom e9) rfl (fX13_isFrom_O e9) (Nat.le_of_ble_eq_true rfl) rfl ew_1933 ew_1935 ew_77 ew_110 ew_1936 hy_X13_isFrom rfl (Nat.le_of_ble_eq_true rfl) (Nat.le_of_ble_eq_true rfl) (Nat.le_of_ble_eq_true rfl) ?_
    refine eg_if_eq 56 dX13_legs_18 rfl (fun c10 => ?_) (fun c10 => ?_)
    · replace hF := eg_it c10 hF
      refine eg_iconst (v := (-1 : Int32)) dX13_legs_56 (by decide) ?_
      exact eg_iretE dX13_legs_57 hF
    · replace hF := eg_if c10 hF
      refine eg_iload_n (i := 3) 3 dX13_legs_21 rfl rfl ?_
      refine eg_i2l dX13_legs_22 ?_
      refine eg_lconst (v := (1 : Int64)) dX13_legs_23 (by decide) ?_
      refine eg_ldc2 (v := (60 : Int64)) dX13_legs_24 ew_1912 ?_
      replace hF := eg_bind hF; obtain ⟨⟨v12, h11⟩, e13, hF⟩ := hF
      refine eg_callS (n := 3) [.long l3.toInt64, .long (1 : Int64), .long (60 : Int64)] dX13_legs_27 (mX13_isIn e13) rfl ew_1697 ew_1698 ew_110 ew_1699 hy_X13_isIn.2 rfl (Nat.le_of_ble_eq_true rfl) (Nat.le_of_ble_eq_true rfl) (Nat.le_of_ble_eq_true rfl) ?_
      refine eg_if_eq 56 dX13_legs_30 rfl (fun c14 => ?_) (fun c14 => ?_)
      · replace hF := eg_it c14 hF
        refine eg_iconst (v := (-1 : Int32)) dX13_legs_56 (by decide) ?_
        exact eg_iretE dX13_legs_57 hF
      · replace hF := eg_if c14 hF
        refine eg_aload_n (i := 0) 0 dX13_legs_33 rfl rfl ?_
        refine eg_iload_n (i := 1) 1 dX13_legs_34 rfl rfl ?_
        refine eg_iload (i := 4) 4 dX13_legs_35 rfl ?_
        replace hF := eg_bind hF; obtain ⟨⟨v16, h15⟩, e17, hF⟩ := hF
        refine eg_callV (c := 13) (n := 2) [.int l1, .int l4] dX13_legs_37 (mX13_isHow e17) rfl (fX13_isHow_O e17) (Nat.le_of_ble_eq_true rfl) rfl ew_1937 ew_1939 ew_78 ew_110 ew_1940 hy_X13_isHow rfl (Nat.le_of_ble_eq_true rfl) (Nat.le_of_ble_eq_true rfl) (Nat.le_of_ble_eq_true rfl) ?_
        refine eg_if_eq 56 dX13_legs_40 rfl (fun c18 => ?_) (fun c18 => ?_)
        · replace hF := eg_it c18 hF
          refine eg_iconst (v := (-1 : Int32)) dX13_legs_56 (by decide) ?_
          exact eg_iretE dX13_legs_57 hF
        · replace hF := eg_if c18 hF
          refine eg_iload (i := 5) 5 dX13_legs_43 rfl ?_
          refine eg_i2l dX13_legs_45 ?_
          refine eg_lconst (v := (0 : Int64)) dX13_legs_46 (by decide) ?_
          refine eg_ldc2 (v := (11 : Int64)) dX13_legs_47 ew_2024 ?_
          replace hF := eg_bind hF; obtain ⟨⟨v20, h19⟩, e21, hF⟩ := hF
          refine eg_callS (n := 3) [.long l5.toInt64, .long (0 : Int64), .long (11 : Int64)] dX13_legs_50 (mX13_isIn e21) rfl ew_1697 ew_1698 ew_110 ew_1699 hy_X13_isIn.2 rfl (Nat.le_of_ble_eq_true rfl) (Nat.le_of_ble_eq_true rfl) (Nat.le_of_ble_eq_true rfl) ?_
          refine eg_if_ne 58 dX13_legs_53 rfl (fun c22 => ?_) (fun c22 => ?_)
          · replace hF := eg_it c22 hF
            refine eg_iconst (v := (-1 : Int32)) dX13_legs_56 (by decide) ?_
            exact eg_iretE dX13_legs_57 hF
          · replace hF := eg_if c22 hF
            refine eg_iconst (v := (4 : Int32)) dX13_legs_58 (by decide) ?_
            refine eg_iload_n (i := 1) 1 dX13_legs_59 rfl rfl ?_
            refine eg_bipush (v := (10 : Int32)) dX13_legs_60 (by decide) ?_
            refine eg_irem dX13_legs_62 (by decide) ?_
            refine eg_imul dX13_legs_63 ?_
            refine eg_iconst (v := (2 : Int32)) dX13_legs_64 (by decide) ?_
            refine eg_iadd dX13_legs_65 ?_
            replace hF := eg_bind hF; obtain ⟨v23, e24, hF⟩ := hF
            replace e24 := Option.some.inj e24
            rw [e24]
            refine eg_istore (i := 6) [(6, .int v23), (0, .ref l0), (1, .int l1), (2, .int l2), (3, .int l3), (4, .int l4), (5, .int l5)] dX13_legs_66 (Nat.le_of_ble_eq_true rfl) rfl ?_
            refine eg_aload_n (i := 0) 1 dX13_legs_68 rfl rfl ?_
            replace hF := eg_bind hF; obtain ⟨p25, e26, hF⟩ := hF
            refine eg_getR dX13_legs_69 e26 (Nat.le_of_ble_eq_true rfl) (Nat.le_of_ble_eq_true rfl) rfl ew_1454 ?_
            refine eg_iload (i := 6) 0 dX13_legs_72 rfl ?_
            replace hF := eg_bind hF; obtain ⟨v27, e28, hF⟩ := hF
            refine eg_iald dX13_legs_74 e28 ?_
            refine eg_istore (i := 7) [(7, .int v27), (6, .int v23), (0, .ref l0), (1, .int l1), (2, .int l2), (3, .int l3), (4, .int l4), (5, .int l5)] dX13_legs_75 (Nat.le_of_ble_eq_true rfl) rfl ?_
            refine eg_iconst (v := (0 : Int32)) dX13_legs_77 (by decide) ?_
            refine eg_istore (i := 8) [(8, .int (0 : Int32)), (7, .int v27), (6, .int v23), (0, .ref l0), (1, .int l1), (2, .int l2), (3, .int l3), (4, .int l4), (5, .int l5)] dX13_legs_78 (Nat.le_of_ble_eq_true rfl) rfl ?_
            refine eg_iconst (v := (0 : Int32)) dX13_legs_80 (by decide) ?_
            refine eg_istore (i := 9) [(9, .int (0 : Int32)), (8, .int (0 : Int32)), (7, .int v27), (6, .int v23), (0, .ref l0), (1, .int l1), (2, .int l2), (3, .int l3), (4, .int l4), (5, .int l5)] dX13_legs_81 (Nat.le_of_ble_eq_true rfl) rfl ?_
            replace hF := eg_bind hF; obtain ⟨x30, e29, hF⟩ := hF
            refine eg_sub [4, 5, 6, 7, 8, 9, 3, 2, 1, 0] [(0, .ref l0), (1, .int l1), (2, .int l2), (3, .int l3), (4, .int l4), (5, .int l5), (6, .int v23), (7, .int v27), (8, .int (0 : Int32)), (9, .int (0 : Int32))] rfl (fX13_legs_L83_ok eg_F h19 l0 l1 l2 l3 l4 l5 v23 v27 (0 : Int32) (0 : Int32) x30 e29 ?_)
            · intro p31 v32 v33 v34 h35 e40
              subst e40
              refine eg_aload_n (i := 0) 0 dX13_legs_132 rfl rfl ?_
              replace hF := eg_bind hF; obtain ⟨p36, e37, hF⟩ := hF
              refine eg_getR dX13_legs_133 e37 (Nat.le_of_ble_eq_true rfl) (Nat.le_of_ble_eq_true rfl) rfl ew_1454 ?_
              refine eg_iload (i := 6) 1 dX13_legs_136 rfl ?_
              refine eg_iload (i := 7) 2 dX13_legs_138 rfl ?_
              replace hF := eg_bind hF; obtain ⟨h38, e39, hF⟩ := hF
              refine eg_iast dX13_legs_140 e39 ?_
              refine eg_iload (i := 8) 3 dX13_legs_141 rfl ?_
              exact eg_iretE dX13_legs_143 hF
theorem dX13_stride_0 : decode cX13_stride 0 = .ok (.aload_n 0, 1) := by decide +kernel
theorem dX13_stride_1 : decode cX13_stride 1 = .ok (.iconst 0, 1) := by decide +kernel
theorem dX13_stride_2 : decode cX13_stride 2 = .ok (.putfield 148, 3) := by decide +kernel
theorem dX13_stride_5 : decode cX13_stride 5 = .ok (.aload_n 0, 1) := by decide +kernel
theorem dX13_stride_6 : decode cX13_stride 6 = .ok (.iload_n 1, 1) := by decide +kernel
theorem dX13_stride_7 : decode cX13_stride 7 = .ok (.invokevirtual 405, 3) := by decide +kernel
theorem dX13_stride_10 : decode cX13_stride 10 = .ok (.ifCond .eq 21, 3) := by decide +kernel
theorem dX13_stride_13 : decode cX13_stride 13 = .ok (.aload_n 0, 1) := by decide +kernel
theorem dX13_stride_14 : decode cX13_stride 14 = .ok (.iload_n 2, 1) := by decide +kernel
theorem dX13_stride_15 : decode cX13_stride 15 = .ok (.invokevirtual 408, 3) := by decide +kernel
theorem dX13_stride_18 : decode cX13_stride 18 = .ok (.ifCond .eq 13, 3) := by decide +kernel
theorem dX13_stride_21 : decode cX13_stride 21 = .ok (.iload_n 3, 1) := by decide +kernel
theorem dX13_stride_22 : decode cX13_stride 22 = .ok (.i2l, 1) := by decide +kernel
theorem dX13_stride_23 : decode cX13_stride 23 = .ok (.lconst 0, 1) := by decide +kernel
theorem dX13_stride_24 : decode cX13_stride 24 = .ok (.lconst 1, 1) := by decide +kernel
theorem dX13_stride_25 : decode cX13_stride 25 = .ok (.invokestatic 269, 3) := by decide +kernel
theorem dX13_stride_28 : decode cX13_stride 28 = .ok (.ifCond .ne 7, 3) := by decide +kernel
theorem dX13_stride_31 : decode cX13_stride 31 = .ok (.ldc2_w 444, 3) := by decide +kernel
theorem dX13_stride_34 : decode cX13_stride 34 = .ok (.lreturn, 1) := by decide +kernel
theorem dX13_stride_35 : decode cX13_stride 35 = .ok (.aload_n 0, 1) := by decide +kernel
theorem dX13_stride_36 : decode cX13_stride 36 = .ok (.getfield 37, 3) := by decide +kernel
theorem dX13_stride_39 : decode cX13_stride 39 = .ok (.iconst 2, 1) := by decide +kernel
theorem dX13_stride_40 : decode cX13_stride 40 = .ok (.iaload, 1) := by decide +kernel
theorem dX13_stride_41 : decode cX13_stride 41 = .ok (.istore 4, 2) := by decide +kernel
theorem dX13_stride_43 : decode cX13_stride 43 = .ok (.ldc2_w 444, 3) := by decide +kernel
theorem dX13_stride_46 : decode cX13_stride 46 = .ok (.lstore 5, 2) := by decide +kernel
theorem dX13_stride_48 : decode cX13_stride 48 = .ok (.ldc2_w 444, 3) := by decide +kernel
theorem dX13_stride_51 : decode cX13_stride 51 = .ok (.lstore 7, 2) := by decide +kernel
theorem dX13_stride_53 : decode cX13_stride 53 = .ok (.iconst 1, 1) := by decide +kernel
theorem dX13_stride_54 : decode cX13_stride 54 = .ok (.istore 9, 2) := by decide +kernel
theorem dX13_stride_56 : decode cX13_stride 56 = .ok (.iload 9, 2) := by decide +kernel
theorem dX13_stride_58 : decode cX13_stride 58 = .ok (.bipush 10, 2) := by decide +kernel
theorem dX13_stride_60 : decode cX13_stride 60 = .ok (.if_icmp .ge 99, 3) := by decide +kernel
theorem dX13_stride_63 : decode cX13_stride 63 = .ok (.aload_n 0, 1) := by decide +kernel
theorem dX13_stride_64 : decode cX13_stride 64 = .ok (.getfield 37, 3) := by decide +kernel
theorem dX13_stride_67 : decode cX13_stride 67 = .ok (.iconst 2, 1) := by decide +kernel
theorem dX13_stride_68 : decode cX13_stride 68 = .ok (.iload 9, 2) := by decide +kernel
theorem dX13_stride_70 : decode cX13_stride 70 = .ok (.iastore, 1) := by decide +kernel
theorem dX13_stride_71 : decode cX13_stride 71 = .ok (.aload_n 0, 1) := by decide +kernel
theorem dX13_stride_72 : decode cX13_stride 72 = .ok (.iload_n 1, 1) := by decide +kernel
theorem dX13_stride_73 : decode cX13_stride 73 = .ok (.iload_n 2, 1) := by decide +kernel
theorem dX13_stride_74 : decode cX13_stride 74 = .ok (.aload_n 0, 1) := by decide +kernel
theorem dX13_stride_75 : decode cX13_stride 75 = .ok (.getfield 91, 3) := by decide +kernel
theorem dX13_stride_78 : decode cX13_stride 78 = .ok (.invokevirtual 468, 3) := by decide +kernel
theorem dX13_stride_81 : decode cX13_stride 81 = .ok (.lconst 0, 1) := by decide +kernel
theorem dX13_stride_82 : decode cX13_stride 82 = .ok (.lstore 10, 2) := by decide +kernel
theorem dX13_stride_84 : decode cX13_stride 84 = .ok (.iconst 1, 1) := by decide +kernel
theorem dX13_stride_85 : decode cX13_stride 85 = .ok (.istore 12, 2) := by decide +kernel
theorem dX13_stride_87 : decode cX13_stride 87 = .ok (.iload 12, 2) := by decide +kernel
theorem dX13_stride_89 : decode cX13_stride 89 = .ok (.bipush 60, 2) := by decide +kernel
theorem dX13_stride_91 : decode cX13_stride 91 = .ok (.if_icmp .gt 42, 3) := by decide +kernel
theorem dX13_stride_94 : decode cX13_stride 94 = .ok (.lload 10, 2) := by decide +kernel
theorem dX13_stride_96 : decode cX13_stride 96 = .ok (.aload_n 0, 1) := by decide +kernel
theorem dX13_stride_97 : decode cX13_stride 97 = .ok (.getfield 37, 3) := by decide +kernel
theorem dX13_stride_100 : decode cX13_stride 100 = .ok (.iconst 3, 1) := by decide +kernel
theorem dX13_stride_101 : decode cX13_stride 101 = .ok (.iaload, 1) := by decide +kernel
theorem dX13_stride_102 : decode cX13_stride 102 = .ok (.iload 12, 2) := by decide +kernel
theorem dX13_stride_104 : decode cX13_stride 104 = .ok (.iconst 1, 1) := by decide +kernel
theorem dX13_stride_105 : decode cX13_stride 105 = .ok (.isub, 1) := by decide +kernel
theorem dX13_stride_106 : decode cX13_stride 106 = .ok (.iload 9, 2) := by decide +kernel
theorem dX13_stride_108 : decode cX13_stride 108 = .ok (.imul, 1) := by decide +kernel
theorem dX13_stride_109 : decode cX13_stride 109 = .ok (.iadd, 1) := by decide +kernel
theorem dX13_stride_110 : decode cX13_stride 110 = .ok (.i2l, 1) := by decide +kernel
theorem dX13_stride_111 : decode cX13_stride 111 = .ok (.aload_n 0, 1) := by decide +kernel
theorem dX13_stride_112 : decode cX13_stride 112 = .ok (.getfield 91, 3) := by decide +kernel
theorem dX13_stride_115 : decode cX13_stride 115 = .ok (.iload 12, 2) := by decide +kernel
theorem dX13_stride_117 : decode cX13_stride 117 = .ok (.iaload, 1) := by decide +kernel
theorem dX13_stride_118 : decode cX13_stride 118 = .ok (.i2l, 1) := by decide +kernel
theorem dX13_stride_119 : decode cX13_stride 119 = .ok (.lmul, 1) := by decide +kernel
theorem dX13_stride_120 : decode cX13_stride 120 = .ok (.ldc2_w 195, 3) := by decide +kernel
theorem dX13_stride_123 : decode cX13_stride 123 = .ok (.ldiv, 1) := by decide +kernel
theorem dX13_stride_124 : decode cX13_stride 124 = .ok (.ladd, 1) := by decide +kernel
theorem dX13_stride_125 : decode cX13_stride 125 = .ok (.lstore 10, 2) := by decide +kernel
theorem dX13_stride_127 : decode cX13_stride 127 = .ok (.iinc 12 1, 3) := by decide +kernel
theorem dX13_stride_130 : decode cX13_stride 130 = .ok (.goto (-43), 3) := by decide +kernel
theorem dX13_stride_133 : decode cX13_stride 133 = .ok (.lload 10, 2) := by decide +kernel
theorem dX13_stride_135 : decode cX13_stride 135 = .ok (.lload 7, 2) := by decide +kernel
theorem dX13_stride_137 : decode cX13_stride 137 = .ok (.lcmp, 1) := by decide +kernel
theorem dX13_stride_138 : decode cX13_stride 138 = .ok (.ifCond .gt 6, 3) := by decide +kernel
theorem dX13_stride_141 : decode cX13_stride 141 = .ok (.goto 12, 3) := by decide +kernel
theorem dX13_stride_144 : decode cX13_stride 144 = .ok (.iload 9, 2) := by decide +kernel
theorem dX13_stride_146 : decode cX13_stride 146 = .ok (.i2l, 1) := by decide +kernel
theorem dX13_stride_147 : decode cX13_stride 147 = .ok (.lstore 5, 2) := by decide +kernel
theorem dX13_stride_149 : decode cX13_stride 149 = .ok (.lload 10, 2) := by decide +kernel
theorem dX13_stride_151 : decode cX13_stride 151 = .ok (.lstore 7, 2) := by decide +kernel
theorem dX13_stride_153 : decode cX13_stride 153 = .ok (.iinc 9 1, 3) := by decide +kernel
theorem dX13_stride_156 : decode cX13_stride 156 = .ok (.goto (-100), 3) := by decide +kernel
theorem dX13_stride_159 : decode cX13_stride 159 = .ok (.aload_n 0, 1) := by decide +kernel
theorem dX13_stride_160 : decode cX13_stride 160 = .ok (.getfield 37, 3) := by decide +kernel
theorem dX13_stride_163 : decode cX13_stride 163 = .ok (.iconst 2, 1) := by decide +kernel
theorem dX13_stride_164 : decode cX13_stride 164 = .ok (.iload 4, 2) := by decide +kernel
theorem dX13_stride_166 : decode cX13_stride 166 = .ok (.iastore, 1) := by decide +kernel
theorem dX13_stride_167 : decode cX13_stride 167 = .ok (.iload_n 3, 1) := by decide +kernel
theorem dX13_stride_168 : decode cX13_stride 168 = .ok (.ifCond .ne 8, 3) := by decide +kernel
theorem dX13_stride_171 : decode cX13_stride 171 = .ok (.lload 5, 2) := by decide +kernel
theorem dX13_stride_173 : decode cX13_stride 173 = .ok (.goto 5, 3) := by decide +kernel
theorem dX13_stride_176 : decode cX13_stride 176 = .ok (.lload 7, 2) := by decide +kernel
theorem dX13_stride_178 : decode cX13_stride 178 = .ok (.lreturn, 1) := by decide +kernel
def fX13_stride_L87 : Nat → eg_H → Nat → Int32 → Int32 → Int32 → Int32 → Int64 → Int64 → Int32 → Int64 → Int32 → Option (Nat × Int32 × Int32 × Int32 × Int32 × Int64 × Int64 × Int32 × Int64 × eg_H)
  | 0, _, _, _, _, _, _, _, _, _, _, _ => none
  | n + 1, h, l0, l1, l2, l3, l4, l5, l7, l9, l10, l12 =>
    if (60 : Int32) < l12 then
      (some (l0, l1, l2, l3, l4, l5, l7, l9, l10, h))
    else
      (eg_gR h 13 18 l0).bind fun p2 =>
      (eg_aI h 100 p2 (3 : Int32)).bind fun v4 =>
      (eg_gR h 13 50 l0).bind fun p6 =>
      (eg_aI h 100 p6 l12).bind fun v8 =>
      (some ((l10 + (((v4 + ((l12 - (1 : Int32)) * l9)).toInt64 * v8.toInt64) / (1000000 : Int64))))).bind fun v10 =>
      fX13_stride_L87 n h l0 l1 l2 l3 l4 l5 l7 l9 v10 (l12 + (1 : Int32))
set_option maxRecDepth 20000 in
theorem fX13_stride_L87_ok {h0 : eg_H} {Z : eg_C → State → Prop} {N S : Nat} : ∀ (n : Nat) (h : eg_H) (l0 : Nat) (l1 : Int32) (l2 : Int32) (l3 : Int32) (l4 : Int32) (l5 : Int64) (l7 : Int64) (l9 : Int32) (l10 : Int64) (l12 : Int32) (eE : Nat × Int32 × Int32 × Int32 × Int32 × Int64 × Int64 × Int32 × Int64 × eg_H), fX13_stride_L87 n h l0 l1 l2 l3 l4 l5 l7 l9 l10 l12 = some eE → (hk0 : ∀ (l0 : Nat) (l1 : Int32) (l2 : Int32) (l3 : Int32) (l4 : Int32) (l5 : Int64) (l7 : Int64) (l9 : Int32) (l10 : Int64) (h : eg_H), eE = (l0, l1, l2, l3, l4, l5, l7, l9, l10, h) → eg_AW (RX13, cX13_stride, 13, 400, none, "stride", (some .long)) Z N S h0 133 [(0, .ref l0), (1, .int l1), (2, .int l2), (3, .int l3), (4, .int l4), (5, .long l5), (7, .long l7), (9, .int l9), (10, .long l10)] [] h) → eg_AW (RX13, cX13_stride, 13, 400, none, "stride", (some .long)) Z N S h0 87 [(0, .ref l0), (1, .int l1), (2, .int l2), (3, .int l3), (4, .int l4), (5, .long l5), (7, .long l7), (9, .int l9), (10, .long l10), (12, .int l12)] [] h := by
  intro n
  induction n with
  | zero => intro h l0 l1 l2 l3 l4 l5 l7 l9 l10 l12 eE hF; exact absurd hF (by intro q; cases q)
  | succ n ih =>
    intro h l0 l1 l2 l3 l4 l5 l7 l9 l10 l12 eE hF hk0
    have hrec := fun (h' : eg_H) (l0 : Nat) (l1 : Int32) (l2 : Int32) (l3 : Int32) (l4 : Int32) (l5 : Int64) (l7 : Int64) (l9 : Int32) (l10 : Int64) (l12 : Int32) hq => ih h' l0 l1 l2 l3 l4 l5 l7 l9 l10 l12 eE hq hk0
    refine eg_iload (i := 12) 9 dX13_stride_87 rfl ?_
    refine eg_bipush (v := (60 : Int32)) dX13_stride_89 (by decide) ?_
    refine eg_ic_gt 133 dX13_stride_91 rfl (fun c1 => ?_) (fun c1 => ?_)
    · replace hF := eg_it c1 hF
      exact eg_sub [0, 1, 2, 3, 4, 5, 6, 7, 8] [(0, .ref l0), (1, .int l1), (2, .int l2), (3, .int l3), (4, .int l4), (5, .long l5), (7, .long l7), (9, .int l9), (10, .long l10)] rfl (hk0 l0 l1 l2 l3 l4 l5 l7 l9 l10 h (Option.some.inj hF).symm)
    · replace hF := eg_if c1 hF
      refine eg_lload (i := 10) 8 dX13_stride_94 rfl ?_
      refine eg_aload_n (i := 0) 0 dX13_stride_96 rfl rfl ?_
      replace hF := eg_bind hF; obtain ⟨p2, e3, hF⟩ := hF
      refine eg_getR dX13_stride_97 e3 (Nat.le_of_ble_eq_true rfl) (Nat.le_of_ble_eq_true rfl) rfl ew_1452 ?_
      refine eg_iconst (v := (3 : Int32)) dX13_stride_100 (by decide) ?_
      replace hF := eg_bind hF; obtain ⟨v4, e5, hF⟩ := hF
      refine eg_iald dX13_stride_101 e5 ?_
      refine eg_iload (i := 12) 9 dX13_stride_102 rfl ?_
      refine eg_iconst (v := (1 : Int32)) dX13_stride_104 (by decide) ?_
      refine eg_isub dX13_stride_105 ?_
      refine eg_iload (i := 9) 7 dX13_stride_106 rfl ?_
      refine eg_imul dX13_stride_108 ?_
      refine eg_iadd dX13_stride_109 ?_
      refine eg_i2l dX13_stride_110 ?_
      refine eg_aload_n (i := 0) 0 dX13_stride_111 rfl rfl ?_
      replace hF := eg_bind hF; obtain ⟨p6, e7, hF⟩ := hF
      refine eg_getR dX13_stride_112 e7 (Nat.le_of_ble_eq_true rfl) (Nat.le_of_ble_eq_true rfl) rfl ew_1484 ?_
      refine eg_iload (i := 12) 9 dX13_stride_115 rfl ?_
      replace hF := eg_bind hF; obtain ⟨v8, e9, hF⟩ := hF
      refine eg_iald dX13_stride_117 e9 ?_
      refine eg_i2l dX13_stride_118 ?_
      refine eg_lmul dX13_stride_119 ?_
      refine eg_ldc2 (v := (1000000 : Int64)) dX13_stride_120 ew_1845 ?_
      refine eg_ldiv dX13_stride_123 (by decide) ?_
      refine eg_ladd dX13_stride_124 ?_
      replace hF := eg_bind hF; obtain ⟨v10, e11, hF⟩ := hF
      replace e11 := Option.some.inj e11
      rw [e11]
      refine eg_lstore (i := 10) [(10, .long v10), (0, .ref l0), (1, .int l1), (2, .int l2), (3, .int l3), (4, .int l4), (5, .long l5), (7, .long l7), (9, .int l9), (12, .int l12)] dX13_stride_125 (Nat.le_of_ble_eq_true rfl) rfl ?_
      refine eg_iinc (i := 12) (v := (l12 + (1 : Int32))) 9 [(12, .int (l12 + (1 : Int32))), (10, .long v10), (0, .ref l0), (1, .int l1), (2, .int l2), (3, .int l3), (4, .int l4), (5, .long l5), (7, .long l7), (9, .int l9)] dX13_stride_127 rfl rfl (Nat.le_of_ble_eq_true rfl) rfl ?_
      refine eg_goto 87 dX13_stride_130 rfl ?_
      exact eg_sub [2, 3, 4, 5, 6, 7, 8, 9, 1, 0] [(0, .ref l0), (1, .int l1), (2, .int l2), (3, .int l3), (4, .int l4), (5, .long l5), (7, .long l7), (9, .int l9), (10, .long v10), (12, .int (l12 + (1 : Int32)))] rfl (hrec h l0 l1 l2 l3 l4 l5 l7 l9 v10 (l12 + (1 : Int32)) hF)
def fX13_stride_L56 : Nat → eg_H → Nat → Int32 → Int32 → Int32 → Int32 → Int64 → Int64 → Int32 → Option (Nat × Int32 × Int32 × Int64 × Int64 × eg_H)
  | 0, _, _, _, _, _, _, _, _, _ => none
  | n + 1, h, l0, l1, l2, l3, l4, l5, l7, l9 =>
    if (10 : Int32) ≤ l9 then
      (some (l0, l3, l4, l5, l7, h))
    else
      (eg_gR h 13 18 l0).bind fun p2 =>
      (eg_wI h 100 p2 (2 : Int32) l9).bind fun h4 =>
      (eg_gR h4 13 50 l0).bind fun p6 =>
      (fX13_layComes h4 l0 l1 l2 p6).bind fun h8 =>
      (fX13_stride_L87 eg_F h8 l0 l1 l2 l3 l4 l5 l7 l9 (0 : Int64) (1 : Int32)).bind fun e =>
      match e with
      | (p12, v13, v14, v15, v16, v17, v18, v19, v20, h21) =>
        if v18 < v20 then
          ((some (v19.toInt64)).bind fun v23 =>
          fX13_stride_L56 n h21 p12 v13 v14 v15 v16 v23 v20 (v19 + (1 : Int32)))
        else
          fX13_stride_L56 n h21 p12 v13 v14 v15 v16 v17 v18 (v19 + (1 : Int32))
set_option maxRecDepth 20000 in
theorem fX13_stride_L56_ok {h0 : eg_H} {Z : eg_C → State → Prop} {N S : Nat} : ∀ (n : Nat) (h : eg_H) (l0 : Nat) (l1 : Int32) (l2 : Int32) (l3 : Int32) (l4 : Int32) (l5 : Int64) (l7 : Int64) (l9 : Int32) (eE : Nat × Int32 × Int32 × Int64 × Int64 × eg_H), fX13_stride_L56 n h l0 l1 l2 l3 l4 l5 l7 l9 = some eE → (hk0 : ∀ (l0 : Nat) (l3 : Int32) (l4 : Int32) (l5 : Int64) (l7 : Int64) (h : eg_H), eE = (l0, l3, l4, l5, l7, h) → eg_AW (RX13, cX13_stride, 13, 400, none, "stride", (some .long)) Z N S h0 159 [(0, .ref l0), (3, .int l3), (4, .int l4), (5, .long l5), (7, .long l7)] [] h) → eg_AW (RX13, cX13_stride, 13, 400, none, "stride", (some .long)) Z N S h0 56 [(0, .ref l0), (1, .int l1), (2, .int l2), (3, .int l3), (4, .int l4), (5, .long l5), (7, .long l7), (9, .int l9)] [] h := by
  intro n
  induction n with
  | zero => intro h l0 l1 l2 l3 l4 l5 l7 l9 eE hF; exact absurd hF (by intro q; cases q)
  | succ n ih =>
    intro h l0 l1 l2 l3 l4 l5 l7 l9 eE hF hk0
    have hrec := fun (h' : eg_H) (l0 : Nat) (l1 : Int32) (l2 : Int32) (l3 : Int32) (l4 : Int32) (l5 : Int64) (l7 : Int64) (l9 : Int32) hq => ih h' l0 l1 l2 l3 l4 l5 l7 l9 eE hq hk0
    refine eg_iload (i := 9) 7 dX13_stride_56 rfl ?_
    refine eg_bipush (v := (10 : Int32)) dX13_stride_58 (by decide) ?_
    refine eg_ic_ge 159 dX13_stride_60 rfl (fun c1 => ?_) (fun c1 => ?_)
    · replace hF := eg_it c1 hF
      exact eg_sub [0, 3, 4, 5, 6] [(0, .ref l0), (3, .int l3), (4, .int l4), (5, .long l5), (7, .long l7)] rfl (hk0 l0 l3 l4 l5 l7 h (Option.some.inj hF).symm)
    · replace hF := eg_if c1 hF
      refine eg_aload_n (i := 0) 0 dX13_stride_63 rfl rfl ?_
      replace hF := eg_bind hF; obtain ⟨p2, e3, hF⟩ := hF
      refine eg_getR dX13_stride_64 e3 (Nat.le_of_ble_eq_true rfl) (Nat.le_of_ble_eq_true rfl) rfl ew_1452 ?_
      refine eg_iconst (v := (2 : Int32)) dX13_stride_67 (by decide) ?_
      refine eg_iload (i := 9) 7 dX13_stride_68 rfl ?_
      replace hF := eg_bind hF; obtain ⟨h4, e5, hF⟩ := hF
      refine eg_iast dX13_stride_70 e5 ?_
      refine eg_aload_n (i := 0) 0 dX13_stride_71 rfl rfl ?_
      refine eg_iload_n (i := 1) 1 dX13_stride_72 rfl rfl ?_
      refine eg_iload_n (i := 2) 2 dX13_stride_73 rfl rfl ?_
      refine eg_aload_n (i := 0) 0 dX13_stride_74 rfl rfl ?_
      replace hF := eg_bind hF; obtain ⟨p6, e7, hF⟩ := hF
      refine eg_getR dX13_stride_75 e7 (Nat.le_of_ble_eq_true rfl) (Nat.le_of_ble_eq_true rfl) rfl ew_1484 ?_
      replace hF := eg_bind hF; obtain ⟨h8, e9, hF⟩ := hF
      refine eg_callV (c := 13) (n := 3) [.int l1, .int l2, .ref p6] dX13_stride_78 (mX13_layComes e9) rfl (fX13_layComes_O e9) (Nat.le_of_ble_eq_true rfl) rfl ew_2037 ew_2039 ew_89 ew_110 ew_2040 hy_X13_layComes rfl (Nat.le_of_ble_eq_true rfl) (Nat.le_of_ble_eq_true rfl) (Nat.le_of_ble_eq_true rfl) ?_
      refine eg_lconst (v := (0 : Int64)) dX13_stride_81 (by decide) ?_
      refine eg_lstore (i := 10) [(10, .long (0 : Int64)), (0, .ref l0), (1, .int l1), (2, .int l2), (3, .int l3), (4, .int l4), (5, .long l5), (7, .long l7), (9, .int l9)] dX13_stride_82 (Nat.le_of_ble_eq_true rfl) rfl ?_
      refine eg_iconst (v := (1 : Int32)) dX13_stride_84 (by decide) ?_
      refine eg_istore (i := 12) [(12, .int (1 : Int32)), (10, .long (0 : Int64)), (0, .ref l0), (1, .int l1), (2, .int l2), (3, .int l3), (4, .int l4), (5, .long l5), (7, .long l7), (9, .int l9)] dX13_stride_85 (Nat.le_of_ble_eq_true rfl) rfl ?_
      replace hF := eg_bind hF; obtain ⟨x11, e10, hF⟩ := hF
      refine eg_sub [2, 3, 4, 5, 6, 7, 8, 9, 1, 0] [(0, .ref l0), (1, .int l1), (2, .int l2), (3, .int l3), (4, .int l4), (5, .long l5), (7, .long l7), (9, .int l9), (10, .long (0 : Int64)), (12, .int (1 : Int32))] rfl (fX13_stride_L87_ok eg_F h8 l0 l1 l2 l3 l4 l5 l7 l9 (0 : Int64) (1 : Int32) x11 e10 ?_)
      · intro p12 v13 v14 v15 v16 v17 v18 v19 v20 h21 e25
        subst e25
        refine eg_lload (i := 10) 8 dX13_stride_133 rfl ?_
        refine eg_lload (i := 7) 6 dX13_stride_135 rfl ?_
        refine eg_lc_gt 144 dX13_stride_137 dX13_stride_138 rfl (fun c22 => ?_) (fun c22 => ?_)
        · replace hF := eg_it c22 hF
          refine eg_iload (i := 9) 7 dX13_stride_144 rfl ?_
          refine eg_i2l dX13_stride_146 ?_
          replace hF := eg_bind hF; obtain ⟨v23, e24, hF⟩ := hF
          replace e24 := Option.some.inj e24
          rw [e24]
          refine eg_lstore (i := 5) [(5, .long v23), (0, .ref p12), (1, .int v13), (2, .int v14), (3, .int v15), (4, .int v16), (7, .long v18), (9, .int v19), (10, .long v20)] dX13_stride_147 (Nat.le_of_ble_eq_true rfl) rfl ?_
          refine eg_lload (i := 10) 8 dX13_stride_149 rfl ?_
          refine eg_lstore (i := 7) [(7, .long v20), (5, .long v23), (0, .ref p12), (1, .int v13), (2, .int v14), (3, .int v15), (4, .int v16), (9, .int v19), (10, .long v20)] dX13_stride_151 (Nat.le_of_ble_eq_true rfl) rfl ?_
          refine eg_iinc (i := 9) (v := (v19 + (1 : Int32))) 7 [(9, .int (v19 + (1 : Int32))), (7, .long v20), (5, .long v23), (0, .ref p12), (1, .int v13), (2, .int v14), (3, .int v15), (4, .int v16), (10, .long v20)] dX13_stride_153 rfl rfl (Nat.le_of_ble_eq_true rfl) rfl ?_
          refine eg_goto 56 dX13_stride_156 rfl ?_
          exact eg_sub [3, 4, 5, 6, 7, 2, 1, 0] [(0, .ref p12), (1, .int v13), (2, .int v14), (3, .int v15), (4, .int v16), (5, .long v23), (7, .long v20), (9, .int (v19 + (1 : Int32)))] rfl (hrec h21 p12 v13 v14 v15 v16 v23 v20 (v19 + (1 : Int32)) hF)
        · replace hF := eg_if c22 hF
          refine eg_goto 153 dX13_stride_141 rfl ?_
          refine eg_iinc (i := 9) (v := (v19 + (1 : Int32))) 7 [(9, .int (v19 + (1 : Int32))), (0, .ref p12), (1, .int v13), (2, .int v14), (3, .int v15), (4, .int v16), (5, .long v17), (7, .long v18), (10, .long v20)] dX13_stride_153 rfl rfl (Nat.le_of_ble_eq_true rfl) rfl ?_
          refine eg_goto 56 dX13_stride_156 rfl ?_
          exact eg_sub [1, 2, 3, 4, 5, 6, 7, 0] [(0, .ref p12), (1, .int v13), (2, .int v14), (3, .int v15), (4, .int v16), (5, .long v17), (7, .long v18), (9, .int (v19 + (1 : Int32)))] rfl (hrec h21 p12 v13 v14 v15 v16 v17 v18 (v19 + (1 : Int32)) hF)
def fX13_stride (h : eg_H) (l0 : Nat) (l1 : Int32) (l2 : Int32) (l3 : Int32) : Option (Int64 × eg_H) :=
  if eg_isO h 13 l0 then (
    (eg_pI h 13 0 l0 (0 : Int32)).bind fun h1 =>
    (fX13_isTwo h1 l0 l1).bind fun ⟨v4, h3⟩ =>
    if v4 = 0 then
      (some ((-1 : Int64), h3))
    else
      (fX13_isFrom h3 l0 l2).bind fun ⟨v8, h7⟩ =>
      if v8 = 0 then
        (some ((-1 : Int64), h7))
      else
        (fX13_isIn h7 l3.toInt64 (0 : Int64) (1 : Int64)).bind fun ⟨v12, h11⟩ =>
        if v12 = 0 then
          (some ((-1 : Int64), h11))
        else
          (eg_gR h11 13 18 l0).bind fun p15 =>
          (eg_aI h11 100 p15 (2 : Int32)).bind fun v17 =>
          (fX13_stride_L56 eg_F h11 l0 l1 l2 l3 v17 (-1 : Int64) (-1 : Int64) (1 : Int32)).bind fun e =>
          match e with
          | (p21, v22, v23, v24, v25, h26) =>
            (eg_gR h26 13 18 p21).bind fun p27 =>
            (eg_wI h26 100 p27 (2 : Int32) v23).bind fun h29 =>
            if v22 = 0 then
              (some (v24, h29))
            else
              some (v25, h29)) else none
theorem fX13_stride_O {h : eg_H} {l0 : Nat} {l1 : Int32} {l2 : Int32} {l3 : Int32} {rE : Int64} {hE : eg_H} (hF : fX13_stride h l0 l1 l2 l3 = some (rE, hE)) : eg_isO h 13 l0 := (eg_ifn hF).1
set_option maxRecDepth 20000 in
theorem mX13_stride {h : eg_H} {l0 : Nat} {l1 : Int32} {l2 : Int32} {l3 : Int32} {rE : Int64} {hE : eg_H} (hF : fX13_stride h l0 l1 l2 l3 = some (rE, hE)) : eg_Met yX13_stride cX13_stride 13 (some .long) 400 [.ref l0, .int l1, .int l2, .int l3] h (some (.long rE)) hE := by
  refine eg_enter rfl (Nat.le_of_ble_eq_true rfl) ?_
  show eg_AW (RX13, cX13_stride, 13, 400, none, "stride", (some .long)) (eg_Zm (some (.long rE)) hE h) (eg_nc hE) (eg_ns hE) h 0 [(0, .ref l0), (1, .int l1), (2, .int l2), (3, .int l3)] [] h
  replace hF := (eg_ifn hF).2
  refine eg_aload_n (i := 0) 0 dX13_stride_0 rfl rfl ?_
  refine eg_iconst (v := (0 : Int32)) dX13_stride_1 (by decide) ?_
  replace hF := eg_bind hF; obtain ⟨h1, e2, hF⟩ := hF
  refine eg_putI dX13_stride_2 e2 (Nat.le_of_ble_eq_true rfl) (Nat.le_of_ble_eq_true rfl) rfl ew_1434 (Or.inl rfl) ?_
  refine eg_aload_n (i := 0) 0 dX13_stride_5 rfl rfl ?_
  refine eg_iload_n (i := 1) 1 dX13_stride_6 rfl rfl ?_
  replace hF := eg_bind hF; obtain ⟨⟨v4, h3⟩, e5, hF⟩ := hF
  refine eg_callV (c := 13) (n := 1) [.int l1] dX13_stride_7 (mX13_isTwo e5) rfl (fX13_isTwo_O e5) (Nat.le_of_ble_eq_true rfl) rfl ew_1929 ew_1931 ew_76 ew_110 ew_1932 hy_X13_isTwo rfl (Nat.le_of_ble_eq_true rfl) (Nat.le_of_ble_eq_true rfl) (Nat.le_of_ble_eq_true rfl) ?_
  refine eg_if_eq 31 dX13_stride_10 rfl (fun c6 => ?_) (fun c6 => ?_)
  · replace hF := eg_it c6 hF
    refine eg_ldc2 (v := (-1 : Int64)) dX13_stride_31 ew_1990 ?_
    exact eg_lretE dX13_stride_34 hF
  · replace hF := eg_if c6 hF
    refine eg_aload_n (i := 0) 0 dX13_stride_13 rfl rfl ?_
    refine eg_iload_n (i := 2) 2 dX13_stride_14 rfl rfl ?_
    replace hF := eg_bind hF; obtain ⟨⟨v8, h7⟩, e9, hF⟩ := hF
    refine eg_callV (c := 13) (n := 1) [.int l2] dX13_stride_15 (mX13_isFrom e9) rfl (fX13_isFrom_O e9) (Nat.le_of_ble_eq_true rfl) rfl ew_1933 ew_1935 ew_77 ew_110 ew_1936 hy_X13_isFrom rfl (Nat.le_of_ble_eq_true rfl) (Nat.le_of_ble_eq_true rfl) (Nat.le_of_ble_eq_true rfl) ?_
    refine eg_if_eq 31 dX13_stride_18 rfl (fun c10 => ?_) (fun c10 => ?_)
    · replace hF := eg_it c10 hF
      refine eg_ldc2 (v := (-1 : Int64)) dX13_stride_31 ew_1990 ?_
      exact eg_lretE dX13_stride_34 hF
    · replace hF := eg_if c10 hF
      refine eg_iload_n (i := 3) 3 dX13_stride_21 rfl rfl ?_
      refine eg_i2l dX13_stride_22 ?_
      refine eg_lconst (v := (0 : Int64)) dX13_stride_23 (by decide) ?_
      refine eg_lconst (v := (1 : Int64)) dX13_stride_24 (by decide) ?_
      replace hF := eg_bind hF; obtain ⟨⟨v12, h11⟩, e13, hF⟩ := hF
      refine eg_callS (n := 3) [.long l3.toInt64, .long (0 : Int64), .long (1 : Int64)] dX13_stride_25 (mX13_isIn e13) rfl ew_1697 ew_1698 ew_110 ew_1699 hy_X13_isIn.2 rfl (Nat.le_of_ble_eq_true rfl) (Nat.le_of_ble_eq_true rfl) (Nat.le_of_ble_eq_true rfl) ?_
      refine eg_if_ne 35 dX13_stride_28 rfl (fun c14 => ?_) (fun c14 => ?_)
      · replace hF := eg_it c14 hF
        refine eg_ldc2 (v := (-1 : Int64)) dX13_stride_31 ew_1990 ?_
        exact eg_lretE dX13_stride_34 hF
      · replace hF := eg_if c14 hF
        refine eg_aload_n (i := 0) 0 dX13_stride_35 rfl rfl ?_
        replace hF := eg_bind hF; obtain ⟨p15, e16, hF⟩ := hF
        refine eg_getR dX13_stride_36 e16 (Nat.le_of_ble_eq_true rfl) (Nat.le_of_ble_eq_true rfl) rfl ew_1452 ?_
        refine eg_iconst (v := (2 : Int32)) dX13_stride_39 (by decide) ?_
        replace hF := eg_bind hF; obtain ⟨v17, e18, hF⟩ := hF
        refine eg_iald dX13_stride_40 e18 ?_
        refine eg_istore (i := 4) [(4, .int v17), (0, .ref l0), (1, .int l1), (2, .int l2), (3, .int l3)] dX13_stride_41 (Nat.le_of_ble_eq_true rfl) rfl ?_
        refine eg_ldc2 (v := (-1 : Int64)) dX13_stride_43 ew_1990 ?_
        refine eg_lstore (i := 5) [(5, .long (-1 : Int64)), (4, .int v17), (0, .ref l0), (1, .int l1), (2, .int l2), (3, .int l3)] dX13_stride_46 (Nat.le_of_ble_eq_true rfl) rfl ?_
        refine eg_ldc2 (v := (-1 : Int64)) dX13_stride_48 ew_1990 ?_
        refine eg_lstore (i := 7) [(7, .long (-1 : Int64)), (5, .long (-1 : Int64)), (4, .int v17), (0, .ref l0), (1, .int l1), (2, .int l2), (3, .int l3)] dX13_stride_51 (Nat.le_of_ble_eq_true rfl) rfl ?_
        refine eg_iconst (v := (1 : Int32)) dX13_stride_53 (by decide) ?_
        refine eg_istore (i := 9) [(9, .int (1 : Int32)), (7, .long (-1 : Int64)), (5, .long (-1 : Int64)), (4, .int v17), (0, .ref l0), (1, .int l1), (2, .int l2), (3, .int l3)] dX13_stride_54 (Nat.le_of_ble_eq_true rfl) rfl ?_
        replace hF := eg_bind hF; obtain ⟨x20, e19, hF⟩ := hF
        refine eg_sub [4, 5, 6, 7, 3, 2, 1, 0] [(0, .ref l0), (1, .int l1), (2, .int l2), (3, .int l3), (4, .int v17), (5, .long (-1 : Int64)), (7, .long (-1 : Int64)), (9, .int (1 : Int32))] rfl (fX13_stride_L56_ok eg_F h11 l0 l1 l2 l3 v17 (-1 : Int64) (-1 : Int64) (1 : Int32) x20 e19 ?_)
        · intro p21 v22 v23 v24 v25 h26 e32
          subst e32
          refine eg_aload_n (i := 0) 0 dX13_stride_159 rfl rfl ?_
          replace hF := eg_bind hF; obtain ⟨p27, e28, hF⟩ := hF
          refine eg_getR dX13_stride_160 e28 (Nat.le_of_ble_eq_true rfl) (Nat.le_of_ble_eq_true rfl) rfl ew_1452 ?_
          refine eg_iconst (v := (2 : Int32)) dX13_stride_163 (by decide) ?_
          refine eg_iload (i := 4) 2 dX13_stride_164 rfl ?_
          replace hF := eg_bind hF; obtain ⟨h29, e30, hF⟩ := hF
          refine eg_iast dX13_stride_166 e30 ?_
          refine eg_iload_n (i := 3) 1 dX13_stride_167 rfl rfl ?_
          refine eg_if_ne 176 dX13_stride_168 rfl (fun c31 => ?_) (fun c31 => ?_)
          · replace hF := eg_it c31 hF
            refine eg_lload (i := 5) 3 dX13_stride_171 rfl ?_
            refine eg_goto 178 dX13_stride_173 rfl ?_
            exact eg_lretE dX13_stride_178 hF
          · replace hF := eg_if c31 hF
            refine eg_lload (i := 7) 4 dX13_stride_176 rfl ?_
            exact eg_lretE dX13_stride_178 hF
theorem dX13_rank_0 : decode cX13_rank 0 = .ok (.aload_n 0, 1) := by decide +kernel
theorem dX13_rank_1 : decode cX13_rank 1 = .ok (.iconst 0, 1) := by decide +kernel
theorem dX13_rank_2 : decode cX13_rank 2 = .ok (.putfield 148, 3) := by decide +kernel
theorem dX13_rank_5 : decode cX13_rank 5 = .ok (.aload_n 0, 1) := by decide +kernel
theorem dX13_rank_6 : decode cX13_rank 6 = .ok (.iload_n 1, 1) := by decide +kernel
theorem dX13_rank_7 : decode cX13_rank 7 = .ok (.invokevirtual 356, 3) := by decide +kernel
theorem dX13_rank_10 : decode cX13_rank 10 = .ok (.ifCond .eq 7, 3) := by decide +kernel
theorem dX13_rank_13 : decode cX13_rank 13 = .ok (.iload_n 2, 1) := by decide +kernel
theorem dX13_rank_14 : decode cX13_rank 14 = .ok (.ifCond .ge 5, 3) := by decide +kernel
theorem dX13_rank_17 : decode cX13_rank 17 = .ok (.iconst (-1), 1) := by decide +kernel
theorem dX13_rank_18 : decode cX13_rank 18 = .ok (.ireturn, 1) := by decide +kernel
theorem dX13_rank_19 : decode cX13_rank 19 = .ok (.iconst 0, 1) := by decide +kernel
theorem dX13_rank_20 : decode cX13_rank 20 = .ok (.istore_n 3, 1) := by decide +kernel
theorem dX13_rank_21 : decode cX13_rank 21 = .ok (.iconst 0, 1) := by decide +kernel
theorem dX13_rank_22 : decode cX13_rank 22 = .ok (.istore 4, 2) := by decide +kernel
theorem dX13_rank_24 : decode cX13_rank 24 = .ok (.iload 4, 2) := by decide +kernel
theorem dX13_rank_26 : decode cX13_rank 26 = .ok (.aload_n 0, 1) := by decide +kernel
theorem dX13_rank_27 : decode cX13_rank 27 = .ok (.getfield 335, 3) := by decide +kernel
theorem dX13_rank_30 : decode cX13_rank 30 = .ok (.if_icmp .ge 136, 3) := by decide +kernel
theorem dX13_rank_33 : decode cX13_rank 33 = .ok (.iload 4, 2) := by decide +kernel
theorem dX13_rank_35 : decode cX13_rank 35 = .ok (.iconst 1, 1) := by decide +kernel
theorem dX13_rank_36 : decode cX13_rank 36 = .ok (.iadd, 1) := by decide +kernel
theorem dX13_rank_37 : decode cX13_rank 37 = .ok (.istore 5, 2) := by decide +kernel
theorem dX13_rank_39 : decode cX13_rank 39 = .ok (.iload 5, 2) := by decide +kernel
theorem dX13_rank_41 : decode cX13_rank 41 = .ok (.aload_n 0, 1) := by decide +kernel
theorem dX13_rank_42 : decode cX13_rank 42 = .ok (.getfield 335, 3) := by decide +kernel
theorem dX13_rank_45 : decode cX13_rank 45 = .ok (.if_icmp .ge 115, 3) := by decide +kernel
theorem dX13_rank_48 : decode cX13_rank 48 = .ok (.aload_n 0, 1) := by decide +kernel
theorem dX13_rank_49 : decode cX13_rank 49 = .ok (.bipush 10, 2) := by decide +kernel
theorem dX13_rank_51 : decode cX13_rank 51 = .ok (.iload 4, 2) := by decide +kernel
theorem dX13_rank_53 : decode cX13_rank 53 = .ok (.imul, 1) := by decide +kernel
theorem dX13_rank_54 : decode cX13_rank 54 = .ok (.iload 5, 2) := by decide +kernel
theorem dX13_rank_56 : decode cX13_rank 56 = .ok (.iadd, 1) := by decide +kernel
theorem dX13_rank_57 : decode cX13_rank 57 = .ok (.bipush 10, 2) := by decide +kernel
theorem dX13_rank_59 : decode cX13_rank 59 = .ok (.iload_n 1, 1) := by decide +kernel
theorem dX13_rank_60 : decode cX13_rank 60 = .ok (.imul, 1) := by decide +kernel
theorem dX13_rank_61 : decode cX13_rank 61 = .ok (.invokevirtual 440, 3) := by decide +kernel
theorem dX13_rank_64 : decode cX13_rank 64 = .ok (.lstore 6, 2) := by decide +kernel
theorem dX13_rank_66 : decode cX13_rank 66 = .ok (.iload_n 3, 1) := by decide +kernel
theorem dX13_rank_67 : decode cX13_rank 67 = .ok (.istore 8, 2) := by decide +kernel
theorem dX13_rank_69 : decode cX13_rank 69 = .ok (.iload 8, 2) := by decide +kernel
theorem dX13_rank_71 : decode cX13_rank 71 = .ok (.ifCond .le 56, 3) := by decide +kernel
theorem dX13_rank_74 : decode cX13_rank 74 = .ok (.aload_n 0, 1) := by decide +kernel
theorem dX13_rank_75 : decode cX13_rank 75 = .ok (.getfield 75, 3) := by decide +kernel
theorem dX13_rank_78 : decode cX13_rank 78 = .ok (.iload 8, 2) := by decide +kernel
theorem dX13_rank_80 : decode cX13_rank 80 = .ok (.iconst 1, 1) := by decide +kernel
theorem dX13_rank_81 : decode cX13_rank 81 = .ok (.isub, 1) := by decide +kernel
theorem dX13_rank_82 : decode cX13_rank 82 = .ok (.laload, 1) := by decide +kernel
theorem dX13_rank_83 : decode cX13_rank 83 = .ok (.lload 6, 2) := by decide +kernel
theorem dX13_rank_85 : decode cX13_rank 85 = .ok (.lcmp, 1) := by decide +kernel
theorem dX13_rank_86 : decode cX13_rank 86 = .ok (.ifCond .ge 41, 3) := by decide +kernel
theorem dX13_rank_89 : decode cX13_rank 89 = .ok (.aload_n 0, 1) := by decide +kernel
theorem dX13_rank_90 : decode cX13_rank 90 = .ok (.getfield 75, 3) := by decide +kernel
theorem dX13_rank_93 : decode cX13_rank 93 = .ok (.iload 8, 2) := by decide +kernel
theorem dX13_rank_95 : decode cX13_rank 95 = .ok (.aload_n 0, 1) := by decide +kernel
theorem dX13_rank_96 : decode cX13_rank 96 = .ok (.getfield 75, 3) := by decide +kernel
theorem dX13_rank_99 : decode cX13_rank 99 = .ok (.iload 8, 2) := by decide +kernel
theorem dX13_rank_101 : decode cX13_rank 101 = .ok (.iconst 1, 1) := by decide +kernel
theorem dX13_rank_102 : decode cX13_rank 102 = .ok (.isub, 1) := by decide +kernel
theorem dX13_rank_103 : decode cX13_rank 103 = .ok (.laload, 1) := by decide +kernel
theorem dX13_rank_104 : decode cX13_rank 104 = .ok (.lastore, 1) := by decide +kernel
theorem dX13_rank_105 : decode cX13_rank 105 = .ok (.aload_n 0, 1) := by decide +kernel
theorem dX13_rank_106 : decode cX13_rank 106 = .ok (.getfield 97, 3) := by decide +kernel
theorem dX13_rank_109 : decode cX13_rank 109 = .ok (.iload 8, 2) := by decide +kernel
theorem dX13_rank_111 : decode cX13_rank 111 = .ok (.aload_n 0, 1) := by decide +kernel
theorem dX13_rank_112 : decode cX13_rank 112 = .ok (.getfield 97, 3) := by decide +kernel
theorem dX13_rank_115 : decode cX13_rank 115 = .ok (.iload 8, 2) := by decide +kernel
theorem dX13_rank_117 : decode cX13_rank 117 = .ok (.iconst 1, 1) := by decide +kernel
theorem dX13_rank_118 : decode cX13_rank 118 = .ok (.isub, 1) := by decide +kernel
theorem dX13_rank_119 : decode cX13_rank 119 = .ok (.iaload, 1) := by decide +kernel
theorem dX13_rank_120 : decode cX13_rank 120 = .ok (.iastore, 1) := by decide +kernel
theorem dX13_rank_121 : decode cX13_rank 121 = .ok (.iinc 8 (-1), 3) := by decide +kernel
theorem dX13_rank_124 : decode cX13_rank 124 = .ok (.goto (-55), 3) := by decide +kernel
theorem dX13_rank_127 : decode cX13_rank 127 = .ok (.aload_n 0, 1) := by decide +kernel
theorem dX13_rank_128 : decode cX13_rank 128 = .ok (.getfield 75, 3) := by decide +kernel
theorem dX13_rank_131 : decode cX13_rank 131 = .ok (.iload 8, 2) := by decide +kernel
theorem dX13_rank_133 : decode cX13_rank 133 = .ok (.lload 6, 2) := by decide +kernel
theorem dX13_rank_135 : decode cX13_rank 135 = .ok (.lastore, 1) := by decide +kernel
theorem dX13_rank_136 : decode cX13_rank 136 = .ok (.aload_n 0, 1) := by decide +kernel
theorem dX13_rank_137 : decode cX13_rank 137 = .ok (.getfield 97, 3) := by decide +kernel
theorem dX13_rank_140 : decode cX13_rank 140 = .ok (.iload 8, 2) := by decide +kernel
theorem dX13_rank_142 : decode cX13_rank 142 = .ok (.bipush 10, 2) := by decide +kernel
theorem dX13_rank_144 : decode cX13_rank 144 = .ok (.iload 4, 2) := by decide +kernel
theorem dX13_rank_146 : decode cX13_rank 146 = .ok (.imul, 1) := by decide +kernel
theorem dX13_rank_147 : decode cX13_rank 147 = .ok (.iload 5, 2) := by decide +kernel
theorem dX13_rank_149 : decode cX13_rank 149 = .ok (.iadd, 1) := by decide +kernel
theorem dX13_rank_150 : decode cX13_rank 150 = .ok (.iastore, 1) := by decide +kernel
theorem dX13_rank_151 : decode cX13_rank 151 = .ok (.iinc 3 1, 3) := by decide +kernel
theorem dX13_rank_154 : decode cX13_rank 154 = .ok (.iinc 5 1, 3) := by decide +kernel
theorem dX13_rank_157 : decode cX13_rank 157 = .ok (.goto (-118), 3) := by decide +kernel
theorem dX13_rank_160 : decode cX13_rank 160 = .ok (.iinc 4 1, 3) := by decide +kernel
theorem dX13_rank_163 : decode cX13_rank 163 = .ok (.goto (-139), 3) := by decide +kernel
theorem dX13_rank_166 : decode cX13_rank 166 = .ok (.iload_n 2, 1) := by decide +kernel
theorem dX13_rank_167 : decode cX13_rank 167 = .ok (.iload_n 3, 1) := by decide +kernel
theorem dX13_rank_168 : decode cX13_rank 168 = .ok (.if_icmp .ge 12, 3) := by decide +kernel
theorem dX13_rank_171 : decode cX13_rank 171 = .ok (.aload_n 0, 1) := by decide +kernel
theorem dX13_rank_172 : decode cX13_rank 172 = .ok (.getfield 97, 3) := by decide +kernel
theorem dX13_rank_175 : decode cX13_rank 175 = .ok (.iload_n 2, 1) := by decide +kernel
theorem dX13_rank_176 : decode cX13_rank 176 = .ok (.iaload, 1) := by decide +kernel
theorem dX13_rank_177 : decode cX13_rank 177 = .ok (.goto 4, 3) := by decide +kernel
theorem dX13_rank_180 : decode cX13_rank 180 = .ok (.iconst (-1), 1) := by decide +kernel
theorem dX13_rank_181 : decode cX13_rank 181 = .ok (.ireturn, 1) := by decide +kernel
def fX13_rank_L69 : Nat → eg_H → Nat → Int32 → Int32 → Int32 → Int32 → Int32 → Int64 → Int32 → Option (Nat × Int32 × Int32 × Int32 × Int32 × Int32 × Int64 × Int32 × eg_H)
  | 0, _, _, _, _, _, _, _, _, _ => none
  | n + 1, h, l0, l1, l2, l3, l4, l5, l6, l8 =>
    if l8 ≤ 0 then
      (some (l0, l1, l2, l3, l4, l5, l6, l8, h))
    else
      (eg_gR h 13 42 l0).bind fun p2 =>
      (eg_aL h p2 (l8 - (1 : Int32))).bind fun v4 =>
      if l6 ≤ v4 then
        (some (l0, l1, l2, l3, l4, l5, l6, l8, h))
      else
        (eg_gR h 13 42 l0).bind fun p7 =>
        (eg_gR h 13 42 l0).bind fun p9 =>
        (eg_aL h p9 (l8 - (1 : Int32))).bind fun v11 =>
        (eg_wL h p7 l8 v11).bind fun h13 =>
        (eg_gR h13 13 52 l0).bind fun p15 =>
        (eg_gR h13 13 52 l0).bind fun p17 =>
        (eg_aI h13 100 p17 (l8 - (1 : Int32))).bind fun v19 =>
        (eg_wI h13 100 p15 l8 v19).bind fun h21 =>
        fX13_rank_L69 n h21 l0 l1 l2 l3 l4 l5 l6 (l8 + (-1 : Int32))
set_option maxRecDepth 20000 in
theorem fX13_rank_L69_ok {h0 : eg_H} {Z : eg_C → State → Prop} {N S : Nat} : ∀ (n : Nat) (h : eg_H) (l0 : Nat) (l1 : Int32) (l2 : Int32) (l3 : Int32) (l4 : Int32) (l5 : Int32) (l6 : Int64) (l8 : Int32) (eE : Nat × Int32 × Int32 × Int32 × Int32 × Int32 × Int64 × Int32 × eg_H), fX13_rank_L69 n h l0 l1 l2 l3 l4 l5 l6 l8 = some eE → (hk0 : ∀ (l0 : Nat) (l1 : Int32) (l2 : Int32) (l3 : Int32) (l4 : Int32) (l5 : Int32) (l6 : Int64) (l8 : Int32) (h : eg_H), eE = (l0, l1, l2, l3, l4, l5, l6, l8, h) → eg_AW (RX13, cX13_rank, 9, 400, none, "rank", (some .int)) Z N S h0 127 [(0, .ref l0), (1, .int l1), (2, .int l2), (3, .int l3), (4, .int l4), (5, .int l5), (6, .long l6), (8, .int l8)] [] h) → eg_AW (RX13, cX13_rank, 9, 400, none, "rank", (some .int)) Z N S h0 69 [(0, .ref l0), (1, .int l1), (2, .int l2), (3, .int l3), (4, .int l4), (5, .int l5), (6, .long l6), (8, .int l8)] [] h := by
  intro n
  induction n with
  | zero => intro h l0 l1 l2 l3 l4 l5 l6 l8 eE hF; exact absurd hF (by intro q; cases q)
  | succ n ih =>
    intro h l0 l1 l2 l3 l4 l5 l6 l8 eE hF hk0
    have hrec := fun (h' : eg_H) (l0 : Nat) (l1 : Int32) (l2 : Int32) (l3 : Int32) (l4 : Int32) (l5 : Int32) (l6 : Int64) (l8 : Int32) hq => ih h' l0 l1 l2 l3 l4 l5 l6 l8 eE hq hk0
    refine eg_iload (i := 8) 7 dX13_rank_69 rfl ?_
    refine eg_if_le 127 dX13_rank_71 rfl (fun c1 => ?_) (fun c1 => ?_)
    · replace hF := eg_it c1 hF
      exact (hk0 l0 l1 l2 l3 l4 l5 l6 l8 h (Option.some.inj hF).symm)
    · replace hF := eg_if c1 hF
      refine eg_aload_n (i := 0) 0 dX13_rank_74 rfl rfl ?_
      replace hF := eg_bind hF; obtain ⟨p2, e3, hF⟩ := hF
      refine eg_getR dX13_rank_75 e3 (Nat.le_of_ble_eq_true rfl) (Nat.le_of_ble_eq_true rfl) rfl ew_1476 ?_
      refine eg_iload (i := 8) 7 dX13_rank_78 rfl ?_
      refine eg_iconst (v := (1 : Int32)) dX13_rank_80 (by decide) ?_
      refine eg_isub dX13_rank_81 ?_
      replace hF := eg_bind hF; obtain ⟨v4, e5, hF⟩ := hF
      refine eg_lald dX13_rank_82 e5 ?_
      refine eg_lload (i := 6) 6 dX13_rank_83 rfl ?_
      refine eg_lc_ge 127 dX13_rank_85 dX13_rank_86 rfl (fun c6 => ?_) (fun c6 => ?_)
      · replace hF := eg_it c6 hF
        exact (hk0 l0 l1 l2 l3 l4 l5 l6 l8 h (Option.some.inj hF).symm)
      · replace hF := eg_if c6 hF
        refine eg_aload_n (i := 0) 0 dX13_rank_89 rfl rfl ?_
        replace hF := eg_bind hF; obtain ⟨p7, e8, hF⟩ := hF
        refine eg_getR dX13_rank_90 e8 (Nat.le_of_ble_eq_true rfl) (Nat.le_of_ble_eq_true rfl) rfl ew_1476 ?_
        refine eg_iload (i := 8) 7 dX13_rank_93 rfl ?_
        refine eg_aload_n (i := 0) 0 dX13_rank_95 rfl rfl ?_
        replace hF := eg_bind hF; obtain ⟨p9, e10, hF⟩ := hF
        refine eg_getR dX13_rank_96 e10 (Nat.le_of_ble_eq_true rfl) (Nat.le_of_ble_eq_true rfl) rfl ew_1476 ?_
        refine eg_iload (i := 8) 7 dX13_rank_99 rfl ?_
        refine eg_iconst (v := (1 : Int32)) dX13_rank_101 (by decide) ?_
        refine eg_isub dX13_rank_102 ?_
        replace hF := eg_bind hF; obtain ⟨v11, e12, hF⟩ := hF
        refine eg_lald dX13_rank_103 e12 ?_
        replace hF := eg_bind hF; obtain ⟨h13, e14, hF⟩ := hF
        refine eg_last dX13_rank_104 e14 ?_
        refine eg_aload_n (i := 0) 0 dX13_rank_105 rfl rfl ?_
        replace hF := eg_bind hF; obtain ⟨p15, e16, hF⟩ := hF
        refine eg_getR dX13_rank_106 e16 (Nat.le_of_ble_eq_true rfl) (Nat.le_of_ble_eq_true rfl) rfl ew_1486 ?_
        refine eg_iload (i := 8) 7 dX13_rank_109 rfl ?_
        refine eg_aload_n (i := 0) 0 dX13_rank_111 rfl rfl ?_
        replace hF := eg_bind hF; obtain ⟨p17, e18, hF⟩ := hF
        refine eg_getR dX13_rank_112 e18 (Nat.le_of_ble_eq_true rfl) (Nat.le_of_ble_eq_true rfl) rfl ew_1486 ?_
        refine eg_iload (i := 8) 7 dX13_rank_115 rfl ?_
        refine eg_iconst (v := (1 : Int32)) dX13_rank_117 (by decide) ?_
        refine eg_isub dX13_rank_118 ?_
        replace hF := eg_bind hF; obtain ⟨v19, e20, hF⟩ := hF
        refine eg_iald dX13_rank_119 e20 ?_
        replace hF := eg_bind hF; obtain ⟨h21, e22, hF⟩ := hF
        refine eg_iast dX13_rank_120 e22 ?_
        refine eg_iinc (i := 8) (v := (l8 + (-1 : Int32))) 7 [(8, .int (l8 + (-1 : Int32))), (0, .ref l0), (1, .int l1), (2, .int l2), (3, .int l3), (4, .int l4), (5, .int l5), (6, .long l6)] dX13_rank_121 rfl rfl (Nat.le_of_ble_eq_true rfl) rfl ?_
        refine eg_goto 69 dX13_rank_124 rfl ?_
        exact eg_sub [1, 2, 3, 4, 5, 6, 7, 0] [(0, .ref l0), (1, .int l1), (2, .int l2), (3, .int l3), (4, .int l4), (5, .int l5), (6, .long l6), (8, .int (l8 + (-1 : Int32)))] rfl (hrec h21 l0 l1 l2 l3 l4 l5 l6 (l8 + (-1 : Int32)) hF)
def fX13_rank_j127 (rec : eg_H → Nat → Int32 → Int32 → Int32 → Int32 → Int32 → Option (Nat × Int32 × Int32 × Int32 × Int32 × eg_H)) (h : eg_H) (l0 : Nat) (l1 : Int32) (l2 : Int32) (l3 : Int32) (l4 : Int32) (l5 : Int32) (l6 : Int64) (l8 : Int32) : Option (Nat × Int32 × Int32 × Int32 × Int32 × eg_H) :=
  (eg_gR h 13 42 l0).bind fun p1 =>
  (eg_wL h p1 l8 l6).bind fun h3 =>
  (eg_gR h3 13 52 l0).bind fun p5 =>
  (eg_wI h3 100 p5 l8 (((10 : Int32) * l4) + l5)).bind fun h7 =>
  rec h7 l0 l1 l2 (l3 + (1 : Int32)) l4 (l5 + (1 : Int32))
set_option maxRecDepth 20000 in
theorem fX13_rank_j127_ok {rec : eg_H → Nat → Int32 → Int32 → Int32 → Int32 → Int32 → Option (Nat × Int32 × Int32 × Int32 × Int32 × eg_H)} {h0 : eg_H} {Z : eg_C → State → Prop} {N S : Nat} (h : eg_H) (l0 : Nat) (l1 : Int32) (l2 : Int32) (l3 : Int32) (l4 : Int32) (l5 : Int32) (l6 : Int64) (l8 : Int32) (eE : Nat × Int32 × Int32 × Int32 × Int32 × eg_H) (hF : fX13_rank_j127 rec h l0 l1 l2 l3 l4 l5 l6 l8 = some eE) (hrec : ∀ (h : eg_H) (l0 : Nat) (l1 : Int32) (l2 : Int32) (l3 : Int32) (l4 : Int32) (l5 : Int32), rec h l0 l1 l2 l3 l4 l5 = some eE → eg_AW (RX13, cX13_rank, 9, 400, none, "rank", (some .int)) Z N S h0 39 [(0, .ref l0), (1, .int l1), (2, .int l2), (3, .int l3), (4, .int l4), (5, .int l5)] [] h) (hk0 : ∀ (l0 : Nat) (l1 : Int32) (l2 : Int32) (l3 : Int32) (l4 : Int32) (h : eg_H), eE = (l0, l1, l2, l3, l4, h) → eg_AW (RX13, cX13_rank, 9, 400, none, "rank", (some .int)) Z N S h0 160 [(0, .ref l0), (1, .int l1), (2, .int l2), (3, .int l3), (4, .int l4)] [] h) : eg_AW (RX13, cX13_rank, 9, 400, none, "rank", (some .int)) Z N S h0 127 [(0, .ref l0), (1, .int l1), (2, .int l2), (3, .int l3), (4, .int l4), (5, .int l5), (6, .long l6), (8, .int l8)] [] h := by
  refine eg_aload_n (i := 0) 0 dX13_rank_127 rfl rfl ?_
  replace hF := eg_bind hF; obtain ⟨p1, e2, hF⟩ := hF
  refine eg_getR dX13_rank_128 e2 (Nat.le_of_ble_eq_true rfl) (Nat.le_of_ble_eq_true rfl) rfl ew_1476 ?_
  refine eg_iload (i := 8) 7 dX13_rank_131 rfl ?_
  refine eg_lload (i := 6) 6 dX13_rank_133 rfl ?_
  replace hF := eg_bind hF; obtain ⟨h3, e4, hF⟩ := hF
  refine eg_last dX13_rank_135 e4 ?_
  refine eg_aload_n (i := 0) 0 dX13_rank_136 rfl rfl ?_
  replace hF := eg_bind hF; obtain ⟨p5, e6, hF⟩ := hF
  refine eg_getR dX13_rank_137 e6 (Nat.le_of_ble_eq_true rfl) (Nat.le_of_ble_eq_true rfl) rfl ew_1486 ?_
  refine eg_iload (i := 8) 7 dX13_rank_140 rfl ?_
  refine eg_bipush (v := (10 : Int32)) dX13_rank_142 (by decide) ?_
  refine eg_iload (i := 4) 4 dX13_rank_144 rfl ?_
  refine eg_imul dX13_rank_146 ?_
  refine eg_iload (i := 5) 5 dX13_rank_147 rfl ?_
  refine eg_iadd dX13_rank_149 ?_
  replace hF := eg_bind hF; obtain ⟨h7, e8, hF⟩ := hF
  refine eg_iast dX13_rank_150 e8 ?_
  refine eg_iinc (i := 3) (v := (l3 + (1 : Int32))) 3 [(3, .int (l3 + (1 : Int32))), (0, .ref l0), (1, .int l1), (2, .int l2), (4, .int l4), (5, .int l5), (6, .long l6), (8, .int l8)] dX13_rank_151 rfl rfl (Nat.le_of_ble_eq_true rfl) rfl ?_
  refine eg_iinc (i := 5) (v := (l5 + (1 : Int32))) 5 [(5, .int (l5 + (1 : Int32))), (3, .int (l3 + (1 : Int32))), (0, .ref l0), (1, .int l1), (2, .int l2), (4, .int l4), (6, .long l6), (8, .int l8)] dX13_rank_154 rfl rfl (Nat.le_of_ble_eq_true rfl) rfl ?_
  refine eg_goto 39 dX13_rank_157 rfl ?_
  exact eg_sub [2, 3, 4, 1, 5, 0] [(0, .ref l0), (1, .int l1), (2, .int l2), (3, .int (l3 + (1 : Int32))), (4, .int l4), (5, .int (l5 + (1 : Int32)))] rfl (hrec h7 l0 l1 l2 (l3 + (1 : Int32)) l4 (l5 + (1 : Int32)) hF)
def fX13_rank_L39 : Nat → eg_H → Nat → Int32 → Int32 → Int32 → Int32 → Int32 → Option (Nat × Int32 × Int32 × Int32 × Int32 × eg_H)
  | 0, _, _, _, _, _, _, _ => none
  | n + 1, h, l0, l1, l2, l3, l4, l5 =>
    (eg_gI h 13 24 l0).bind fun v1 =>
    if v1 ≤ l5 then
      (some (l0, l1, l2, l3, l4, h))
    else
      (fX13_hopeOf h l0 (((10 : Int32) * l4) + l5) ((10 : Int32) * l1)).bind fun ⟨v5, h4⟩ =>
      (fX13_rank_L69 eg_F h4 l0 l1 l2 l3 l4 l5 v5 l3).bind fun e =>
      match e with
      | (p9, v10, v11, v12, v13, v14, v15, v16, h17) =>
        fX13_rank_j127 (fX13_rank_L39 n) h17 p9 v10 v11 v12 v13 v14 v15 v16
set_option maxRecDepth 20000 in
theorem fX13_rank_L39_ok {h0 : eg_H} {Z : eg_C → State → Prop} {N S : Nat} : ∀ (n : Nat) (h : eg_H) (l0 : Nat) (l1 : Int32) (l2 : Int32) (l3 : Int32) (l4 : Int32) (l5 : Int32) (eE : Nat × Int32 × Int32 × Int32 × Int32 × eg_H), fX13_rank_L39 n h l0 l1 l2 l3 l4 l5 = some eE → (hk0 : ∀ (l0 : Nat) (l1 : Int32) (l2 : Int32) (l3 : Int32) (l4 : Int32) (h : eg_H), eE = (l0, l1, l2, l3, l4, h) → eg_AW (RX13, cX13_rank, 9, 400, none, "rank", (some .int)) Z N S h0 160 [(0, .ref l0), (1, .int l1), (2, .int l2), (3, .int l3), (4, .int l4)] [] h) → eg_AW (RX13, cX13_rank, 9, 400, none, "rank", (some .int)) Z N S h0 39 [(0, .ref l0), (1, .int l1), (2, .int l2), (3, .int l3), (4, .int l4), (5, .int l5)] [] h := by
  intro n
  induction n with
  | zero => intro h l0 l1 l2 l3 l4 l5 eE hF; exact absurd hF (by intro q; cases q)
  | succ n ih =>
    intro h l0 l1 l2 l3 l4 l5 eE hF hk0
    have hrec := fun (h' : eg_H) (l0 : Nat) (l1 : Int32) (l2 : Int32) (l3 : Int32) (l4 : Int32) (l5 : Int32) hq => ih h' l0 l1 l2 l3 l4 l5 eE hq hk0
    refine eg_iload (i := 5) 5 dX13_rank_39 rfl ?_
    refine eg_aload_n (i := 0) 0 dX13_rank_41 rfl rfl ?_
    replace hF := eg_bind hF; obtain ⟨v1, e2, hF⟩ := hF
    refine eg_getI dX13_rank_42 e2 (Nat.le_of_ble_eq_true rfl) (Nat.le_of_ble_eq_true rfl) rfl ew_1458 ?_
    refine eg_ic_ge 160 dX13_rank_45 rfl (fun c3 => ?_) (fun c3 => ?_)
    · replace hF := eg_it c3 hF
      exact eg_sub [0, 1, 2, 3, 4] [(0, .ref l0), (1, .int l1), (2, .int l2), (3, .int l3), (4, .int l4)] rfl (hk0 l0 l1 l2 l3 l4 h (Option.some.inj hF).symm)
    · replace hF := eg_if c3 hF
      refine eg_aload_n (i := 0) 0 dX13_rank_48 rfl rfl ?_
      refine eg_bipush (v := (10 : Int32)) dX13_rank_49 (by decide) ?_
      refine eg_iload (i := 4) 4 dX13_rank_51 rfl ?_
      refine eg_imul dX13_rank_53 ?_
      refine eg_iload (i := 5) 5 dX13_rank_54 rfl ?_
      refine eg_iadd dX13_rank_56 ?_
      refine eg_bipush (v := (10 : Int32)) dX13_rank_57 (by decide) ?_
      refine eg_iload_n (i := 1) 1 dX13_rank_59 rfl rfl ?_
      refine eg_imul dX13_rank_60 ?_
      replace hF := eg_bind hF; obtain ⟨⟨v5, h4⟩, e6, hF⟩ := hF
      refine eg_callV (c := 13) (n := 2) [.int (((10 : Int32) * l4) + l5), .int ((10 : Int32) * l1)] dX13_rank_61 (mX13_hopeOf e6) rfl (fX13_hopeOf_O e6) (Nat.le_of_ble_eq_true rfl) rfl ew_1982 ew_1984 ew_86 ew_110 ew_1985 hy_X13_hopeOf rfl (Nat.le_of_ble_eq_true rfl) (Nat.le_of_ble_eq_true rfl) (Nat.le_of_ble_eq_true rfl) ?_
      refine eg_lstore (i := 6) [(6, .long v5), (0, .ref l0), (1, .int l1), (2, .int l2), (3, .int l3), (4, .int l4), (5, .int l5)] dX13_rank_64 (Nat.le_of_ble_eq_true rfl) rfl ?_
      refine eg_iload_n (i := 3) 4 dX13_rank_66 rfl rfl ?_
      refine eg_istore (i := 8) [(8, .int l3), (6, .long v5), (0, .ref l0), (1, .int l1), (2, .int l2), (3, .int l3), (4, .int l4), (5, .int l5)] dX13_rank_67 (Nat.le_of_ble_eq_true rfl) rfl ?_
      replace hF := eg_bind hF; obtain ⟨x8, e7, hF⟩ := hF
      refine eg_sub [2, 3, 4, 5, 6, 7, 1, 0] [(0, .ref l0), (1, .int l1), (2, .int l2), (3, .int l3), (4, .int l4), (5, .int l5), (6, .long v5), (8, .int l3)] rfl (fX13_rank_L69_ok eg_F h4 l0 l1 l2 l3 l4 l5 v5 l3 x8 e7 ?_)
      · intro p9 v10 v11 v12 v13 v14 v15 v16 h17 e18
        subst e18
        exact (fX13_rank_j127_ok h17 p9 v10 v11 v12 v13 v14 v15 v16 eE hF hrec hk0)
def fX13_rank_L24 : Nat → eg_H → Nat → Int32 → Int32 → Int32 → Int32 → Option (Nat × Int32 × Int32 × eg_H)
  | 0, _, _, _, _, _, _ => none
  | n + 1, h, l0, l1, l2, l3, l4 =>
    (eg_gI h 13 24 l0).bind fun v1 =>
    if v1 ≤ l4 then
      (some (l0, l2, l3, h))
    else
      (some ((l4 + (1 : Int32)))).bind fun v4 =>
      (fX13_rank_L39 eg_F h l0 l1 l2 l3 l4 v4).bind fun e =>
      match e with
      | (p8, v9, v10, v11, v12, h13) =>
        fX13_rank_L24 n h13 p8 v9 v10 v11 (v12 + (1 : Int32))
set_option maxRecDepth 20000 in
theorem fX13_rank_L24_ok {h0 : eg_H} {Z : eg_C → State → Prop} {N S : Nat} : ∀ (n : Nat) (h : eg_H) (l0 : Nat) (l1 : Int32) (l2 : Int32) (l3 : Int32) (l4 : Int32) (eE : Nat × Int32 × Int32 × eg_H), fX13_rank_L24 n h l0 l1 l2 l3 l4 = some eE → (hk0 : ∀ (l0 : Nat) (l2 : Int32) (l3 : Int32) (h : eg_H), eE = (l0, l2, l3, h) → eg_AW (RX13, cX13_rank, 9, 400, none, "rank", (some .int)) Z N S h0 166 [(0, .ref l0), (2, .int l2), (3, .int l3)] [] h) → eg_AW (RX13, cX13_rank, 9, 400, none, "rank", (some .int)) Z N S h0 24 [(0, .ref l0), (1, .int l1), (2, .int l2), (3, .int l3), (4, .int l4)] [] h := by
  intro n
  induction n with
  | zero => intro h l0 l1 l2 l3 l4 eE hF; exact absurd hF (by intro q; cases q)
  | succ n ih =>
    intro h l0 l1 l2 l3 l4 eE hF hk0
    have hrec := fun (h' : eg_H) (l0 : Nat) (l1 : Int32) (l2 : Int32) (l3 : Int32) (l4 : Int32) hq => ih h' l0 l1 l2 l3 l4 eE hq hk0
    refine eg_iload (i := 4) 4 dX13_rank_24 rfl ?_
    refine eg_aload_n (i := 0) 0 dX13_rank_26 rfl rfl ?_
    replace hF := eg_bind hF; obtain ⟨v1, e2, hF⟩ := hF
    refine eg_getI dX13_rank_27 e2 (Nat.le_of_ble_eq_true rfl) (Nat.le_of_ble_eq_true rfl) rfl ew_1458 ?_
    refine eg_ic_ge 166 dX13_rank_30 rfl (fun c3 => ?_) (fun c3 => ?_)
    · replace hF := eg_it c3 hF
      exact eg_sub [0, 2, 3] [(0, .ref l0), (2, .int l2), (3, .int l3)] rfl (hk0 l0 l2 l3 h (Option.some.inj hF).symm)
    · replace hF := eg_if c3 hF
      refine eg_iload (i := 4) 4 dX13_rank_33 rfl ?_
      refine eg_iconst (v := (1 : Int32)) dX13_rank_35 (by decide) ?_
      refine eg_iadd dX13_rank_36 ?_
      replace hF := eg_bind hF; obtain ⟨v4, e5, hF⟩ := hF
      replace e5 := Option.some.inj e5
      rw [e5]
      refine eg_istore (i := 5) [(5, .int v4), (0, .ref l0), (1, .int l1), (2, .int l2), (3, .int l3), (4, .int l4)] dX13_rank_37 (Nat.le_of_ble_eq_true rfl) rfl ?_
      replace hF := eg_bind hF; obtain ⟨x7, e6, hF⟩ := hF
      refine eg_sub [1, 2, 3, 4, 5, 0] [(0, .ref l0), (1, .int l1), (2, .int l2), (3, .int l3), (4, .int l4), (5, .int v4)] rfl (fX13_rank_L39_ok eg_F h l0 l1 l2 l3 l4 v4 x7 e6 ?_)
      · intro p8 v9 v10 v11 v12 h13 e14
        subst e14
        refine eg_iinc (i := 4) (v := (v12 + (1 : Int32))) 4 [(4, .int (v12 + (1 : Int32))), (0, .ref p8), (1, .int v9), (2, .int v10), (3, .int v11)] dX13_rank_160 rfl rfl (Nat.le_of_ble_eq_true rfl) rfl ?_
        refine eg_goto 24 dX13_rank_163 rfl ?_
        exact eg_sub [1, 2, 3, 4, 0] [(0, .ref p8), (1, .int v9), (2, .int v10), (3, .int v11), (4, .int (v12 + (1 : Int32)))] rfl (hrec h13 p8 v9 v10 v11 (v12 + (1 : Int32)) hF)
def fX13_rank (h : eg_H) (l0 : Nat) (l1 : Int32) (l2 : Int32) : Option (Int32 × eg_H) :=
  if eg_isO h 13 l0 then (
    (eg_pI h 13 0 l0 (0 : Int32)).bind fun h1 =>
    (fX13_isEgg h1 l0 l1).bind fun ⟨v4, h3⟩ =>
    if v4 = 0 then
      (some ((-1 : Int32), h3))
    else
      if 0 ≤ l2 then
        ((fX13_rank_L24 eg_F h3 l0 l1 l2 (0 : Int32) (0 : Int32)).bind fun e =>
        match e with
        | (p10, v11, v12, h13) =>
          if v12 ≤ v11 then
            (some ((-1 : Int32), h13))
          else
            (eg_gR h13 13 52 p10).bind fun p15 =>
            (eg_aI h13 100 p15 v11).bind fun v17 =>
            some (v17, h13))
      else
        some ((-1 : Int32), h3)) else none
theorem fX13_rank_O {h : eg_H} {l0 : Nat} {l1 : Int32} {l2 : Int32} {rE : Int32} {hE : eg_H} (hF : fX13_rank h l0 l1 l2 = some (rE, hE)) : eg_isO h 13 l0 := (eg_ifn hF).1
set_option maxRecDepth 20000 in
theorem mX13_rank {h : eg_H} {l0 : Nat} {l1 : Int32} {l2 : Int32} {rE : Int32} {hE : eg_H} (hF : fX13_rank h l0 l1 l2 = some (rE, hE)) : eg_Met yX13_rank cX13_rank 9 (some .int) 400 [.ref l0, .int l1, .int l2] h (some (.int rE)) hE := by
  refine eg_enter rfl (Nat.le_of_ble_eq_true rfl) ?_
  show eg_AW (RX13, cX13_rank, 9, 400, none, "rank", (some .int)) (eg_Zm (some (.int rE)) hE h) (eg_nc hE) (eg_ns hE) h 0 [(0, .ref l0), (1, .int l1), (2, .int l2)] [] h
  replace hF := (eg_ifn hF).2
  refine eg_aload_n (i := 0) 0 dX13_rank_0 rfl rfl ?_
  refine eg_iconst (v := (0 : Int32)) dX13_rank_1 (by decide) ?_
  replace hF := eg_bind hF; obtain ⟨h1, e2, hF⟩ := hF
  refine eg_putI dX13_rank_2 e2 (Nat.le_of_ble_eq_true rfl) (Nat.le_of_ble_eq_true rfl) rfl ew_1434 (Or.inl rfl) ?_
  refine eg_aload_n (i := 0) 0 dX13_rank_5 rfl rfl ?_
  refine eg_iload_n (i := 1) 1 dX13_rank_6 rfl rfl ?_
  replace hF := eg_bind hF; obtain ⟨⟨v4, h3⟩, e5, hF⟩ := hF
  refine eg_callV (c := 13) (n := 1) [.int l1] dX13_rank_7 (mX13_isEgg e5) rfl (fX13_isEgg_O e5) (Nat.le_of_ble_eq_true rfl) rfl ew_1881 ew_1883 ew_72 ew_110 ew_1884 hy_X13_isEgg rfl (Nat.le_of_ble_eq_true rfl) (Nat.le_of_ble_eq_true rfl) (Nat.le_of_ble_eq_true rfl) ?_
  refine eg_if_eq 17 dX13_rank_10 rfl (fun c6 => ?_) (fun c6 => ?_)
  · replace hF := eg_it c6 hF
    refine eg_iconst (v := (-1 : Int32)) dX13_rank_17 (by decide) ?_
    exact eg_iretE dX13_rank_18 hF
  · replace hF := eg_if c6 hF
    refine eg_iload_n (i := 2) 2 dX13_rank_13 rfl rfl ?_
    refine eg_if_ge 19 dX13_rank_14 rfl (fun c7 => ?_) (fun c7 => ?_)
    · replace hF := eg_it c7 hF
      refine eg_iconst (v := (0 : Int32)) dX13_rank_19 (by decide) ?_
      refine eg_istore_n (i := 3) [(3, .int (0 : Int32)), (0, .ref l0), (1, .int l1), (2, .int l2)] dX13_rank_20 rfl (Nat.le_of_ble_eq_true rfl) rfl ?_
      refine eg_iconst (v := (0 : Int32)) dX13_rank_21 (by decide) ?_
      refine eg_istore (i := 4) [(4, .int (0 : Int32)), (3, .int (0 : Int32)), (0, .ref l0), (1, .int l1), (2, .int l2)] dX13_rank_22 (Nat.le_of_ble_eq_true rfl) rfl ?_
      replace hF := eg_bind hF; obtain ⟨x9, e8, hF⟩ := hF
      refine eg_sub [2, 3, 4, 1, 0] [(0, .ref l0), (1, .int l1), (2, .int l2), (3, .int (0 : Int32)), (4, .int (0 : Int32))] rfl (fX13_rank_L24_ok eg_F h3 l0 l1 l2 (0 : Int32) (0 : Int32) x9 e8 ?_)
      · intro p10 v11 v12 h13 e19
        subst e19
        refine eg_iload_n (i := 2) 1 dX13_rank_166 rfl rfl ?_
        refine eg_iload_n (i := 3) 2 dX13_rank_167 rfl rfl ?_
        refine eg_ic_ge 180 dX13_rank_168 rfl (fun c14 => ?_) (fun c14 => ?_)
        · replace hF := eg_it c14 hF
          refine eg_iconst (v := (-1 : Int32)) dX13_rank_180 (by decide) ?_
          exact eg_iretE dX13_rank_181 hF
        · replace hF := eg_if c14 hF
          refine eg_aload_n (i := 0) 0 dX13_rank_171 rfl rfl ?_
          replace hF := eg_bind hF; obtain ⟨p15, e16, hF⟩ := hF
          refine eg_getR dX13_rank_172 e16 (Nat.le_of_ble_eq_true rfl) (Nat.le_of_ble_eq_true rfl) rfl ew_1486 ?_
          refine eg_iload_n (i := 2) 1 dX13_rank_175 rfl rfl ?_
          replace hF := eg_bind hF; obtain ⟨v17, e18, hF⟩ := hF
          refine eg_iald dX13_rank_176 e18 ?_
          refine eg_goto 181 dX13_rank_177 rfl ?_
          exact eg_iretE dX13_rank_181 hF
    · replace hF := eg_if c7 hF
      refine eg_iconst (v := (-1 : Int32)) dX13_rank_17 (by decide) ?_
      exact eg_iretE dX13_rank_18 hF
theorem dX13_calm_0 : decode cX13_calm 0 = .ok (.aload_n 0, 1) := by decide +kernel
theorem dX13_calm_1 : decode cX13_calm 1 = .ok (.iconst 0, 1) := by decide +kernel
theorem dX13_calm_2 : decode cX13_calm 2 = .ok (.putfield 148, 3) := by decide +kernel
theorem dX13_calm_5 : decode cX13_calm 5 = .ok (.aload_n 0, 1) := by decide +kernel
theorem dX13_calm_6 : decode cX13_calm 6 = .ok (.iload_n 1, 1) := by decide +kernel
theorem dX13_calm_7 : decode cX13_calm 7 = .ok (.invokevirtual 405, 3) := by decide +kernel
theorem dX13_calm_10 : decode cX13_calm 10 = .ok (.ifCond .eq 21, 3) := by decide +kernel
theorem dX13_calm_13 : decode cX13_calm 13 = .ok (.aload_n 0, 1) := by decide +kernel
theorem dX13_calm_14 : decode cX13_calm 14 = .ok (.iload_n 2, 1) := by decide +kernel
theorem dX13_calm_15 : decode cX13_calm 15 = .ok (.invokevirtual 408, 3) := by decide +kernel
theorem dX13_calm_18 : decode cX13_calm 18 = .ok (.ifCond .eq 13, 3) := by decide +kernel
theorem dX13_calm_21 : decode cX13_calm 21 = .ok (.iload_n 3, 1) := by decide +kernel
theorem dX13_calm_22 : decode cX13_calm 22 = .ok (.i2l, 1) := by decide +kernel
theorem dX13_calm_23 : decode cX13_calm 23 = .ok (.lconst 0, 1) := by decide +kernel
theorem dX13_calm_24 : decode cX13_calm 24 = .ok (.lconst 1, 1) := by decide +kernel
theorem dX13_calm_25 : decode cX13_calm 25 = .ok (.invokestatic 269, 3) := by decide +kernel
theorem dX13_calm_28 : decode cX13_calm 28 = .ok (.ifCond .ne 7, 3) := by decide +kernel
theorem dX13_calm_31 : decode cX13_calm 31 = .ok (.ldc2_w 444, 3) := by decide +kernel
theorem dX13_calm_34 : decode cX13_calm 34 = .ok (.lreturn, 1) := by decide +kernel
theorem dX13_calm_35 : decode cX13_calm 35 = .ok (.aload_n 0, 1) := by decide +kernel
theorem dX13_calm_36 : decode cX13_calm 36 = .ok (.getfield 37, 3) := by decide +kernel
theorem dX13_calm_39 : decode cX13_calm 39 = .ok (.iconst 0, 1) := by decide +kernel
theorem dX13_calm_40 : decode cX13_calm 40 = .ok (.iaload, 1) := by decide +kernel
theorem dX13_calm_41 : decode cX13_calm 41 = .ok (.istore 4, 2) := by decide +kernel
theorem dX13_calm_43 : decode cX13_calm 43 = .ok (.ldc2_w 444, 3) := by decide +kernel
theorem dX13_calm_46 : decode cX13_calm 46 = .ok (.lstore 5, 2) := by decide +kernel
theorem dX13_calm_48 : decode cX13_calm 48 = .ok (.ldc2_w 444, 3) := by decide +kernel
theorem dX13_calm_51 : decode cX13_calm 51 = .ok (.lstore 7, 2) := by decide +kernel
theorem dX13_calm_53 : decode cX13_calm 53 = .ok (.iconst 0, 1) := by decide +kernel
theorem dX13_calm_54 : decode cX13_calm 54 = .ok (.istore 9, 2) := by decide +kernel
theorem dX13_calm_56 : decode cX13_calm 56 = .ok (.iload 9, 2) := by decide +kernel
theorem dX13_calm_58 : decode cX13_calm 58 = .ok (.bipush 10, 2) := by decide +kernel
theorem dX13_calm_60 : decode cX13_calm 60 = .ok (.if_icmp .ge 45, 3) := by decide +kernel
theorem dX13_calm_63 : decode cX13_calm 63 = .ok (.aload_n 0, 1) := by decide +kernel
theorem dX13_calm_64 : decode cX13_calm 64 = .ok (.getfield 37, 3) := by decide +kernel
theorem dX13_calm_67 : decode cX13_calm 67 = .ok (.iconst 0, 1) := by decide +kernel
theorem dX13_calm_68 : decode cX13_calm 68 = .ok (.iload 9, 2) := by decide +kernel
theorem dX13_calm_70 : decode cX13_calm 70 = .ok (.iastore, 1) := by decide +kernel
theorem dX13_calm_71 : decode cX13_calm 71 = .ok (.aload_n 0, 1) := by decide +kernel
theorem dX13_calm_72 : decode cX13_calm 72 = .ok (.iload_n 1, 1) := by decide +kernel
theorem dX13_calm_73 : decode cX13_calm 73 = .ok (.iload_n 2, 1) := by decide +kernel
theorem dX13_calm_74 : decode cX13_calm 74 = .ok (.invokevirtual 440, 3) := by decide +kernel
theorem dX13_calm_77 : decode cX13_calm 77 = .ok (.lstore 10, 2) := by decide +kernel
theorem dX13_calm_79 : decode cX13_calm 79 = .ok (.lload 10, 2) := by decide +kernel
theorem dX13_calm_81 : decode cX13_calm 81 = .ok (.lload 7, 2) := by decide +kernel
theorem dX13_calm_83 : decode cX13_calm 83 = .ok (.lcmp, 1) := by decide +kernel
theorem dX13_calm_84 : decode cX13_calm 84 = .ok (.ifCond .gt 6, 3) := by decide +kernel
theorem dX13_calm_87 : decode cX13_calm 87 = .ok (.goto 12, 3) := by decide +kernel
theorem dX13_calm_90 : decode cX13_calm 90 = .ok (.iload 9, 2) := by decide +kernel
theorem dX13_calm_92 : decode cX13_calm 92 = .ok (.i2l, 1) := by decide +kernel
theorem dX13_calm_93 : decode cX13_calm 93 = .ok (.lstore 5, 2) := by decide +kernel
theorem dX13_calm_95 : decode cX13_calm 95 = .ok (.lload 10, 2) := by decide +kernel
theorem dX13_calm_97 : decode cX13_calm 97 = .ok (.lstore 7, 2) := by decide +kernel
theorem dX13_calm_99 : decode cX13_calm 99 = .ok (.iinc 9 1, 3) := by decide +kernel
theorem dX13_calm_102 : decode cX13_calm 102 = .ok (.goto (-46), 3) := by decide +kernel
theorem dX13_calm_105 : decode cX13_calm 105 = .ok (.aload_n 0, 1) := by decide +kernel
theorem dX13_calm_106 : decode cX13_calm 106 = .ok (.getfield 37, 3) := by decide +kernel
theorem dX13_calm_109 : decode cX13_calm 109 = .ok (.iconst 0, 1) := by decide +kernel
theorem dX13_calm_110 : decode cX13_calm 110 = .ok (.iload 4, 2) := by decide +kernel
theorem dX13_calm_112 : decode cX13_calm 112 = .ok (.iastore, 1) := by decide +kernel
theorem dX13_calm_113 : decode cX13_calm 113 = .ok (.iload_n 3, 1) := by decide +kernel
theorem dX13_calm_114 : decode cX13_calm 114 = .ok (.ifCond .ne 8, 3) := by decide +kernel
theorem dX13_calm_117 : decode cX13_calm 117 = .ok (.lload 5, 2) := by decide +kernel
theorem dX13_calm_119 : decode cX13_calm 119 = .ok (.goto 5, 3) := by decide +kernel
theorem dX13_calm_122 : decode cX13_calm 122 = .ok (.lload 7, 2) := by decide +kernel
theorem dX13_calm_124 : decode cX13_calm 124 = .ok (.lreturn, 1) := by decide +kernel
def fX13_calm_L56 : Nat → eg_H → Nat → Int32 → Int32 → Int32 → Int32 → Int64 → Int64 → Int32 → Option (Nat × Int32 × Int32 × Int64 × Int64 × eg_H)
  | 0, _, _, _, _, _, _, _, _, _ => none
  | n + 1, h, l0, l1, l2, l3, l4, l5, l7, l9 =>
    if (10 : Int32) ≤ l9 then
      (some (l0, l3, l4, l5, l7, h))
    else
      (eg_gR h 13 18 l0).bind fun p2 =>
      (eg_wI h 100 p2 (0 : Int32) l9).bind fun h4 =>
      (fX13_hopeOf h4 l0 l1 l2).bind fun ⟨v7, h6⟩ =>
      if l7 < v7 then
        ((some (l9.toInt64)).bind fun v10 =>
        fX13_calm_L56 n h6 l0 l1 l2 l3 l4 v10 v7 (l9 + (1 : Int32)))
      else
        fX13_calm_L56 n h6 l0 l1 l2 l3 l4 l5 l7 (l9 + (1 : Int32))
set_option maxRecDepth 20000 in
theorem fX13_calm_L56_ok {h0 : eg_H} {Z : eg_C → State → Prop} {N S : Nat} : ∀ (n : Nat) (h : eg_H) (l0 : Nat) (l1 : Int32) (l2 : Int32) (l3 : Int32) (l4 : Int32) (l5 : Int64) (l7 : Int64) (l9 : Int32) (eE : Nat × Int32 × Int32 × Int64 × Int64 × eg_H), fX13_calm_L56 n h l0 l1 l2 l3 l4 l5 l7 l9 = some eE → (hk0 : ∀ (l0 : Nat) (l3 : Int32) (l4 : Int32) (l5 : Int64) (l7 : Int64) (h : eg_H), eE = (l0, l3, l4, l5, l7, h) → eg_AW (RX13, cX13_calm, 12, 400, none, "calm", (some .long)) Z N S h0 105 [(0, .ref l0), (3, .int l3), (4, .int l4), (5, .long l5), (7, .long l7)] [] h) → eg_AW (RX13, cX13_calm, 12, 400, none, "calm", (some .long)) Z N S h0 56 [(0, .ref l0), (1, .int l1), (2, .int l2), (3, .int l3), (4, .int l4), (5, .long l5), (7, .long l7), (9, .int l9)] [] h := by
  intro n
  induction n with
  | zero => intro h l0 l1 l2 l3 l4 l5 l7 l9 eE hF; exact absurd hF (by intro q; cases q)
  | succ n ih =>
    intro h l0 l1 l2 l3 l4 l5 l7 l9 eE hF hk0
    have hrec := fun (h' : eg_H) (l0 : Nat) (l1 : Int32) (l2 : Int32) (l3 : Int32) (l4 : Int32) (l5 : Int64) (l7 : Int64) (l9 : Int32) hq => ih h' l0 l1 l2 l3 l4 l5 l7 l9 eE hq hk0
    refine eg_iload (i := 9) 7 dX13_calm_56 rfl ?_
    refine eg_bipush (v := (10 : Int32)) dX13_calm_58 (by decide) ?_
    refine eg_ic_ge 105 dX13_calm_60 rfl (fun c1 => ?_) (fun c1 => ?_)
    · replace hF := eg_it c1 hF
      exact eg_sub [0, 3, 4, 5, 6] [(0, .ref l0), (3, .int l3), (4, .int l4), (5, .long l5), (7, .long l7)] rfl (hk0 l0 l3 l4 l5 l7 h (Option.some.inj hF).symm)
    · replace hF := eg_if c1 hF
      refine eg_aload_n (i := 0) 0 dX13_calm_63 rfl rfl ?_
      replace hF := eg_bind hF; obtain ⟨p2, e3, hF⟩ := hF
      refine eg_getR dX13_calm_64 e3 (Nat.le_of_ble_eq_true rfl) (Nat.le_of_ble_eq_true rfl) rfl ew_1452 ?_
      refine eg_iconst (v := (0 : Int32)) dX13_calm_67 (by decide) ?_
      refine eg_iload (i := 9) 7 dX13_calm_68 rfl ?_
      replace hF := eg_bind hF; obtain ⟨h4, e5, hF⟩ := hF
      refine eg_iast dX13_calm_70 e5 ?_
      refine eg_aload_n (i := 0) 0 dX13_calm_71 rfl rfl ?_
      refine eg_iload_n (i := 1) 1 dX13_calm_72 rfl rfl ?_
      refine eg_iload_n (i := 2) 2 dX13_calm_73 rfl rfl ?_
      replace hF := eg_bind hF; obtain ⟨⟨v7, h6⟩, e8, hF⟩ := hF
      refine eg_callV (c := 13) (n := 2) [.int l1, .int l2] dX13_calm_74 (mX13_hopeOf e8) rfl (fX13_hopeOf_O e8) (Nat.le_of_ble_eq_true rfl) rfl ew_1982 ew_1984 ew_86 ew_110 ew_1985 hy_X13_hopeOf rfl (Nat.le_of_ble_eq_true rfl) (Nat.le_of_ble_eq_true rfl) (Nat.le_of_ble_eq_true rfl) ?_
      refine eg_lstore (i := 10) [(10, .long v7), (0, .ref l0), (1, .int l1), (2, .int l2), (3, .int l3), (4, .int l4), (5, .long l5), (7, .long l7), (9, .int l9)] dX13_calm_77 (Nat.le_of_ble_eq_true rfl) rfl ?_
      refine eg_lload (i := 10) 0 dX13_calm_79 rfl ?_
      refine eg_lload (i := 7) 7 dX13_calm_81 rfl ?_
      refine eg_lc_gt 90 dX13_calm_83 dX13_calm_84 rfl (fun c9 => ?_) (fun c9 => ?_)
      · replace hF := eg_it c9 hF
        refine eg_iload (i := 9) 8 dX13_calm_90 rfl ?_
        refine eg_i2l dX13_calm_92 ?_
        replace hF := eg_bind hF; obtain ⟨v10, e11, hF⟩ := hF
        replace e11 := Option.some.inj e11
        rw [e11]
        refine eg_lstore (i := 5) [(5, .long v10), (10, .long v7), (0, .ref l0), (1, .int l1), (2, .int l2), (3, .int l3), (4, .int l4), (7, .long l7), (9, .int l9)] dX13_calm_93 (Nat.le_of_ble_eq_true rfl) rfl ?_
        refine eg_lload (i := 10) 1 dX13_calm_95 rfl ?_
        refine eg_lstore (i := 7) [(7, .long v7), (5, .long v10), (10, .long v7), (0, .ref l0), (1, .int l1), (2, .int l2), (3, .int l3), (4, .int l4), (9, .int l9)] dX13_calm_97 (Nat.le_of_ble_eq_true rfl) rfl ?_
        refine eg_iinc (i := 9) (v := (l9 + (1 : Int32))) 8 [(9, .int (l9 + (1 : Int32))), (7, .long v7), (5, .long v10), (10, .long v7), (0, .ref l0), (1, .int l1), (2, .int l2), (3, .int l3), (4, .int l4)] dX13_calm_99 rfl rfl (Nat.le_of_ble_eq_true rfl) rfl ?_
        refine eg_goto 56 dX13_calm_102 rfl ?_
        exact eg_sub [4, 5, 6, 7, 8, 2, 1, 0] [(0, .ref l0), (1, .int l1), (2, .int l2), (3, .int l3), (4, .int l4), (5, .long v10), (7, .long v7), (9, .int (l9 + (1 : Int32)))] rfl (hrec h6 l0 l1 l2 l3 l4 v10 v7 (l9 + (1 : Int32)) hF)
      · replace hF := eg_if c9 hF
        refine eg_goto 99 dX13_calm_87 rfl ?_
        refine eg_iinc (i := 9) (v := (l9 + (1 : Int32))) 8 [(9, .int (l9 + (1 : Int32))), (10, .long v7), (0, .ref l0), (1, .int l1), (2, .int l2), (3, .int l3), (4, .int l4), (5, .long l5), (7, .long l7)] dX13_calm_99 rfl rfl (Nat.le_of_ble_eq_true rfl) rfl ?_
        refine eg_goto 56 dX13_calm_102 rfl ?_
        exact eg_sub [2, 3, 4, 5, 6, 7, 8, 0] [(0, .ref l0), (1, .int l1), (2, .int l2), (3, .int l3), (4, .int l4), (5, .long l5), (7, .long l7), (9, .int (l9 + (1 : Int32)))] rfl (hrec h6 l0 l1 l2 l3 l4 l5 l7 (l9 + (1 : Int32)) hF)
def fX13_calm (h : eg_H) (l0 : Nat) (l1 : Int32) (l2 : Int32) (l3 : Int32) : Option (Int64 × eg_H) :=
  if eg_isO h 13 l0 then (
    (eg_pI h 13 0 l0 (0 : Int32)).bind fun h1 =>
    (fX13_isTwo h1 l0 l1).bind fun ⟨v4, h3⟩ =>
    if v4 = 0 then
      (some ((-1 : Int64), h3))
    else
      (fX13_isFrom h3 l0 l2).bind fun ⟨v8, h7⟩ =>
      if v8 = 0 then
        (some ((-1 : Int64), h7))
      else
        (fX13_isIn h7 l3.toInt64 (0 : Int64) (1 : Int64)).bind fun ⟨v12, h11⟩ =>
        if v12 = 0 then
          (some ((-1 : Int64), h11))
        else
          (eg_gR h11 13 18 l0).bind fun p15 =>
          (eg_aI h11 100 p15 (0 : Int32)).bind fun v17 =>
          (fX13_calm_L56 eg_F h11 l0 l1 l2 l3 v17 (-1 : Int64) (-1 : Int64) (0 : Int32)).bind fun e =>
          match e with
          | (p21, v22, v23, v24, v25, h26) =>
            (eg_gR h26 13 18 p21).bind fun p27 =>
            (eg_wI h26 100 p27 (0 : Int32) v23).bind fun h29 =>
            if v22 = 0 then
              (some (v24, h29))
            else
              some (v25, h29)) else none
theorem fX13_calm_O {h : eg_H} {l0 : Nat} {l1 : Int32} {l2 : Int32} {l3 : Int32} {rE : Int64} {hE : eg_H} (hF : fX13_calm h l0 l1 l2 l3 = some (rE, hE)) : eg_isO h 13 l0 := (eg_ifn hF).1
set_option maxRecDepth 20000 in
theorem mX13_calm {h : eg_H} {l0 : Nat} {l1 : Int32} {l2 : Int32} {l3 : Int32} {rE : Int64} {hE : eg_H} (hF : fX13_calm h l0 l1 l2 l3 = some (rE, hE)) : eg_Met yX13_calm cX13_calm 12 (some .long) 400 [.ref l0, .int l1, .int l2, .int l3] h (some (.long rE)) hE := by
  refine eg_enter rfl (Nat.le_of_ble_eq_true rfl) ?_
  show eg_AW (RX13, cX13_calm, 12, 400, none, "calm", (some .long)) (eg_Zm (some (.long rE)) hE h) (eg_nc hE) (eg_ns hE) h 0 [(0, .ref l0), (1, .int l1), (2, .int l2), (3, .int l3)] [] h
  replace hF := (eg_ifn hF).2
  refine eg_aload_n (i := 0) 0 dX13_calm_0 rfl rfl ?_
  refine eg_iconst (v := (0 : Int32)) dX13_calm_1 (by decide) ?_
  replace hF := eg_bind hF; obtain ⟨h1, e2, hF⟩ := hF
  refine eg_putI dX13_calm_2 e2 (Nat.le_of_ble_eq_true rfl) (Nat.le_of_ble_eq_true rfl) rfl ew_1434 (Or.inl rfl) ?_
  refine eg_aload_n (i := 0) 0 dX13_calm_5 rfl rfl ?_
  refine eg_iload_n (i := 1) 1 dX13_calm_6 rfl rfl ?_
  replace hF := eg_bind hF; obtain ⟨⟨v4, h3⟩, e5, hF⟩ := hF
  refine eg_callV (c := 13) (n := 1) [.int l1] dX13_calm_7 (mX13_isTwo e5) rfl (fX13_isTwo_O e5) (Nat.le_of_ble_eq_true rfl) rfl ew_1929 ew_1931 ew_76 ew_110 ew_1932 hy_X13_isTwo rfl (Nat.le_of_ble_eq_true rfl) (Nat.le_of_ble_eq_true rfl) (Nat.le_of_ble_eq_true rfl) ?_
  refine eg_if_eq 31 dX13_calm_10 rfl (fun c6 => ?_) (fun c6 => ?_)
  · replace hF := eg_it c6 hF
    refine eg_ldc2 (v := (-1 : Int64)) dX13_calm_31 ew_1990 ?_
    exact eg_lretE dX13_calm_34 hF
  · replace hF := eg_if c6 hF
    refine eg_aload_n (i := 0) 0 dX13_calm_13 rfl rfl ?_
    refine eg_iload_n (i := 2) 2 dX13_calm_14 rfl rfl ?_
    replace hF := eg_bind hF; obtain ⟨⟨v8, h7⟩, e9, hF⟩ := hF
    refine eg_callV (c := 13) (n := 1) [.int l2] dX13_calm_15 (mX13_isFrom e9) rfl (fX13_isFrom_O e9) (Nat.le_of_ble_eq_true rfl) rfl ew_1933 ew_1935 ew_77 ew_110 ew_1936 hy_X13_isFrom rfl (Nat.le_of_ble_eq_true rfl) (Nat.le_of_ble_eq_true rfl) (Nat.le_of_ble_eq_true rfl) ?_
    refine eg_if_eq 31 dX13_calm_18 rfl (fun c10 => ?_) (fun c10 => ?_)
    · replace hF := eg_it c10 hF
      refine eg_ldc2 (v := (-1 : Int64)) dX13_calm_31 ew_1990 ?_
      exact eg_lretE dX13_calm_34 hF
    · replace hF := eg_if c10 hF
      refine eg_iload_n (i := 3) 3 dX13_calm_21 rfl rfl ?_
      refine eg_i2l dX13_calm_22 ?_
      refine eg_lconst (v := (0 : Int64)) dX13_calm_23 (by decide) ?_
      refine eg_lconst (v := (1 : Int64)) dX13_calm_24 (by decide) ?_
      replace hF := eg_bind hF; obtain ⟨⟨v12, h11⟩, e13, hF⟩ := hF
      refine eg_callS (n := 3) [.long l3.toInt64, .long (0 : Int64), .long (1 : Int64)] dX13_calm_25 (mX13_isIn e13) rfl ew_1697 ew_1698 ew_110 ew_1699 hy_X13_isIn.2 rfl (Nat.le_of_ble_eq_true rfl) (Nat.le_of_ble_eq_true rfl) (Nat.le_of_ble_eq_true rfl) ?_
      refine eg_if_ne 35 dX13_calm_28 rfl (fun c14 => ?_) (fun c14 => ?_)
      · replace hF := eg_it c14 hF
        refine eg_ldc2 (v := (-1 : Int64)) dX13_calm_31 ew_1990 ?_
        exact eg_lretE dX13_calm_34 hF
      · replace hF := eg_if c14 hF
        refine eg_aload_n (i := 0) 0 dX13_calm_35 rfl rfl ?_
        replace hF := eg_bind hF; obtain ⟨p15, e16, hF⟩ := hF
        refine eg_getR dX13_calm_36 e16 (Nat.le_of_ble_eq_true rfl) (Nat.le_of_ble_eq_true rfl) rfl ew_1452 ?_
        refine eg_iconst (v := (0 : Int32)) dX13_calm_39 (by decide) ?_
        replace hF := eg_bind hF; obtain ⟨v17, e18, hF⟩ := hF
        refine eg_iald dX13_calm_40 e18 ?_
        refine eg_istore (i := 4) [(4, .int v17), (0, .ref l0), (1, .int l1), (2, .int l2), (3, .int l3)] dX13_calm_41 (Nat.le_of_ble_eq_true rfl) rfl ?_
        refine eg_ldc2 (v := (-1 : Int64)) dX13_calm_43 ew_1990 ?_
        refine eg_lstore (i := 5) [(5, .long (-1 : Int64)), (4, .int v17), (0, .ref l0), (1, .int l1), (2, .int l2), (3, .int l3)] dX13_calm_46 (Nat.le_of_ble_eq_true rfl) rfl ?_
        refine eg_ldc2 (v := (-1 : Int64)) dX13_calm_48 ew_1990 ?_
        refine eg_lstore (i := 7) [(7, .long (-1 : Int64)), (5, .long (-1 : Int64)), (4, .int v17), (0, .ref l0), (1, .int l1), (2, .int l2), (3, .int l3)] dX13_calm_51 (Nat.le_of_ble_eq_true rfl) rfl ?_
        refine eg_iconst (v := (0 : Int32)) dX13_calm_53 (by decide) ?_
        refine eg_istore (i := 9) [(9, .int (0 : Int32)), (7, .long (-1 : Int64)), (5, .long (-1 : Int64)), (4, .int v17), (0, .ref l0), (1, .int l1), (2, .int l2), (3, .int l3)] dX13_calm_54 (Nat.le_of_ble_eq_true rfl) rfl ?_
        replace hF := eg_bind hF; obtain ⟨x20, e19, hF⟩ := hF
        refine eg_sub [4, 5, 6, 7, 3, 2, 1, 0] [(0, .ref l0), (1, .int l1), (2, .int l2), (3, .int l3), (4, .int v17), (5, .long (-1 : Int64)), (7, .long (-1 : Int64)), (9, .int (0 : Int32))] rfl (fX13_calm_L56_ok eg_F h11 l0 l1 l2 l3 v17 (-1 : Int64) (-1 : Int64) (0 : Int32) x20 e19 ?_)
        · intro p21 v22 v23 v24 v25 h26 e32
          subst e32
          refine eg_aload_n (i := 0) 0 dX13_calm_105 rfl rfl ?_
          replace hF := eg_bind hF; obtain ⟨p27, e28, hF⟩ := hF
          refine eg_getR dX13_calm_106 e28 (Nat.le_of_ble_eq_true rfl) (Nat.le_of_ble_eq_true rfl) rfl ew_1452 ?_
          refine eg_iconst (v := (0 : Int32)) dX13_calm_109 (by decide) ?_
          refine eg_iload (i := 4) 2 dX13_calm_110 rfl ?_
          replace hF := eg_bind hF; obtain ⟨h29, e30, hF⟩ := hF
          refine eg_iast dX13_calm_112 e30 ?_
          refine eg_iload_n (i := 3) 1 dX13_calm_113 rfl rfl ?_
          refine eg_if_ne 122 dX13_calm_114 rfl (fun c31 => ?_) (fun c31 => ?_)
          · replace hF := eg_it c31 hF
            refine eg_lload (i := 5) 3 dX13_calm_117 rfl ?_
            refine eg_goto 124 dX13_calm_119 rfl ?_
            exact eg_lretE dX13_calm_124 hF
          · replace hF := eg_if c31 hF
            refine eg_lload (i := 7) 4 dX13_calm_122 rfl ?_
            exact eg_lretE dX13_calm_124 hF
theorem dX13_learn_0 : decode cX13_learn 0 = .ok (.aload_n 0, 1) := by decide +kernel
theorem dX13_learn_1 : decode cX13_learn 1 = .ok (.iconst 0, 1) := by decide +kernel
theorem dX13_learn_2 : decode cX13_learn 2 = .ok (.putfield 148, 3) := by decide +kernel
theorem dX13_learn_5 : decode cX13_learn 5 = .ok (.aload_n 0, 1) := by decide +kernel
theorem dX13_learn_6 : decode cX13_learn 6 = .ok (.iload_n 1, 1) := by decide +kernel
theorem dX13_learn_7 : decode cX13_learn 7 = .ok (.invokevirtual 405, 3) := by decide +kernel
theorem dX13_learn_10 : decode cX13_learn 10 = .ok (.ifCond .eq 36, 3) := by decide +kernel
theorem dX13_learn_13 : decode cX13_learn 13 = .ok (.aload_n 0, 1) := by decide +kernel
theorem dX13_learn_14 : decode cX13_learn 14 = .ok (.iload_n 2, 1) := by decide +kernel
theorem dX13_learn_15 : decode cX13_learn 15 = .ok (.invokevirtual 408, 3) := by decide +kernel
theorem dX13_learn_18 : decode cX13_learn 18 = .ok (.ifCond .eq 28, 3) := by decide +kernel
theorem dX13_learn_21 : decode cX13_learn 21 = .ok (.iload_n 3, 1) := by decide +kernel
theorem dX13_learn_22 : decode cX13_learn 22 = .ok (.i2l, 1) := by decide +kernel
theorem dX13_learn_23 : decode cX13_learn 23 = .ok (.lconst 0, 1) := by decide +kernel
theorem dX13_learn_24 : decode cX13_learn 24 = .ok (.ldc2_w 380, 3) := by decide +kernel
theorem dX13_learn_27 : decode cX13_learn 27 = .ok (.invokestatic 269, 3) := by decide +kernel
theorem dX13_learn_30 : decode cX13_learn 30 = .ok (.ifCond .eq 16, 3) := by decide +kernel
theorem dX13_learn_33 : decode cX13_learn 33 = .ok (.iload 4, 2) := by decide +kernel
theorem dX13_learn_35 : decode cX13_learn 35 = .ok (.i2l, 1) := by decide +kernel
theorem dX13_learn_36 : decode cX13_learn 36 = .ok (.lconst 0, 1) := by decide +kernel
theorem dX13_learn_37 : decode cX13_learn 37 = .ok (.ldc2_w 472, 3) := by decide +kernel
theorem dX13_learn_40 : decode cX13_learn 40 = .ok (.invokestatic 269, 3) := by decide +kernel
theorem dX13_learn_43 : decode cX13_learn 43 = .ok (.ifCond .ne 5, 3) := by decide +kernel
theorem dX13_learn_46 : decode cX13_learn 46 = .ok (.iconst (-1), 1) := by decide +kernel
theorem dX13_learn_47 : decode cX13_learn 47 = .ok (.ireturn, 1) := by decide +kernel
theorem dX13_learn_48 : decode cX13_learn 48 = .ok (.iconst 4, 1) := by decide +kernel
theorem dX13_learn_49 : decode cX13_learn 49 = .ok (.iload_n 1, 1) := by decide +kernel
theorem dX13_learn_50 : decode cX13_learn 50 = .ok (.bipush 10, 2) := by decide +kernel
theorem dX13_learn_52 : decode cX13_learn 52 = .ok (.idiv, 1) := by decide +kernel
theorem dX13_learn_53 : decode cX13_learn 53 = .ok (.imul, 1) := by decide +kernel
theorem dX13_learn_54 : decode cX13_learn 54 = .ok (.iconst 3, 1) := by decide +kernel
theorem dX13_learn_55 : decode cX13_learn 55 = .ok (.iadd, 1) := by decide +kernel
theorem dX13_learn_56 : decode cX13_learn 56 = .ok (.istore 5, 2) := by decide +kernel
theorem dX13_learn_58 : decode cX13_learn 58 = .ok (.iconst 4, 1) := by decide +kernel
theorem dX13_learn_59 : decode cX13_learn 59 = .ok (.iload_n 1, 1) := by decide +kernel
theorem dX13_learn_60 : decode cX13_learn 60 = .ok (.bipush 10, 2) := by decide +kernel
theorem dX13_learn_62 : decode cX13_learn 62 = .ok (.irem, 1) := by decide +kernel
theorem dX13_learn_63 : decode cX13_learn 63 = .ok (.imul, 1) := by decide +kernel
theorem dX13_learn_64 : decode cX13_learn 64 = .ok (.iconst 3, 1) := by decide +kernel
theorem dX13_learn_65 : decode cX13_learn 65 = .ok (.iadd, 1) := by decide +kernel
theorem dX13_learn_66 : decode cX13_learn 66 = .ok (.istore 6, 2) := by decide +kernel
theorem dX13_learn_68 : decode cX13_learn 68 = .ok (.aload_n 0, 1) := by decide +kernel
theorem dX13_learn_69 : decode cX13_learn 69 = .ok (.getfield 43, 3) := by decide +kernel
theorem dX13_learn_72 : decode cX13_learn 72 = .ok (.iload 5, 2) := by decide +kernel
theorem dX13_learn_74 : decode cX13_learn 74 = .ok (.iaload, 1) := by decide +kernel
theorem dX13_learn_75 : decode cX13_learn 75 = .ok (.istore 7, 2) := by decide +kernel
theorem dX13_learn_77 : decode cX13_learn 77 = .ok (.aload_n 0, 1) := by decide +kernel
theorem dX13_learn_78 : decode cX13_learn 78 = .ok (.getfield 43, 3) := by decide +kernel
theorem dX13_learn_81 : decode cX13_learn 81 = .ok (.iload 6, 2) := by decide +kernel
theorem dX13_learn_83 : decode cX13_learn 83 = .ok (.iaload, 1) := by decide +kernel
theorem dX13_learn_84 : decode cX13_learn 84 = .ok (.istore 8, 2) := by decide +kernel
theorem dX13_learn_86 : decode cX13_learn 86 = .ok (.iconst (-1), 1) := by decide +kernel
theorem dX13_learn_87 : decode cX13_learn 87 = .ok (.istore 9, 2) := by decide +kernel
theorem dX13_learn_89 : decode cX13_learn 89 = .ok (.iconst 0, 1) := by decide +kernel
theorem dX13_learn_90 : decode cX13_learn 90 = .ok (.istore 10, 2) := by decide +kernel
theorem dX13_learn_92 : decode cX13_learn 92 = .ok (.iload 10, 2) := by decide +kernel
theorem dX13_learn_94 : decode cX13_learn 94 = .ok (.bipush 18, 2) := by decide +kernel
theorem dX13_learn_96 : decode cX13_learn 96 = .ok (.if_icmp .gt 121, 3) := by decide +kernel
theorem dX13_learn_99 : decode cX13_learn 99 = .ok (.iload 9, 2) := by decide +kernel
theorem dX13_learn_101 : decode cX13_learn 101 = .ok (.iconst (-1), 1) := by decide +kernel
theorem dX13_learn_102 : decode cX13_learn 102 = .ok (.if_icmp .ne 115, 3) := by decide +kernel
theorem dX13_learn_105 : decode cX13_learn 105 = .ok (.iconst 0, 1) := by decide +kernel
theorem dX13_learn_106 : decode cX13_learn 106 = .ok (.istore 11, 2) := by decide +kernel
theorem dX13_learn_108 : decode cX13_learn 108 = .ok (.iload 11, 2) := by decide +kernel
theorem dX13_learn_110 : decode cX13_learn 110 = .ok (.iload 10, 2) := by decide +kernel
theorem dX13_learn_112 : decode cX13_learn 112 = .ok (.if_icmp .gt 99, 3) := by decide +kernel
theorem dX13_learn_115 : decode cX13_learn 115 = .ok (.iload 9, 2) := by decide +kernel
theorem dX13_learn_117 : decode cX13_learn 117 = .ok (.iconst (-1), 1) := by decide +kernel
theorem dX13_learn_118 : decode cX13_learn 118 = .ok (.if_icmp .ne 93, 3) := by decide +kernel
theorem dX13_learn_121 : decode cX13_learn 121 = .ok (.iload 7, 2) := by decide +kernel
theorem dX13_learn_123 : decode cX13_learn 123 = .ok (.iload 11, 2) := by decide +kernel
theorem dX13_learn_125 : decode cX13_learn 125 = .ok (.iadd, 1) := by decide +kernel
theorem dX13_learn_126 : decode cX13_learn 126 = .ok (.bipush 9, 2) := by decide +kernel
theorem dX13_learn_128 : decode cX13_learn 128 = .ok (.if_icmp .gt 77, 3) := by decide +kernel
theorem dX13_learn_131 : decode cX13_learn 131 = .ok (.iload 8, 2) := by decide +kernel
theorem dX13_learn_133 : decode cX13_learn 133 = .ok (.iload 10, 2) := by decide +kernel
theorem dX13_learn_135 : decode cX13_learn 135 = .ok (.iadd, 1) := by decide +kernel
theorem dX13_learn_136 : decode cX13_learn 136 = .ok (.iload 11, 2) := by decide +kernel
theorem dX13_learn_138 : decode cX13_learn 138 = .ok (.isub, 1) := by decide +kernel
theorem dX13_learn_139 : decode cX13_learn 139 = .ok (.bipush 9, 2) := by decide +kernel
theorem dX13_learn_141 : decode cX13_learn 141 = .ok (.if_icmp .le 6, 3) := by decide +kernel
theorem dX13_learn_144 : decode cX13_learn 144 = .ok (.goto 61, 3) := by decide +kernel
theorem dX13_learn_147 : decode cX13_learn 147 = .ok (.aload_n 0, 1) := by decide +kernel
theorem dX13_learn_148 : decode cX13_learn 148 = .ok (.getfield 43, 3) := by decide +kernel
theorem dX13_learn_151 : decode cX13_learn 151 = .ok (.iload 5, 2) := by decide +kernel
theorem dX13_learn_153 : decode cX13_learn 153 = .ok (.iload 7, 2) := by decide +kernel
theorem dX13_learn_155 : decode cX13_learn 155 = .ok (.iload 11, 2) := by decide +kernel
theorem dX13_learn_157 : decode cX13_learn 157 = .ok (.iadd, 1) := by decide +kernel
theorem dX13_learn_158 : decode cX13_learn 158 = .ok (.iastore, 1) := by decide +kernel
theorem dX13_learn_159 : decode cX13_learn 159 = .ok (.aload_n 0, 1) := by decide +kernel
theorem dX13_learn_160 : decode cX13_learn 160 = .ok (.getfield 43, 3) := by decide +kernel
theorem dX13_learn_163 : decode cX13_learn 163 = .ok (.iload 6, 2) := by decide +kernel
theorem dX13_learn_165 : decode cX13_learn 165 = .ok (.iload 8, 2) := by decide +kernel
theorem dX13_learn_167 : decode cX13_learn 167 = .ok (.iload 10, 2) := by decide +kernel
theorem dX13_learn_169 : decode cX13_learn 169 = .ok (.iadd, 1) := by decide +kernel
theorem dX13_learn_170 : decode cX13_learn 170 = .ok (.iload 11, 2) := by decide +kernel
theorem dX13_learn_172 : decode cX13_learn 172 = .ok (.isub, 1) := by decide +kernel
theorem dX13_learn_173 : decode cX13_learn 173 = .ok (.iastore, 1) := by decide +kernel
theorem dX13_learn_174 : decode cX13_learn 174 = .ok (.aload_n 0, 1) := by decide +kernel
theorem dX13_learn_175 : decode cX13_learn 175 = .ok (.iload_n 1, 1) := by decide +kernel
theorem dX13_learn_176 : decode cX13_learn 176 = .ok (.iload_n 2, 1) := by decide +kernel
theorem dX13_learn_177 : decode cX13_learn 177 = .ok (.aload_n 0, 1) := by decide +kernel
theorem dX13_learn_178 : decode cX13_learn 178 = .ok (.getfield 37, 3) := by decide +kernel
theorem dX13_learn_181 : decode cX13_learn 181 = .ok (.iconst 2, 1) := by decide +kernel
theorem dX13_learn_182 : decode cX13_learn 182 = .ok (.iaload, 1) := by decide +kernel
theorem dX13_learn_183 : decode cX13_learn 183 = .ok (.iload_n 3, 1) := by decide +kernel
theorem dX13_learn_184 : decode cX13_learn 184 = .ok (.invokevirtual 437, 3) := by decide +kernel
theorem dX13_learn_187 : decode cX13_learn 187 = .ok (.iload 4, 2) := by decide +kernel
theorem dX13_learn_189 : decode cX13_learn 189 = .ok (.if_icmp .lt 16, 3) := by decide +kernel
theorem dX13_learn_192 : decode cX13_learn 192 = .ok (.bipush 10, 2) := by decide +kernel
theorem dX13_learn_194 : decode cX13_learn 194 = .ok (.iload 11, 2) := by decide +kernel
theorem dX13_learn_196 : decode cX13_learn 196 = .ok (.imul, 1) := by decide +kernel
theorem dX13_learn_197 : decode cX13_learn 197 = .ok (.iload 10, 2) := by decide +kernel
theorem dX13_learn_199 : decode cX13_learn 199 = .ok (.iadd, 1) := by decide +kernel
theorem dX13_learn_200 : decode cX13_learn 200 = .ok (.iload 11, 2) := by decide +kernel
theorem dX13_learn_202 : decode cX13_learn 202 = .ok (.isub, 1) := by decide +kernel
theorem dX13_learn_203 : decode cX13_learn 203 = .ok (.istore 9, 2) := by decide +kernel
theorem dX13_learn_205 : decode cX13_learn 205 = .ok (.iinc 11 1, 3) := by decide +kernel
theorem dX13_learn_208 : decode cX13_learn 208 = .ok (.goto (-100), 3) := by decide +kernel
theorem dX13_learn_211 : decode cX13_learn 211 = .ok (.iinc 10 1, 3) := by decide +kernel
theorem dX13_learn_214 : decode cX13_learn 214 = .ok (.goto (-122), 3) := by decide +kernel
theorem dX13_learn_217 : decode cX13_learn 217 = .ok (.aload_n 0, 1) := by decide +kernel
theorem dX13_learn_218 : decode cX13_learn 218 = .ok (.getfield 43, 3) := by decide +kernel
theorem dX13_learn_221 : decode cX13_learn 221 = .ok (.iload 5, 2) := by decide +kernel
theorem dX13_learn_223 : decode cX13_learn 223 = .ok (.iload 7, 2) := by decide +kernel
theorem dX13_learn_225 : decode cX13_learn 225 = .ok (.iastore, 1) := by decide +kernel
theorem dX13_learn_226 : decode cX13_learn 226 = .ok (.aload_n 0, 1) := by decide +kernel
theorem dX13_learn_227 : decode cX13_learn 227 = .ok (.getfield 43, 3) := by decide +kernel
theorem dX13_learn_230 : decode cX13_learn 230 = .ok (.iload 6, 2) := by decide +kernel
theorem dX13_learn_232 : decode cX13_learn 232 = .ok (.iload 8, 2) := by decide +kernel
theorem dX13_learn_234 : decode cX13_learn 234 = .ok (.iastore, 1) := by decide +kernel
theorem dX13_learn_235 : decode cX13_learn 235 = .ok (.iload 9, 2) := by decide +kernel
theorem dX13_learn_237 : decode cX13_learn 237 = .ok (.ireturn, 1) := by decide +kernel
def fX13_learn_L108 : Nat → eg_H → Nat → Int32 → Int32 → Int32 → Int32 → Int32 → Int32 → Int32 → Int32 → Int32 → Int32 → Int32 → Option (Nat × Int32 × Int32 × Int32 × Int32 × Int32 × Int32 × Int32 × Int32 × Int32 × Int32 × eg_H)
  | 0, _, _, _, _, _, _, _, _, _, _, _, _, _ => none
  | n + 1, h, l0, l1, l2, l3, l4, l5, l6, l7, l8, l9, l10, l11 =>
    if l10 < l11 then
      (some (l0, l1, l2, l3, l4, l5, l6, l7, l8, l9, l10, h))
    else
      if l9 = (-1 : Int32) then
        (if (9 : Int32) < (l7 + l11) then
          (fX13_learn_L108 n h l0 l1 l2 l3 l4 l5 l6 l7 l8 l9 l10 (l11 + (1 : Int32)))
        else
          if ((l8 + l10) - l11) ≤ (9 : Int32) then
            ((eg_gR h 13 20 l0).bind fun p5 =>
            (eg_wI h 100 p5 l5 (l7 + l11)).bind fun h7 =>
            (eg_gR h7 13 20 l0).bind fun p9 =>
            (eg_wI h7 100 p9 l6 ((l8 + l10) - l11)).bind fun h11 =>
            (eg_gR h11 13 18 l0).bind fun p13 =>
            (eg_aI h11 100 p13 (2 : Int32)).bind fun v15 =>
            (fX13_goPair h11 l0 l1 l2 v15 l3).bind fun ⟨v18, h17⟩ =>
            if v18 < l4 then
              (fX13_learn_L108 n h17 l0 l1 l2 l3 l4 l5 l6 l7 l8 l9 l10 (l11 + (1 : Int32)))
            else
              (some (((((10 : Int32) * l11) + l10) - l11))).bind fun v21 =>
              fX13_learn_L108 n h17 l0 l1 l2 l3 l4 l5 l6 l7 l8 v21 l10 (l11 + (1 : Int32)))
          else
            fX13_learn_L108 n h l0 l1 l2 l3 l4 l5 l6 l7 l8 l9 l10 (l11 + (1 : Int32)))
      else
        some (l0, l1, l2, l3, l4, l5, l6, l7, l8, l9, l10, h)
set_option maxRecDepth 20000 in
theorem fX13_learn_L108_ok {h0 : eg_H} {Z : eg_C → State → Prop} {N S : Nat} : ∀ (n : Nat) (h : eg_H) (l0 : Nat) (l1 : Int32) (l2 : Int32) (l3 : Int32) (l4 : Int32) (l5 : Int32) (l6 : Int32) (l7 : Int32) (l8 : Int32) (l9 : Int32) (l10 : Int32) (l11 : Int32) (eE : Nat × Int32 × Int32 × Int32 × Int32 × Int32 × Int32 × Int32 × Int32 × Int32 × Int32 × eg_H), fX13_learn_L108 n h l0 l1 l2 l3 l4 l5 l6 l7 l8 l9 l10 l11 = some eE → (hk0 : ∀ (l0 : Nat) (l1 : Int32) (l2 : Int32) (l3 : Int32) (l4 : Int32) (l5 : Int32) (l6 : Int32) (l7 : Int32) (l8 : Int32) (l9 : Int32) (l10 : Int32) (h : eg_H), eE = (l0, l1, l2, l3, l4, l5, l6, l7, l8, l9, l10, h) → eg_AW (RX13, cX13_learn, 12, 399, none, "learn", (some .int)) Z N S h0 211 [(0, .ref l0), (1, .int l1), (2, .int l2), (3, .int l3), (4, .int l4), (5, .int l5), (6, .int l6), (7, .int l7), (8, .int l8), (9, .int l9), (10, .int l10)] [] h) → eg_AW (RX13, cX13_learn, 12, 399, none, "learn", (some .int)) Z N S h0 108 [(0, .ref l0), (1, .int l1), (2, .int l2), (3, .int l3), (4, .int l4), (5, .int l5), (6, .int l6), (7, .int l7), (8, .int l8), (9, .int l9), (10, .int l10), (11, .int l11)] [] h := by
  intro n
  induction n with
  | zero => intro h l0 l1 l2 l3 l4 l5 l6 l7 l8 l9 l10 l11 eE hF; exact absurd hF (by intro q; cases q)
  | succ n ih =>
    intro h l0 l1 l2 l3 l4 l5 l6 l7 l8 l9 l10 l11 eE hF hk0
    have hrec := fun (h' : eg_H) (l0 : Nat) (l1 : Int32) (l2 : Int32) (l3 : Int32) (l4 : Int32) (l5 : Int32) (l6 : Int32) (l7 : Int32) (l8 : Int32) (l9 : Int32) (l10 : Int32) (l11 : Int32) hq => ih h' l0 l1 l2 l3 l4 l5 l6 l7 l8 l9 l10 l11 eE hq hk0
    refine eg_iload (i := 11) 11 dX13_learn_108 rfl ?_
    refine eg_iload (i := 10) 10 dX13_learn_110 rfl ?_
    refine eg_ic_gt 211 dX13_learn_112 rfl (fun c1 => ?_) (fun c1 => ?_)
    · replace hF := eg_it c1 hF
      exact eg_sub [0, 1, 2, 3, 4, 5, 6, 7, 8, 9, 10] [(0, .ref l0), (1, .int l1), (2, .int l2), (3, .int l3), (4, .int l4), (5, .int l5), (6, .int l6), (7, .int l7), (8, .int l8), (9, .int l9), (10, .int l10)] rfl (hk0 l0 l1 l2 l3 l4 l5 l6 l7 l8 l9 l10 h (Option.some.inj hF).symm)
    · replace hF := eg_if c1 hF
      refine eg_iload (i := 9) 9 dX13_learn_115 rfl ?_
      refine eg_iconst (v := (-1 : Int32)) dX13_learn_117 (by decide) ?_
      refine eg_ic_ne 211 dX13_learn_118 rfl (fun c2 => ?_) (fun c2 => ?_)
      · replace hF := eg_it c2 hF
        refine eg_iload (i := 7) 7 dX13_learn_121 rfl ?_
        refine eg_iload (i := 11) 11 dX13_learn_123 rfl ?_
        refine eg_iadd dX13_learn_125 ?_
        refine eg_bipush (v := (9 : Int32)) dX13_learn_126 (by decide) ?_
        refine eg_ic_gt 205 dX13_learn_128 rfl (fun c3 => ?_) (fun c3 => ?_)
        · replace hF := eg_it c3 hF
          refine eg_iinc (i := 11) (v := (l11 + (1 : Int32))) 11 [(11, .int (l11 + (1 : Int32))), (0, .ref l0), (1, .int l1), (2, .int l2), (3, .int l3), (4, .int l4), (5, .int l5), (6, .int l6), (7, .int l7), (8, .int l8), (9, .int l9), (10, .int l10)] dX13_learn_205 rfl rfl (Nat.le_of_ble_eq_true rfl) rfl ?_
          refine eg_goto 108 dX13_learn_208 rfl ?_
          exact eg_sub [1, 2, 3, 4, 5, 6, 7, 8, 9, 10, 11, 0] [(0, .ref l0), (1, .int l1), (2, .int l2), (3, .int l3), (4, .int l4), (5, .int l5), (6, .int l6), (7, .int l7), (8, .int l8), (9, .int l9), (10, .int l10), (11, .int (l11 + (1 : Int32)))] rfl (hrec h l0 l1 l2 l3 l4 l5 l6 l7 l8 l9 l10 (l11 + (1 : Int32)) hF)
        · replace hF := eg_if c3 hF
          refine eg_iload (i := 8) 8 dX13_learn_131 rfl ?_
          refine eg_iload (i := 10) 10 dX13_learn_133 rfl ?_
          refine eg_iadd dX13_learn_135 ?_
          refine eg_iload (i := 11) 11 dX13_learn_136 rfl ?_
          refine eg_isub dX13_learn_138 ?_
          refine eg_bipush (v := (9 : Int32)) dX13_learn_139 (by decide) ?_
          refine eg_ic_le 147 dX13_learn_141 rfl (fun c4 => ?_) (fun c4 => ?_)
          · replace hF := eg_it c4 hF
            refine eg_aload_n (i := 0) 0 dX13_learn_147 rfl rfl ?_
            replace hF := eg_bind hF; obtain ⟨p5, e6, hF⟩ := hF
            refine eg_getR dX13_learn_148 e6 (Nat.le_of_ble_eq_true rfl) (Nat.le_of_ble_eq_true rfl) rfl ew_1454 ?_
            refine eg_iload (i := 5) 5 dX13_learn_151 rfl ?_
            refine eg_iload (i := 7) 7 dX13_learn_153 rfl ?_
            refine eg_iload (i := 11) 11 dX13_learn_155 rfl ?_
            refine eg_iadd dX13_learn_157 ?_
            replace hF := eg_bind hF; obtain ⟨h7, e8, hF⟩ := hF
            refine eg_iast dX13_learn_158 e8 ?_
            refine eg_aload_n (i := 0) 0 dX13_learn_159 rfl rfl ?_
            replace hF := eg_bind hF; obtain ⟨p9, e10, hF⟩ := hF
            refine eg_getR dX13_learn_160 e10 (Nat.le_of_ble_eq_true rfl) (Nat.le_of_ble_eq_true rfl) rfl ew_1454 ?_
            refine eg_iload (i := 6) 6 dX13_learn_163 rfl ?_
            refine eg_iload (i := 8) 8 dX13_learn_165 rfl ?_
            refine eg_iload (i := 10) 10 dX13_learn_167 rfl ?_
            refine eg_iadd dX13_learn_169 ?_
            refine eg_iload (i := 11) 11 dX13_learn_170 rfl ?_
            refine eg_isub dX13_learn_172 ?_
            replace hF := eg_bind hF; obtain ⟨h11, e12, hF⟩ := hF
            refine eg_iast dX13_learn_173 e12 ?_
            refine eg_aload_n (i := 0) 0 dX13_learn_174 rfl rfl ?_
            refine eg_iload_n (i := 1) 1 dX13_learn_175 rfl rfl ?_
            refine eg_iload_n (i := 2) 2 dX13_learn_176 rfl rfl ?_
            refine eg_aload_n (i := 0) 0 dX13_learn_177 rfl rfl ?_
            replace hF := eg_bind hF; obtain ⟨p13, e14, hF⟩ := hF
            refine eg_getR dX13_learn_178 e14 (Nat.le_of_ble_eq_true rfl) (Nat.le_of_ble_eq_true rfl) rfl ew_1452 ?_
            refine eg_iconst (v := (2 : Int32)) dX13_learn_181 (by decide) ?_
            replace hF := eg_bind hF; obtain ⟨v15, e16, hF⟩ := hF
            refine eg_iald dX13_learn_182 e16 ?_
            refine eg_iload_n (i := 3) 3 dX13_learn_183 rfl rfl ?_
            replace hF := eg_bind hF; obtain ⟨⟨v18, h17⟩, e19, hF⟩ := hF
            refine eg_callV (c := 13) (n := 4) [.int l1, .int l2, .int v15, .int l3] dX13_learn_184 (mX13_goPair e19) rfl (fX13_goPair_O e19) (Nat.le_of_ble_eq_true rfl) rfl ew_1973 ew_1975 ew_85 ew_110 ew_1976 hy_X13_goPair rfl (Nat.le_of_ble_eq_true rfl) (Nat.le_of_ble_eq_true rfl) (Nat.le_of_ble_eq_true rfl) ?_
            refine eg_iload (i := 4) 4 dX13_learn_187 rfl ?_
            refine eg_ic_lt 205 dX13_learn_189 rfl (fun c20 => ?_) (fun c20 => ?_)
            · replace hF := eg_it c20 hF
              refine eg_iinc (i := 11) (v := (l11 + (1 : Int32))) 11 [(11, .int (l11 + (1 : Int32))), (0, .ref l0), (1, .int l1), (2, .int l2), (3, .int l3), (4, .int l4), (5, .int l5), (6, .int l6), (7, .int l7), (8, .int l8), (9, .int l9), (10, .int l10)] dX13_learn_205 rfl rfl (Nat.le_of_ble_eq_true rfl) rfl ?_
              refine eg_goto 108 dX13_learn_208 rfl ?_
              exact eg_sub [1, 2, 3, 4, 5, 6, 7, 8, 9, 10, 11, 0] [(0, .ref l0), (1, .int l1), (2, .int l2), (3, .int l3), (4, .int l4), (5, .int l5), (6, .int l6), (7, .int l7), (8, .int l8), (9, .int l9), (10, .int l10), (11, .int (l11 + (1 : Int32)))] rfl (hrec h17 l0 l1 l2 l3 l4 l5 l6 l7 l8 l9 l10 (l11 + (1 : Int32)) hF)
            · replace hF := eg_if c20 hF
              refine eg_bipush (v := (10 : Int32)) dX13_learn_192 (by decide) ?_
              refine eg_iload (i := 11) 11 dX13_learn_194 rfl ?_
              refine eg_imul dX13_learn_196 ?_
              refine eg_iload (i := 10) 10 dX13_learn_197 rfl ?_
              refine eg_iadd dX13_learn_199 ?_
              refine eg_iload (i := 11) 11 dX13_learn_200 rfl ?_
              refine eg_isub dX13_learn_202 ?_
              replace hF := eg_bind hF; obtain ⟨v21, e22, hF⟩ := hF
              replace e22 := Option.some.inj e22
              rw [e22]
              refine eg_istore (i := 9) [(9, .int v21), (0, .ref l0), (1, .int l1), (2, .int l2), (3, .int l3), (4, .int l4), (5, .int l5), (6, .int l6), (7, .int l7), (8, .int l8), (10, .int l10), (11, .int l11)] dX13_learn_203 (Nat.le_of_ble_eq_true rfl) rfl ?_
              refine eg_iinc (i := 11) (v := (l11 + (1 : Int32))) 11 [(11, .int (l11 + (1 : Int32))), (9, .int v21), (0, .ref l0), (1, .int l1), (2, .int l2), (3, .int l3), (4, .int l4), (5, .int l5), (6, .int l6), (7, .int l7), (8, .int l8), (10, .int l10)] dX13_learn_205 rfl rfl (Nat.le_of_ble_eq_true rfl) rfl ?_
              refine eg_goto 108 dX13_learn_208 rfl ?_
              exact eg_sub [2, 3, 4, 5, 6, 7, 8, 9, 10, 1, 11, 0] [(0, .ref l0), (1, .int l1), (2, .int l2), (3, .int l3), (4, .int l4), (5, .int l5), (6, .int l6), (7, .int l7), (8, .int l8), (9, .int v21), (10, .int l10), (11, .int (l11 + (1 : Int32)))] rfl (hrec h17 l0 l1 l2 l3 l4 l5 l6 l7 l8 v21 l10 (l11 + (1 : Int32)) hF)
          · replace hF := eg_if c4 hF
            refine eg_goto 205 dX13_learn_144 rfl ?_
            refine eg_iinc (i := 11) (v := (l11 + (1 : Int32))) 11 [(11, .int (l11 + (1 : Int32))), (0, .ref l0), (1, .int l1), (2, .int l2), (3, .int l3), (4, .int l4), (5, .int l5), (6, .int l6), (7, .int l7), (8, .int l8), (9, .int l9), (10, .int l10)] dX13_learn_205 rfl rfl (Nat.le_of_ble_eq_true rfl) rfl ?_
            refine eg_goto 108 dX13_learn_208 rfl ?_
            exact eg_sub [1, 2, 3, 4, 5, 6, 7, 8, 9, 10, 11, 0] [(0, .ref l0), (1, .int l1), (2, .int l2), (3, .int l3), (4, .int l4), (5, .int l5), (6, .int l6), (7, .int l7), (8, .int l8), (9, .int l9), (10, .int l10), (11, .int (l11 + (1 : Int32)))] rfl (hrec h l0 l1 l2 l3 l4 l5 l6 l7 l8 l9 l10 (l11 + (1 : Int32)) hF)
      · replace hF := eg_if c2 hF
        exact eg_sub [0, 1, 2, 3, 4, 5, 6, 7, 8, 9, 10] [(0, .ref l0), (1, .int l1), (2, .int l2), (3, .int l3), (4, .int l4), (5, .int l5), (6, .int l6), (7, .int l7), (8, .int l8), (9, .int l9), (10, .int l10)] rfl (hk0 l0 l1 l2 l3 l4 l5 l6 l7 l8 l9 l10 h (Option.some.inj hF).symm)
def fX13_learn_L92 : Nat → eg_H → Nat → Int32 → Int32 → Int32 → Int32 → Int32 → Int32 → Int32 → Int32 → Int32 → Int32 → Option (Nat × Int32 × Int32 × Int32 × Int32 × Int32 × eg_H)
  | 0, _, _, _, _, _, _, _, _, _, _, _, _ => none
  | n + 1, h, l0, l1, l2, l3, l4, l5, l6, l7, l8, l9, l10 =>
    if (18 : Int32) < l10 then
      (some (l0, l5, l6, l7, l8, l9, h))
    else
      if l9 = (-1 : Int32) then
        ((fX13_learn_L108 eg_F h l0 l1 l2 l3 l4 l5 l6 l7 l8 l9 l10 (0 : Int32)).bind fun e =>
        match e with
        | (p5, v6, v7, v8, v9, v10, v11, v12, v13, v14, v15, h16) =>
          fX13_learn_L92 n h16 p5 v6 v7 v8 v9 v10 v11 v12 v13 v14 (v15 + (1 : Int32)))
      else
        some (l0, l5, l6, l7, l8, l9, h)
set_option maxRecDepth 20000 in
theorem fX13_learn_L92_ok {h0 : eg_H} {Z : eg_C → State → Prop} {N S : Nat} : ∀ (n : Nat) (h : eg_H) (l0 : Nat) (l1 : Int32) (l2 : Int32) (l3 : Int32) (l4 : Int32) (l5 : Int32) (l6 : Int32) (l7 : Int32) (l8 : Int32) (l9 : Int32) (l10 : Int32) (eE : Nat × Int32 × Int32 × Int32 × Int32 × Int32 × eg_H), fX13_learn_L92 n h l0 l1 l2 l3 l4 l5 l6 l7 l8 l9 l10 = some eE → (hk0 : ∀ (l0 : Nat) (l5 : Int32) (l6 : Int32) (l7 : Int32) (l8 : Int32) (l9 : Int32) (h : eg_H), eE = (l0, l5, l6, l7, l8, l9, h) → eg_AW (RX13, cX13_learn, 12, 399, none, "learn", (some .int)) Z N S h0 217 [(0, .ref l0), (5, .int l5), (6, .int l6), (7, .int l7), (8, .int l8), (9, .int l9)] [] h) → eg_AW (RX13, cX13_learn, 12, 399, none, "learn", (some .int)) Z N S h0 92 [(0, .ref l0), (1, .int l1), (2, .int l2), (3, .int l3), (4, .int l4), (5, .int l5), (6, .int l6), (7, .int l7), (8, .int l8), (9, .int l9), (10, .int l10)] [] h := by
  intro n
  induction n with
  | zero => intro h l0 l1 l2 l3 l4 l5 l6 l7 l8 l9 l10 eE hF; exact absurd hF (by intro q; cases q)
  | succ n ih =>
    intro h l0 l1 l2 l3 l4 l5 l6 l7 l8 l9 l10 eE hF hk0
    have hrec := fun (h' : eg_H) (l0 : Nat) (l1 : Int32) (l2 : Int32) (l3 : Int32) (l4 : Int32) (l5 : Int32) (l6 : Int32) (l7 : Int32) (l8 : Int32) (l9 : Int32) (l10 : Int32) hq => ih h' l0 l1 l2 l3 l4 l5 l6 l7 l8 l9 l10 eE hq hk0
    refine eg_iload (i := 10) 10 dX13_learn_92 rfl ?_
    refine eg_bipush (v := (18 : Int32)) dX13_learn_94 (by decide) ?_
    refine eg_ic_gt 217 dX13_learn_96 rfl (fun c1 => ?_) (fun c1 => ?_)
    · replace hF := eg_it c1 hF
      exact eg_sub [0, 5, 6, 7, 8, 9] [(0, .ref l0), (5, .int l5), (6, .int l6), (7, .int l7), (8, .int l8), (9, .int l9)] rfl (hk0 l0 l5 l6 l7 l8 l9 h (Option.some.inj hF).symm)
    · replace hF := eg_if c1 hF
      refine eg_iload (i := 9) 9 dX13_learn_99 rfl ?_
      refine eg_iconst (v := (-1 : Int32)) dX13_learn_101 (by decide) ?_
      refine eg_ic_ne 217 dX13_learn_102 rfl (fun c2 => ?_) (fun c2 => ?_)
      · replace hF := eg_it c2 hF
        refine eg_iconst (v := (0 : Int32)) dX13_learn_105 (by decide) ?_
        refine eg_istore (i := 11) [(11, .int (0 : Int32)), (0, .ref l0), (1, .int l1), (2, .int l2), (3, .int l3), (4, .int l4), (5, .int l5), (6, .int l6), (7, .int l7), (8, .int l8), (9, .int l9), (10, .int l10)] dX13_learn_106 (Nat.le_of_ble_eq_true rfl) rfl ?_
        replace hF := eg_bind hF; obtain ⟨x4, e3, hF⟩ := hF
        refine eg_sub [1, 2, 3, 4, 5, 6, 7, 8, 9, 10, 11, 0] [(0, .ref l0), (1, .int l1), (2, .int l2), (3, .int l3), (4, .int l4), (5, .int l5), (6, .int l6), (7, .int l7), (8, .int l8), (9, .int l9), (10, .int l10), (11, .int (0 : Int32))] rfl (fX13_learn_L108_ok eg_F h l0 l1 l2 l3 l4 l5 l6 l7 l8 l9 l10 (0 : Int32) x4 e3 ?_)
        · intro p5 v6 v7 v8 v9 v10 v11 v12 v13 v14 v15 h16 e17
          subst e17
          refine eg_iinc (i := 10) (v := (v15 + (1 : Int32))) 10 [(10, .int (v15 + (1 : Int32))), (0, .ref p5), (1, .int v6), (2, .int v7), (3, .int v8), (4, .int v9), (5, .int v10), (6, .int v11), (7, .int v12), (8, .int v13), (9, .int v14)] dX13_learn_211 rfl rfl (Nat.le_of_ble_eq_true rfl) rfl ?_
          refine eg_goto 92 dX13_learn_214 rfl ?_
          exact eg_sub [1, 2, 3, 4, 5, 6, 7, 8, 9, 10, 0] [(0, .ref p5), (1, .int v6), (2, .int v7), (3, .int v8), (4, .int v9), (5, .int v10), (6, .int v11), (7, .int v12), (8, .int v13), (9, .int v14), (10, .int (v15 + (1 : Int32)))] rfl (hrec h16 p5 v6 v7 v8 v9 v10 v11 v12 v13 v14 (v15 + (1 : Int32)) hF)
      · replace hF := eg_if c2 hF
        exact eg_sub [0, 5, 6, 7, 8, 9] [(0, .ref l0), (5, .int l5), (6, .int l6), (7, .int l7), (8, .int l8), (9, .int l9)] rfl (hk0 l0 l5 l6 l7 l8 l9 h (Option.some.inj hF).symm)
def fX13_learn_j217 (h : eg_H) (l0 : Nat) (l5 : Int32) (l6 : Int32) (l7 : Int32) (l8 : Int32) (l9 : Int32) : Option (Int32 × eg_H) :=
  (eg_gR h 13 20 l0).bind fun p1 =>
  (eg_wI h 100 p1 l5 l7).bind fun h3 =>
  (eg_gR h3 13 20 l0).bind fun p5 =>
  (eg_wI h3 100 p5 l6 l8).bind fun h7 =>
  some (l9, h7)
set_option maxRecDepth 20000 in
theorem fX13_learn_j217_ok {h0 : eg_H} (h : eg_H) (l0 : Nat) (l5 : Int32) (l6 : Int32) (l7 : Int32) (l8 : Int32) (l9 : Int32) {rE : Int32} {hE : eg_H} (hF : fX13_learn_j217 h l0 l5 l6 l7 l8 l9 = some (rE, hE)) : eg_AW (RX13, cX13_learn, 12, 399, none, "learn", (some .int)) (eg_Zm (some (.int rE)) hE h0) (eg_nc hE) (eg_ns hE) h0 217 [(0, .ref l0), (5, .int l5), (6, .int l6), (7, .int l7), (8, .int l8), (9, .int l9)] [] h := by
  refine eg_aload_n (i := 0) 0 dX13_learn_217 rfl rfl ?_
  replace hF := eg_bind hF; obtain ⟨p1, e2, hF⟩ := hF
  refine eg_getR dX13_learn_218 e2 (Nat.le_of_ble_eq_true rfl) (Nat.le_of_ble_eq_true rfl) rfl ew_1454 ?_
  refine eg_iload (i := 5) 1 dX13_learn_221 rfl ?_
  refine eg_iload (i := 7) 3 dX13_learn_223 rfl ?_
  replace hF := eg_bind hF; obtain ⟨h3, e4, hF⟩ := hF
  refine eg_iast dX13_learn_225 e4 ?_
  refine eg_aload_n (i := 0) 0 dX13_learn_226 rfl rfl ?_
  replace hF := eg_bind hF; obtain ⟨p5, e6, hF⟩ := hF
  refine eg_getR dX13_learn_227 e6 (Nat.le_of_ble_eq_true rfl) (Nat.le_of_ble_eq_true rfl) rfl ew_1454 ?_
  refine eg_iload (i := 6) 2 dX13_learn_230 rfl ?_
  refine eg_iload (i := 8) 4 dX13_learn_232 rfl ?_
  replace hF := eg_bind hF; obtain ⟨h7, e8, hF⟩ := hF
  refine eg_iast dX13_learn_234 e8 ?_
  refine eg_iload (i := 9) 5 dX13_learn_235 rfl ?_
  exact eg_iretE dX13_learn_237 hF
def fX13_learn (h : eg_H) (l0 : Nat) (l1 : Int32) (l2 : Int32) (l3 : Int32) (l4 : Int32) : Option (Int32 × eg_H) :=
  if eg_isO h 13 l0 then (
    (eg_pI h 13 0 l0 (0 : Int32)).bind fun h1 =>
    (fX13_isTwo h1 l0 l1).bind fun ⟨v4, h3⟩ =>
    if v4 = 0 then
      (some ((-1 : Int32), h3))
    else
      (fX13_isFrom h3 l0 l2).bind fun ⟨v8, h7⟩ =>
      if v8 = 0 then
        (some ((-1 : Int32), h7))
      else
        (fX13_isIn h7 l3.toInt64 (0 : Int64) (60 : Int64)).bind fun ⟨v12, h11⟩ =>
        if v12 = 0 then
          (some ((-1 : Int32), h11))
        else
          (fX13_isIn h11 l4.toInt64 (0 : Int64) (1000000000 : Int64)).bind fun ⟨v16, h15⟩ =>
          if v16 = 0 then
            (some ((-1 : Int32), h15))
          else
            (some ((((4 : Int32) * (l1 / (10 : Int32))) + (3 : Int32)))).bind fun v19 =>
            (some ((((4 : Int32) * (l1 % (10 : Int32))) + (3 : Int32)))).bind fun v21 =>
            (eg_gR h15 13 20 l0).bind fun p23 =>
            (eg_aI h15 100 p23 v19).bind fun v25 =>
            (eg_gR h15 13 20 l0).bind fun p27 =>
            (eg_aI h15 100 p27 v21).bind fun v29 =>
            (fX13_learn_L92 eg_F h15 l0 l1 l2 l3 l4 v19 v21 v25 v29 (-1 : Int32) (0 : Int32)).bind fun e =>
            match e with
            | (p33, v34, v35, v36, v37, v38, h39) =>
              fX13_learn_j217 h39 p33 v34 v35 v36 v37 v38) else none
theorem fX13_learn_O {h : eg_H} {l0 : Nat} {l1 : Int32} {l2 : Int32} {l3 : Int32} {l4 : Int32} {rE : Int32} {hE : eg_H} (hF : fX13_learn h l0 l1 l2 l3 l4 = some (rE, hE)) : eg_isO h 13 l0 := (eg_ifn hF).1
set_option maxRecDepth 20000 in
theorem mX13_learn {h : eg_H} {l0 : Nat} {l1 : Int32} {l2 : Int32} {l3 : Int32} {l4 : Int32} {rE : Int32} {hE : eg_H} (hF : fX13_learn h l0 l1 l2 l3 l4 = some (rE, hE)) : eg_Met yX13_learn cX13_learn 12 (some .int) 399 [.ref l0, .int l1, .int l2, .int l3, .int l4] h (some (.int rE)) hE := by
  refine eg_enter rfl (Nat.le_of_ble_eq_true rfl) ?_
  show eg_AW (RX13, cX13_learn, 12, 399, none, "learn", (some .int)) (eg_Zm (some (.int rE)) hE h) (eg_nc hE) (eg_ns hE) h 0 [(0, .ref l0), (1, .int l1), (2, .int l2), (3, .int l3), (4, .int l4)] [] h
  replace hF := (eg_ifn hF).2
  refine eg_aload_n (i := 0) 0 dX13_learn_0 rfl rfl ?_
  refine eg_iconst (v := (0 : Int32)) dX13_learn_1 (by decide) ?_
  replace hF := eg_bind hF; obtain ⟨h1, e2, hF⟩ := hF
  refine eg_putI dX13_learn_2 e2 (Nat.le_of_ble_eq_true rfl) (Nat.le_of_ble_eq_true rfl) rfl ew_1434 (Or.inl rfl) ?_
  refine eg_aload_n (i := 0) 0 dX13_learn_5 rfl rfl ?_
  refine eg_iload_n (i := 1) 1 dX13_learn_6 rfl rfl ?_
  replace hF := eg_bind hF; obtain ⟨⟨v4, h3⟩, e5, hF⟩ := hF
  refine eg_callV (c := 13) (n := 1) [.int l1] dX13_learn_7 (mX13_isTwo e5) rfl (fX13_isTwo_O e5) (Nat.le_of_ble_eq_true rfl) rfl ew_1929 ew_1931 ew_76 ew_110 ew_1932 hy_X13_isTwo rfl (Nat.le_of_ble_eq_true rfl) (Nat.le_of_ble_eq_true rfl) (Nat.le_of_ble_eq_true rfl) ?_
  refine eg_if_eq 46 dX13_learn_10 rfl (fun c6 => ?_) (fun c6 => ?_)
  · replace hF := eg_it c6 hF
    refine eg_iconst (v := (-1 : Int32)) dX13_learn_46 (by decide) ?_
    exact eg_iretE dX13_learn_47 hF
  · replace hF := eg_if c6 hF
    refine eg_aload_n (i := 0) 0 dX13_learn_13 rfl rfl ?_
    refine eg_iload_n (i := 2) 2 dX13_learn_14 rfl rfl ?_
    replace hF := eg_bind hF; obtain ⟨⟨v8, h7⟩, e9, hF⟩ := hF
    refine eg_callV (c := 13) (n := 1) [.int l2] dX13_learn_15 (mX13_isFrom e9) rfl (fX13_isFrom_O e9) (Nat.le_of_ble_eq_true rfl) rfl ew_1933 ew_1935 ew_77 ew_110 ew_1936 hy_X13_isFrom rfl (Nat.le_of_ble_eq_true rfl) (Nat.le_of_ble_eq_true rfl) (Nat.le_of_ble_eq_true rfl) ?_
    refine eg_if_eq 46 dX13_learn_18 rfl (fun c10 => ?_) (fun c10 => ?_)
    · replace hF := eg_it c10 hF
      refine eg_iconst (v := (-1 : Int32)) dX13_learn_46 (by decide) ?_
      exact eg_iretE dX13_learn_47 hF
    · replace hF := eg_if c10 hF
      refine eg_iload_n (i := 3) 3 dX13_learn_21 rfl rfl ?_
      refine eg_i2l dX13_learn_22 ?_
      refine eg_lconst (v := (0 : Int64)) dX13_learn_23 (by decide) ?_
      refine eg_ldc2 (v := (60 : Int64)) dX13_learn_24 ew_1912 ?_
      replace hF := eg_bind hF; obtain ⟨⟨v12, h11⟩, e13, hF⟩ := hF
      refine eg_callS (n := 3) [.long l3.toInt64, .long (0 : Int64), .long (60 : Int64)] dX13_learn_27 (mX13_isIn e13) rfl ew_1697 ew_1698 ew_110 ew_1699 hy_X13_isIn.2 rfl (Nat.le_of_ble_eq_true rfl) (Nat.le_of_ble_eq_true rfl) (Nat.le_of_ble_eq_true rfl) ?_
      refine eg_if_eq 46 dX13_learn_30 rfl (fun c14 => ?_) (fun c14 => ?_)
      · replace hF := eg_it c14 hF
        refine eg_iconst (v := (-1 : Int32)) dX13_learn_46 (by decide) ?_
        exact eg_iretE dX13_learn_47 hF
      · replace hF := eg_if c14 hF
        refine eg_iload (i := 4) 4 dX13_learn_33 rfl ?_
        refine eg_i2l dX13_learn_35 ?_
        refine eg_lconst (v := (0 : Int64)) dX13_learn_36 (by decide) ?_
        refine eg_ldc2 (v := (1000000000 : Int64)) dX13_learn_37 ew_2041 ?_
        replace hF := eg_bind hF; obtain ⟨⟨v16, h15⟩, e17, hF⟩ := hF
        refine eg_callS (n := 3) [.long l4.toInt64, .long (0 : Int64), .long (1000000000 : Int64)] dX13_learn_40 (mX13_isIn e17) rfl ew_1697 ew_1698 ew_110 ew_1699 hy_X13_isIn.2 rfl (Nat.le_of_ble_eq_true rfl) (Nat.le_of_ble_eq_true rfl) (Nat.le_of_ble_eq_true rfl) ?_
        refine eg_if_ne 48 dX13_learn_43 rfl (fun c18 => ?_) (fun c18 => ?_)
        · replace hF := eg_it c18 hF
          refine eg_iconst (v := (-1 : Int32)) dX13_learn_46 (by decide) ?_
          exact eg_iretE dX13_learn_47 hF
        · replace hF := eg_if c18 hF
          refine eg_iconst (v := (4 : Int32)) dX13_learn_48 (by decide) ?_
          refine eg_iload_n (i := 1) 1 dX13_learn_49 rfl rfl ?_
          refine eg_bipush (v := (10 : Int32)) dX13_learn_50 (by decide) ?_
          refine eg_idiv dX13_learn_52 (by decide) ?_
          refine eg_imul dX13_learn_53 ?_
          refine eg_iconst (v := (3 : Int32)) dX13_learn_54 (by decide) ?_
          refine eg_iadd dX13_learn_55 ?_
          replace hF := eg_bind hF; obtain ⟨v19, e20, hF⟩ := hF
          replace e20 := Option.some.inj e20
          rw [e20]
          refine eg_istore (i := 5) [(5, .int v19), (0, .ref l0), (1, .int l1), (2, .int l2), (3, .int l3), (4, .int l4)] dX13_learn_56 (Nat.le_of_ble_eq_true rfl) rfl ?_
          refine eg_iconst (v := (4 : Int32)) dX13_learn_58 (by decide) ?_
          refine eg_iload_n (i := 1) 2 dX13_learn_59 rfl rfl ?_
          refine eg_bipush (v := (10 : Int32)) dX13_learn_60 (by decide) ?_
          refine eg_irem dX13_learn_62 (by decide) ?_
          refine eg_imul dX13_learn_63 ?_
          refine eg_iconst (v := (3 : Int32)) dX13_learn_64 (by decide) ?_
          refine eg_iadd dX13_learn_65 ?_
          replace hF := eg_bind hF; obtain ⟨v21, e22, hF⟩ := hF
          replace e22 := Option.some.inj e22
          rw [e22]
          refine eg_istore (i := 6) [(6, .int v21), (5, .int v19), (0, .ref l0), (1, .int l1), (2, .int l2), (3, .int l3), (4, .int l4)] dX13_learn_66 (Nat.le_of_ble_eq_true rfl) rfl ?_
          refine eg_aload_n (i := 0) 2 dX13_learn_68 rfl rfl ?_
          replace hF := eg_bind hF; obtain ⟨p23, e24, hF⟩ := hF
          refine eg_getR dX13_learn_69 e24 (Nat.le_of_ble_eq_true rfl) (Nat.le_of_ble_eq_true rfl) rfl ew_1454 ?_
          refine eg_iload (i := 5) 1 dX13_learn_72 rfl ?_
          replace hF := eg_bind hF; obtain ⟨v25, e26, hF⟩ := hF
          refine eg_iald dX13_learn_74 e26 ?_
          refine eg_istore (i := 7) [(7, .int v25), (6, .int v21), (5, .int v19), (0, .ref l0), (1, .int l1), (2, .int l2), (3, .int l3), (4, .int l4)] dX13_learn_75 (Nat.le_of_ble_eq_true rfl) rfl ?_
          refine eg_aload_n (i := 0) 3 dX13_learn_77 rfl rfl ?_
          replace hF := eg_bind hF; obtain ⟨p27, e28, hF⟩ := hF
          refine eg_getR dX13_learn_78 e28 (Nat.le_of_ble_eq_true rfl) (Nat.le_of_ble_eq_true rfl) rfl ew_1454 ?_
          refine eg_iload (i := 6) 1 dX13_learn_81 rfl ?_
          replace hF := eg_bind hF; obtain ⟨v29, e30, hF⟩ := hF
          refine eg_iald dX13_learn_83 e30 ?_
          refine eg_istore (i := 8) [(8, .int v29), (7, .int v25), (6, .int v21), (5, .int v19), (0, .ref l0), (1, .int l1), (2, .int l2), (3, .int l3), (4, .int l4)] dX13_learn_84 (Nat.le_of_ble_eq_true rfl) rfl ?_
          refine eg_iconst (v := (-1 : Int32)) dX13_learn_86 (by decide) ?_
          refine eg_istore (i := 9) [(9, .int (-1 : Int32)), (8, .int v29), (7, .int v25), (6, .int v21), (5, .int v19), (0, .ref l0), (1, .int l1), (2, .int l2), (3, .int l3), (4, .int l4)] dX13_learn_87 (Nat.le_of_ble_eq_true rfl) rfl ?_
          refine eg_iconst (v := (0 : Int32)) dX13_learn_89 (by decide) ?_
          refine eg_istore (i := 10) [(10, .int (0 : Int32)), (9, .int (-1 : Int32)), (8, .int v29), (7, .int v25), (6, .int v21), (5, .int v19), (0, .ref l0), (1, .int l1), (2, .int l2), (3, .int l3), (4, .int l4)] dX13_learn_90 (Nat.le_of_ble_eq_true rfl) rfl ?_
          replace hF := eg_bind hF; obtain ⟨x32, e31, hF⟩ := hF
          refine eg_sub [6, 7, 8, 9, 10, 5, 4, 3, 2, 1, 0] [(0, .ref l0), (1, .int l1), (2, .int l2), (3, .int l3), (4, .int l4), (5, .int v19), (6, .int v21), (7, .int v25), (8, .int v29), (9, .int (-1 : Int32)), (10, .int (0 : Int32))] rfl (fX13_learn_L92_ok eg_F h15 l0 l1 l2 l3 l4 v19 v21 v25 v29 (-1 : Int32) (0 : Int32) x32 e31 ?_)
          · intro p33 v34 v35 v36 v37 v38 h39 e40
            subst e40
            exact (fX13_learn_j217_ok h39 p33 v34 v35 v36 v37 v38 hF)
