theorem dX13_arms_0 : decode cX13_arms 0 = .ok (.aload_n 0, 1) := by decide +kernel
theorem dX13_arms_1 : decode cX13_arms 1 = .ok (.iconst 0, 1) := by decide +kernel
theorem dX13_arms_2 : decode cX13_arms 2 = .ok (.putfield 148, 3) := by decide +kernel
theorem dX13_arms_5 : decode cX13_arms 5 = .ok (.aload_n 0, 1) := by decide +kernel
theorem dX13_arms_6 : decode cX13_arms 6 = .ok (.iload_n 1, 1) := by decide +kernel
theorem dX13_arms_7 : decode cX13_arms 7 = .ok (.invokevirtual 405, 3) := by decide +kernel
theorem dX13_arms_10 : decode cX13_arms 10 = .ok (.ifCond .eq 46, 3) := by decide +kernel
theorem dX13_arms_13 : decode cX13_arms 13 = .ok (.aload_n 0, 1) := by decide +kernel
theorem dX13_arms_14 : decode cX13_arms 14 = .ok (.iload_n 2, 1) := by decide +kernel
theorem dX13_arms_15 : decode cX13_arms 15 = .ok (.invokevirtual 408, 3) := by decide +kernel
theorem dX13_arms_18 : decode cX13_arms 18 = .ok (.ifCond .eq 38, 3) := by decide +kernel
theorem dX13_arms_21 : decode cX13_arms 21 = .ok (.iload_n 3, 1) := by decide +kernel
theorem dX13_arms_22 : decode cX13_arms 22 = .ok (.i2l, 1) := by decide +kernel
theorem dX13_arms_23 : decode cX13_arms 23 = .ok (.lconst 1, 1) := by decide +kernel
theorem dX13_arms_24 : decode cX13_arms 24 = .ok (.ldc2_w 380, 3) := by decide +kernel
theorem dX13_arms_27 : decode cX13_arms 27 = .ok (.invokestatic 269, 3) := by decide +kernel
theorem dX13_arms_30 : decode cX13_arms 30 = .ok (.ifCond .eq 26, 3) := by decide +kernel
theorem dX13_arms_33 : decode cX13_arms 33 = .ok (.aload_n 0, 1) := by decide +kernel
theorem dX13_arms_34 : decode cX13_arms 34 = .ok (.iload_n 1, 1) := by decide +kernel
theorem dX13_arms_35 : decode cX13_arms 35 = .ok (.iload 4, 2) := by decide +kernel
theorem dX13_arms_37 : decode cX13_arms 37 = .ok (.invokevirtual 411, 3) := by decide +kernel
theorem dX13_arms_40 : decode cX13_arms 40 = .ok (.ifCond .eq 16, 3) := by decide +kernel
theorem dX13_arms_43 : decode cX13_arms 43 = .ok (.iload 5, 2) := by decide +kernel
theorem dX13_arms_45 : decode cX13_arms 45 = .ok (.i2l, 1) := by decide +kernel
theorem dX13_arms_46 : decode cX13_arms 46 = .ok (.lconst 0, 1) := by decide +kernel
theorem dX13_arms_47 : decode cX13_arms 47 = .ok (.ldc2_w 463, 3) := by decide +kernel
theorem dX13_arms_50 : decode cX13_arms 50 = .ok (.invokestatic 269, 3) := by decide +kernel
theorem dX13_arms_53 : decode cX13_arms 53 = .ok (.ifCond .ne 5, 3) := by decide +kernel
theorem dX13_arms_56 : decode cX13_arms 56 = .ok (.iconst (-1), 1) := by decide +kernel
theorem dX13_arms_57 : decode cX13_arms 57 = .ok (.ireturn, 1) := by decide +kernel
theorem dX13_arms_58 : decode cX13_arms 58 = .ok (.iconst 4, 1) := by decide +kernel
theorem dX13_arms_59 : decode cX13_arms 59 = .ok (.iload_n 1, 1) := by decide +kernel
theorem dX13_arms_60 : decode cX13_arms 60 = .ok (.bipush 10, 2) := by decide +kernel
theorem dX13_arms_62 : decode cX13_arms 62 = .ok (.irem, 1) := by decide +kernel
theorem dX13_arms_63 : decode cX13_arms 63 = .ok (.imul, 1) := by decide +kernel
theorem dX13_arms_64 : decode cX13_arms 64 = .ok (.iconst 1, 1) := by decide +kernel
theorem dX13_arms_65 : decode cX13_arms 65 = .ok (.iadd, 1) := by decide +kernel
theorem dX13_arms_66 : decode cX13_arms 66 = .ok (.istore 6, 2) := by decide +kernel
theorem dX13_arms_68 : decode cX13_arms 68 = .ok (.aload_n 0, 1) := by decide +kernel
theorem dX13_arms_69 : decode cX13_arms 69 = .ok (.getfield 43, 3) := by decide +kernel
theorem dX13_arms_72 : decode cX13_arms 72 = .ok (.iload 6, 2) := by decide +kernel
theorem dX13_arms_74 : decode cX13_arms 74 = .ok (.iaload, 1) := by decide +kernel
theorem dX13_arms_75 : decode cX13_arms 75 = .ok (.istore 7, 2) := by decide +kernel
theorem dX13_arms_77 : decode cX13_arms 77 = .ok (.iconst 0, 1) := by decide +kernel
theorem dX13_arms_78 : decode cX13_arms 78 = .ok (.istore 8, 2) := by decide +kernel
theorem dX13_arms_80 : decode cX13_arms 80 = .ok (.iconst 0, 1) := by decide +kernel
theorem dX13_arms_81 : decode cX13_arms 81 = .ok (.istore 9, 2) := by decide +kernel
theorem dX13_arms_83 : decode cX13_arms 83 = .ok (.iload 9, 2) := by decide +kernel
theorem dX13_arms_85 : decode cX13_arms 85 = .ok (.bipush 10, 2) := by decide +kernel
theorem dX13_arms_87 : decode cX13_arms 87 = .ok (.if_icmp .ge 45, 3) := by decide +kernel
theorem dX13_arms_90 : decode cX13_arms 90 = .ok (.aload_n 0, 1) := by decide +kernel
theorem dX13_arms_91 : decode cX13_arms 91 = .ok (.getfield 43, 3) := by decide +kernel
theorem dX13_arms_94 : decode cX13_arms 94 = .ok (.iload 6, 2) := by decide +kernel
theorem dX13_arms_96 : decode cX13_arms 96 = .ok (.iload 9, 2) := by decide +kernel
theorem dX13_arms_98 : decode cX13_arms 98 = .ok (.iastore, 1) := by decide +kernel
theorem dX13_arms_99 : decode cX13_arms 99 = .ok (.iload 8, 2) := by decide +kernel
theorem dX13_arms_101 : decode cX13_arms 101 = .ok (.aload_n 0, 1) := by decide +kernel
theorem dX13_arms_102 : decode cX13_arms 102 = .ok (.iload_n 1, 1) := by decide +kernel
theorem dX13_arms_103 : decode cX13_arms 103 = .ok (.iload_n 2, 1) := by decide +kernel
theorem dX13_arms_104 : decode cX13_arms 104 = .ok (.iload_n 3, 1) := by decide +kernel
theorem dX13_arms_105 : decode cX13_arms 105 = .ok (.iload 4, 2) := by decide +kernel
theorem dX13_arms_107 : decode cX13_arms 107 = .ok (.invokevirtual 414, 3) := by decide +kernel
theorem dX13_arms_110 : decode cX13_arms 110 = .ok (.iload 5, 2) := by decide +kernel
theorem dX13_arms_112 : decode cX13_arms 112 = .ok (.if_icmp .lt 10, 3) := by decide +kernel
theorem dX13_arms_115 : decode cX13_arms 115 = .ok (.iconst 1, 1) := by decide +kernel
theorem dX13_arms_116 : decode cX13_arms 116 = .ok (.iload 9, 2) := by decide +kernel
theorem dX13_arms_118 : decode cX13_arms 118 = .ok (.ishl, 1) := by decide +kernel
theorem dX13_arms_119 : decode cX13_arms 119 = .ok (.goto 4, 3) := by decide +kernel
theorem dX13_arms_122 : decode cX13_arms 122 = .ok (.iconst 0, 1) := by decide +kernel
theorem dX13_arms_123 : decode cX13_arms 123 = .ok (.ior, 1) := by decide +kernel
theorem dX13_arms_124 : decode cX13_arms 124 = .ok (.istore 8, 2) := by decide +kernel
theorem dX13_arms_126 : decode cX13_arms 126 = .ok (.iinc 9 1, 3) := by decide +kernel
theorem dX13_arms_129 : decode cX13_arms 129 = .ok (.goto (-46), 3) := by decide +kernel
theorem dX13_arms_132 : decode cX13_arms 132 = .ok (.aload_n 0, 1) := by decide +kernel
theorem dX13_arms_133 : decode cX13_arms 133 = .ok (.getfield 43, 3) := by decide +kernel
theorem dX13_arms_136 : decode cX13_arms 136 = .ok (.iload 6, 2) := by decide +kernel
theorem dX13_arms_138 : decode cX13_arms 138 = .ok (.iload 7, 2) := by decide +kernel
theorem dX13_arms_140 : decode cX13_arms 140 = .ok (.iastore, 1) := by decide +kernel
theorem dX13_arms_141 : decode cX13_arms 141 = .ok (.iload 8, 2) := by decide +kernel
theorem dX13_arms_143 : decode cX13_arms 143 = .ok (.ireturn, 1) := by decide +kernel
def fX13_arms_L83 : Nat → eg_H → Nat → Int32 → Int32 → Int32 → Int32 → Int32 → Int32 → Int32 → Int32 → Int32 → Option (Nat × Int32 × Int32 × Int32 × eg_H)
  | 0, _, _, _, _, _, _, _, _, _, _, _ => none
  | n + 1, h, l0, l1, l2, l3, l4, l5, l6, l7, l8, l9 =>
    if (10 : Int32) ≤ l9 then
      (some (l0, l6, l7, l8, h))
    else
      (eg_gR h 13 20 l0).bind fun p2 =>
      (eg_wI h 100 p2 l6 l9).bind fun h4 =>
      (fX13_goodOf h4 l0 l1 l2 l3 l4).bind fun ⟨v7, h6⟩ =>
      if v7 < l5 then
        ((some ((l8 ||| (0 : Int32)))).bind fun v10 =>
        fX13_arms_L83 n h6 l0 l1 l2 l3 l4 l5 l6 l7 v10 (l9 + (1 : Int32)))
      else
        (some ((l8 ||| ((1 : Int32) <<< (l9 &&& 31))))).bind fun v12 =>
        fX13_arms_L83 n h6 l0 l1 l2 l3 l4 l5 l6 l7 v12 (l9 + (1 : Int32))
set_option maxRecDepth 20000 in
theorem fX13_arms_L83_ok {h0 : eg_H} {Z : eg_C → State → Prop} {N S : Nat} : ∀ (n : Nat) (h : eg_H) (l0 : Nat) (l1 : Int32) (l2 : Int32) (l3 : Int32) (l4 : Int32) (l5 : Int32) (l6 : Int32) (l7 : Int32) (l8 : Int32) (l9 : Int32) (eE : Nat × Int32 × Int32 × Int32 × eg_H), fX13_arms_L83 n h l0 l1 l2 l3 l4 l5 l6 l7 l8 l9 = some eE → (hk0 : ∀ (l0 : Nat) (l6 : Int32) (l7 : Int32) (l8 : Int32) (h : eg_H), eE = (l0, l6, l7, l8, h) → eg_AW (RX13, cX13_arms, 10, 398, none, "arms", (some .int)) Z N S h0 132 [(0, .ref l0), (6, .int l6), (7, .int l7), (8, .int l8)] [] h) → eg_AW (RX13, cX13_arms, 10, 398, none, "arms", (some .int)) Z N S h0 83 [(0, .ref l0), (1, .int l1), (2, .int l2), (3, .int l3), (4, .int l4), (5, .int l5), (6, .int l6), (7, .int l7), (8, .int l8), (9, .int l9)] [] h := by
  intro n
  induction n with
  | zero => intro h l0 l1 l2 l3 l4 l5 l6 l7 l8 l9 eE hF; exact absurd hF (by intro q; cases q)
  | succ n ih =>
    intro h l0 l1 l2 l3 l4 l5 l6 l7 l8 l9 eE hF hk0
    have hrec := fun (h' : eg_H) (l0 : Nat) (l1 : Int32) (l2 : Int32) (l3 : Int32) (l4 : Int32) (l5 : Int32) (l6 : Int32) (l7 : Int32) (l8 : Int32) (l9 : Int32) hq => ih h' l0 l1 l2 l3 l4 l5 l6 l7 l8 l9 eE hq hk0
    refine eg_iload (i := 9) 9 dX13_arms_83 rfl ?_
    refine eg_bipush (v := (10 : Int32)) dX13_arms_85 (by decide) ?_
    refine eg_ic_ge 132 dX13_arms_87 rfl (fun c1 => ?_) (fun c1 => ?_)
    · replace hF := eg_it c1 hF
      exact eg_sub [0, 6, 7, 8] [(0, .ref l0), (6, .int l6), (7, .int l7), (8, .int l8)] rfl (hk0 l0 l6 l7 l8 h (Option.some.inj hF).symm)
    · replace hF := eg_if c1 hF
      refine eg_aload_n (i := 0) 0 dX13_arms_90 rfl rfl ?_
      replace hF := eg_bind hF; obtain ⟨p2, e3, hF⟩ := hF
      refine eg_getR dX13_arms_91 e3 (Nat.le_of_ble_eq_true rfl) (Nat.le_of_ble_eq_true rfl) rfl ew_1454 ?_
      refine eg_iload (i := 6) 6 dX13_arms_94 rfl ?_
      refine eg_iload (i := 9) 9 dX13_arms_96 rfl ?_
      replace hF := eg_bind hF; obtain ⟨h4, e5, hF⟩ := hF
      refine eg_iast dX13_arms_98 e5 ?_
      refine eg_iload (i := 8) 8 dX13_arms_99 rfl ?_
      refine eg_aload_n (i := 0) 0 dX13_arms_101 rfl rfl ?_
      refine eg_iload_n (i := 1) 1 dX13_arms_102 rfl rfl ?_
      refine eg_iload_n (i := 2) 2 dX13_arms_103 rfl rfl ?_
      refine eg_iload_n (i := 3) 3 dX13_arms_104 rfl rfl ?_
      refine eg_iload (i := 4) 4 dX13_arms_105 rfl ?_
      replace hF := eg_bind hF; obtain ⟨⟨v7, h6⟩, e8, hF⟩ := hF
      refine eg_callV (c := 13) (n := 4) [.int l1, .int l2, .int l3, .int l4] dX13_arms_107 (mX13_goodOf e8) rfl (fX13_goodOf_O e8) (Nat.le_of_ble_eq_true rfl) rfl ew_1941 ew_1943 ew_79 ew_110 ew_1944 hy_X13_goodOf rfl (Nat.le_of_ble_eq_true rfl) (Nat.le_of_ble_eq_true rfl) (Nat.le_of_ble_eq_true rfl) ?_
      refine eg_iload (i := 5) 5 dX13_arms_110 rfl ?_
      refine eg_ic_lt 122 dX13_arms_112 rfl (fun c9 => ?_) (fun c9 => ?_)
      · replace hF := eg_it c9 hF
        refine eg_iconst (v := (0 : Int32)) dX13_arms_122 (by decide) ?_
        refine eg_ior dX13_arms_123 ?_
        replace hF := eg_bind hF; obtain ⟨v10, e11, hF⟩ := hF
        replace e11 := Option.some.inj e11
        rw [e11]
        refine eg_istore (i := 8) [(8, .int v10), (0, .ref l0), (1, .int l1), (2, .int l2), (3, .int l3), (4, .int l4), (5, .int l5), (6, .int l6), (7, .int l7), (9, .int l9)] dX13_arms_124 (Nat.le_of_ble_eq_true rfl) rfl ?_
        refine eg_iinc (i := 9) (v := (l9 + (1 : Int32))) 9 [(9, .int (l9 + (1 : Int32))), (8, .int v10), (0, .ref l0), (1, .int l1), (2, .int l2), (3, .int l3), (4, .int l4), (5, .int l5), (6, .int l6), (7, .int l7)] dX13_arms_126 rfl rfl (Nat.le_of_ble_eq_true rfl) rfl ?_
        refine eg_goto 83 dX13_arms_129 rfl ?_
        exact eg_sub [2, 3, 4, 5, 6, 7, 8, 9, 1, 0] [(0, .ref l0), (1, .int l1), (2, .int l2), (3, .int l3), (4, .int l4), (5, .int l5), (6, .int l6), (7, .int l7), (8, .int v10), (9, .int (l9 + (1 : Int32)))] rfl (hrec h6 l0 l1 l2 l3 l4 l5 l6 l7 v10 (l9 + (1 : Int32)) hF)
      · replace hF := eg_if c9 hF
        refine eg_iconst (v := (1 : Int32)) dX13_arms_115 (by decide) ?_
        refine eg_iload (i := 9) 9 dX13_arms_116 rfl ?_
        refine eg_ishl dX13_arms_118 ?_
        refine eg_goto 123 dX13_arms_119 rfl ?_
        refine eg_ior dX13_arms_123 ?_
        replace hF := eg_bind hF; obtain ⟨v12, e13, hF⟩ := hF
        replace e13 := Option.some.inj e13
        rw [e13]
        refine eg_istore (i := 8) [(8, .int v12), (0, .ref l0), (1, .int l1), (2, .int l2), (3, .int l3), (4, .int l4), (5, .int l5), (6, .int l6), (7, .int l7), (9, .int l9)] dX13_arms_124 (Nat.le_of_ble_eq_true rfl) rfl ?_
        refine eg_iinc (i := 9) (v := (l9 + (1 : Int32))) 9 [(9, .int (l9 + (1 : Int32))), (8, .int v12), (0, .ref l0), (1, .int l1), (2, .int l2), (3, .int l3), (4, .int l4), (5, .int l5), (6, .int l6), (7, .int l7)] dX13_arms_126 rfl rfl (Nat.le_of_ble_eq_true rfl) rfl ?_
        refine eg_goto 83 dX13_arms_129 rfl ?_
        exact eg_sub [2, 3, 4, 5, 6, 7, 8, 9, 1, 0] [(0, .ref l0), (1, .int l1), (2, .int l2), (3, .int l3), (4, .int l4), (5, .int l5), (6, .int l6), (7, .int l7), (8, .int v12), (9, .int (l9 + (1 : Int32)))] rfl (hrec h6 l0 l1 l2 l3 l4 l5 l6 l7 v12 (l9 + (1 : Int32)) hF)
def fX13_arms (h : eg_H) (l0 : Nat) (l1 : Int32) (l2 : Int32) (l3 : Int32) (l4 : Int32) (l5 : Int32) : Option (Int32 × eg_H) :=
  if eg_isO h 13 l0 then (
    (eg_pI h 13 0 l0 (0 : Int32)).bind fun h1 =>
    (fX13_isTwo h1 l0 l1).bind fun ⟨v4, h3⟩ =>
    if v4 = 0 then
      (some ((-1 : Int32), h3))
    else
      (fX13_isFrom h3 l0 l2).bind fun ⟨v8, h7⟩ =>
      if v8 = 0 then
        (some ((-1 : Int32), h7))
      else
        (fX13_isIn h7 l3.toInt64 (1 : Int64) (60 : Int64)).bind fun ⟨v12, h11⟩ =>
        if v12 = 0 then
          (some ((-1 : Int32), h11))
        else
          (fX13_isHow h11 l0 l1 l4).bind fun ⟨v16, h15⟩ =>
          if v16 = 0 then
            (some ((-1 : Int32), h15))
          else
            (fX13_isIn h15 l5.toInt64 (0 : Int64) (11 : Int64)).bind fun ⟨v20, h19⟩ =>
            if v20 = 0 then
              (some ((-1 : Int32), h19))
            else
              (some ((((4 : Int32) * (l1 % (10 : Int32))) + (1 : Int32)))).bind fun v23 =>
              (eg_gR h19 13 20 l0).bind fun p25 =>
              (eg_aI h19 100 p25 v23).bind fun v27 =>
              (fX13_arms_L83 eg_F h19 l0 l1 l2 l3 l4 l5 v23 v27 (0 : Int32) (0 : Int32)).bind fun e =>
              match e with
              | (p31, v32, v33, v34, h35) =>
                (eg_gR h35 13 20 p31).bind fun p36 =>
                (eg_wI h35 100 p36 v32 v33).bind fun h38 =>
                some (v34, h38)) else none
theorem fX13_arms_O {h : eg_H} {l0 : Nat} {l1 : Int32} {l2 : Int32} {l3 : Int32} {l4 : Int32} {l5 : Int32} {rE : Int32} {hE : eg_H} (hF : fX13_arms h l0 l1 l2 l3 l4 l5 = some (rE, hE)) : eg_isO h 13 l0 := (eg_ifn hF).1
set_option maxRecDepth 20000 in
theorem mX13_arms {h : eg_H} {l0 : Nat} {l1 : Int32} {l2 : Int32} {l3 : Int32} {l4 : Int32} {l5 : Int32} {rE : Int32} {hE : eg_H} (hF : fX13_arms h l0 l1 l2 l3 l4 l5 = some (rE, hE)) : eg_Met yX13_arms cX13_arms 10 (some .int) 398 [.ref l0, .int l1, .int l2, .int l3, .int l4, .int l5] h (some (.int rE)) hE := by
  refine eg_enter rfl (Nat.le_of_ble_eq_true rfl) ?_
  show eg_AW (RX13, cX13_arms, 10, 398, none, "arms", (some .int)) (eg_Zm (some (.int rE)) hE h) (eg_nc hE) (eg_ns hE) h 0 [(0, .ref l0), (1, .int l1), (2, .int l2), (3, .int l3), (4, .int l4), (5, .int l5)] [] h
  replace hF := (eg_ifn hF).2
  refine eg_aload_n (i := 0) 0 dX13_arms_0 rfl rfl ?_
  refine eg_iconst (v := (0 : Int32)) dX13_arms_1 (by decide) ?_
  replace hF := eg_bind hF; obtain ⟨h1, e2, hF⟩ := hF
  refine eg_putI dX13_arms_2 e2 (Nat.le_of_ble_eq_true rfl) (Nat.le_of_ble_eq_true rfl) rfl ew_1434 (Or.inl rfl) ?_
  refine eg_aload_n (i := 0) 0 dX13_arms_5 rfl rfl ?_
  refine eg_iload_n (i := 1) 1 dX13_arms_6 rfl rfl ?_
  replace hF := eg_bind hF; obtain ⟨⟨v4, h3⟩, e5, hF⟩ := hF
  refine eg_callV (c := 13) (n := 1) [.int l1] dX13_arms_7 (mX13_isTwo e5) rfl (fX13_isTwo_O e5) (Nat.le_of_ble_eq_true rfl) rfl ew_1929 ew_1931 ew_76 ew_110 ew_1932 hy_X13_isTwo rfl (Nat.le_of_ble_eq_true rfl) (Nat.le_of_ble_eq_true rfl) (Nat.le_of_ble_eq_true rfl) ?_
  refine eg_if_eq 56 dX13_arms_10 rfl (fun c6 => ?_) (fun c6 => ?_)
  · replace hF := eg_it c6 hF
    refine eg_iconst (v := (-1 : Int32)) dX13_arms_56 (by decide) ?_
    exact eg_iretE dX13_arms_57 hF
  · replace hF := eg_if c6 hF
    refine eg_aload_n (i := 0) 0 dX13_arms_13 rfl rfl ?_
    refine eg_iload_n (i := 2) 2 dX13_arms_14 rfl rfl ?_
    replace hF := eg_bind hF; obtain ⟨⟨v8, h7⟩, e9, hF⟩ := hF
    refine eg_callV (c := 13) (n := 1) [.int l2] dX13_arms_15 (mX13_isFrom e9) rfl (fX13_isFrom_O e9) (Nat.le_of_ble_eq_true rfl) rfl ew_1933 ew_1935 ew_77 ew_110 ew_1936 hy_X13_isFrom rfl (Nat.le_of_ble_eq_true rfl) (Nat.le_of_ble_eq_true rfl) (Nat.le_of_ble_eq_true rfl) ?_
    refine eg_if_eq 56 dX13_arms_18 rfl (fun c10 => ?_) (fun c10 => ?_)
    · replace hF := eg_it c10 hF
      refine eg_iconst (v := (-1 : Int32)) dX13_arms_56 (by decide) ?_
      exact eg_iretE dX13_arms_57 hF
    · replace hF := eg_if c10 hF
      refine eg_iload_n (i := 3) 3 dX13_arms_21 rfl rfl ?_
      refine eg_i2l dX13_arms_22 ?_
      refine eg_lconst (v := (1 : Int64)) dX13_arms_23 (by decide) ?_
      refine eg_ldc2 (v := (60 : Int64)) dX13_arms_24 ew_1912 ?_
      replace hF := eg_bind hF; obtain ⟨⟨v12, h11⟩, e13, hF⟩ := hF
      refine eg_callS (n := 3) [.long l3.toInt64, .long (1 : Int64), .long (60 : Int64)] dX13_arms_27 (mX13_isIn e13) rfl ew_1697 ew_1698 ew_110 ew_1699 hy_X13_isIn.2 rfl (Nat.le_of_ble_eq_true rfl) (Nat.le_of_ble_eq_true rfl) (Nat.le_of_ble_eq_true rfl) ?_
      refine eg_if_eq 56 dX13_arms_30 rfl (fun c14 => ?_) (fun c14 => ?_)
      · replace hF := eg_it c14 hF
        refine eg_iconst (v := (-1 : Int32)) dX13_arms_56 (by decide) ?_
        exact eg_iretE dX13_arms_57 hF
      · replace hF := eg_if c14 hF
        refine eg_aload_n (i := 0) 0 dX13_arms_33 rfl rfl ?_
        refine eg_iload_n (i := 1) 1 dX13_arms_34 rfl rfl ?_
        refine eg_iload (i := 4) 4 dX13_arms_35 rfl ?_
        replace hF := eg_bind hF; obtain ⟨⟨v16, h15⟩, e17, hF⟩ := hF
        refine eg_callV (c := 13) (n := 2) [.int l1, .int l4] dX13_arms_37 (mX13_isHow e17) rfl (fX13_isHow_O e17) (Nat.le_of_ble_eq_true rfl) rfl ew_1937 ew_1939 ew_78 ew_110 ew_1940 hy_X13_isHow rfl (Nat.le_of_ble_eq_true rfl) (Nat.le_of_ble_eq_true rfl) (Nat.le_of_ble_eq_true rfl) ?_
        refine eg_if_eq 56 dX13_arms_40 rfl (fun c18 => ?_) (fun c18 => ?_)
        · replace hF := eg_it c18 hF
          refine eg_iconst (v := (-1 : Int32)) dX13_arms_56 (by decide) ?_
          exact eg_iretE dX13_arms_57 hF
        · replace hF := eg_if c18 hF
          refine eg_iload (i := 5) 5 dX13_arms_43 rfl ?_
          refine eg_i2l dX13_arms_45 ?_
          refine eg_lconst (v := (0 : Int64)) dX13_arms_46 (by decide) ?_
          refine eg_ldc2 (v := (11 : Int64)) dX13_arms_47 ew_2024 ?_
          replace hF := eg_bind hF; obtain ⟨⟨v20, h19⟩, e21, hF⟩ := hF
          refine eg_callS (n := 3) [.long l5.toInt64, .long (0 : Int64), .long (11 : Int64)] dX13_arms_50 (mX13_isIn e21) rfl ew_1697 ew_1698 ew_110 ew_1699 hy_X13_isIn.2 rfl (Nat.le_of_ble_eq_true rfl) (Nat.le_of_ble_eq_true rfl) (Nat.le_of_ble_eq_true rfl) ?_
          refine eg_if_ne 58 dX13_arms_53 rfl (fun c22 => ?_) (fun c22 => ?_)
          · replace hF := eg_it c22 hF
            refine eg_iconst (v := (-1 : Int32)) dX13_arms_56 (by decide) ?_
            exact eg_iretE dX13_arms_57 hF
          · replace hF := eg_if c22 hF
            refine eg_iconst (v := (4 : Int32)) dX13_arms_58 (by decide) ?_
            refine eg_iload_n (i := 1) 1 dX13_arms_59 rfl rfl ?_
            refine eg_bipush (v := (10 : Int32)) dX13_arms_60 (by decide) ?_
            refine eg_irem dX13_arms_62 (by decide) ?_
            refine eg_imul dX13_arms_63 ?_
            refine eg_iconst (v := (1 : Int32)) dX13_arms_64 (by decide) ?_
            refine eg_iadd dX13_arms_65 ?_
            replace hF := eg_bind hF; obtain ⟨v23, e24, hF⟩ := hF
            replace e24 := Option.some.inj e24
            rw [e24]
            refine eg_istore (i := 6) [(6, .int v23), (0, .ref l0), (1, .int l1), (2, .int l2), (3, .int l3), (4, .int l4), (5, .int l5)] dX13_arms_66 (Nat.le_of_ble_eq_true rfl) rfl ?_
            refine eg_aload_n (i := 0) 1 dX13_arms_68 rfl rfl ?_
            replace hF := eg_bind hF; obtain ⟨p25, e26, hF⟩ := hF
            refine eg_getR dX13_arms_69 e26 (Nat.le_of_ble_eq_true rfl) (Nat.le_of_ble_eq_true rfl) rfl ew_1454 ?_
            refine eg_iload (i := 6) 0 dX13_arms_72 rfl ?_
            replace hF := eg_bind hF; obtain ⟨v27, e28, hF⟩ := hF
            refine eg_iald dX13_arms_74 e28 ?_
            refine eg_istore (i := 7) [(7, .int v27), (6, .int v23), (0, .ref l0), (1, .int l1), (2, .int l2), (3, .int l3), (4, .int l4), (5, .int l5)] dX13_arms_75 (Nat.le_of_ble_eq_true rfl) rfl ?_
            refine eg_iconst (v := (0 : Int32)) dX13_arms_77 (by decide) ?_
            refine eg_istore (i := 8) [(8, .int (0 : Int32)), (7, .int v27), (6, .int v23), (0, .ref l0), (1, .int l1), (2, .int l2), (3, .int l3), (4, .int l4), (5, .int l5)] dX13_arms_78 (Nat.le_of_ble_eq_true rfl) rfl ?_
            refine eg_iconst (v := (0 : Int32)) dX13_arms_80 (by decide) ?_
            refine eg_istore (i := 9) [(9, .int (0 : Int32)), (8, .int (0 : Int32)), (7, .int v27), (6, .int v23), (0, .ref l0), (1, .int l1), (2, .int l2), (3, .int l3), (4, .int l4), (5, .int l5)] dX13_arms_81 (Nat.le_of_ble_eq_true rfl) rfl ?_
            replace hF := eg_bind hF; obtain ⟨x30, e29, hF⟩ := hF
            refine eg_sub [4, 5, 6, 7, 8, 9, 3, 2, 1, 0] [(0, .ref l0), (1, .int l1), (2, .int l2), (3, .int l3), (4, .int l4), (5, .int l5), (6, .int v23), (7, .int v27), (8, .int (0 : Int32)), (9, .int (0 : Int32))] rfl (fX13_arms_L83_ok eg_F h19 l0 l1 l2 l3 l4 l5 v23 v27 (0 : Int32) (0 : Int32) x30 e29 ?_)
            · intro p31 v32 v33 v34 h35 e40
              subst e40
              refine eg_aload_n (i := 0) 0 dX13_arms_132 rfl rfl ?_
              replace hF := eg_bind hF; obtain ⟨p36, e37, hF⟩ := hF
              refine eg_getR dX13_arms_133 e37 (Nat.le_of_ble_eq_true rfl) (Nat.le_of_ble_eq_true rfl) rfl ew_1454 ?_
              refine eg_iload (i := 6) 1 dX13_arms_136 rfl ?_
              refine eg_iload (i := 7) 2 dX13_arms_138 rfl ?_
              replace hF := eg_bind hF; obtain ⟨h38, e39, hF⟩ := hF
              refine eg_iast dX13_arms_140 e39 ?_
              refine eg_iload (i := 8) 3 dX13_arms_141 rfl ?_
              exact eg_iretE dX13_arms_143 hF
theorem dX13_gainOf_0 : decode cX13_gainOf 0 = .ok (.aload_n 0, 1) := by decide +kernel
theorem dX13_gainOf_1 : decode cX13_gainOf 1 = .ok (.getfield 37, 3) := by decide +kernel
theorem dX13_gainOf_4 : decode cX13_gainOf 4 = .ok (.iconst 3, 1) := by decide +kernel
theorem dX13_gainOf_5 : decode cX13_gainOf 5 = .ok (.iaload, 1) := by decide +kernel
theorem dX13_gainOf_6 : decode cX13_gainOf 6 = .ok (.iload_n 3, 1) := by decide +kernel
theorem dX13_gainOf_7 : decode cX13_gainOf 7 = .ok (.iconst 1, 1) := by decide +kernel
theorem dX13_gainOf_8 : decode cX13_gainOf 8 = .ok (.isub, 1) := by decide +kernel
theorem dX13_gainOf_9 : decode cX13_gainOf 9 = .ok (.iload 4, 2) := by decide +kernel
theorem dX13_gainOf_11 : decode cX13_gainOf 11 = .ok (.imul, 1) := by decide +kernel
theorem dX13_gainOf_12 : decode cX13_gainOf 12 = .ok (.iadd, 1) := by decide +kernel
theorem dX13_gainOf_13 : decode cX13_gainOf 13 = .ok (.istore 5, 2) := by decide +kernel
theorem dX13_gainOf_15 : decode cX13_gainOf 15 = .ok (.iload 5, 2) := by decide +kernel
theorem dX13_gainOf_17 : decode cX13_gainOf 17 = .ok (.bipush 60, 2) := by decide +kernel
theorem dX13_gainOf_19 : decode cX13_gainOf 19 = .ok (.if_icmp .le 7, 3) := by decide +kernel
theorem dX13_gainOf_22 : decode cX13_gainOf 22 = .ok (.iconst 0, 1) := by decide +kernel
theorem dX13_gainOf_23 : decode cX13_gainOf 23 = .ok (.goto 25, 3) := by decide +kernel
theorem dX13_gainOf_26 : decode cX13_gainOf 26 = .ok (.iload 5, 2) := by decide +kernel
theorem dX13_gainOf_28 : decode cX13_gainOf 28 = .ok (.i2l, 1) := by decide +kernel
theorem dX13_gainOf_29 : decode cX13_gainOf 29 = .ok (.aload_n 0, 1) := by decide +kernel
theorem dX13_gainOf_30 : decode cX13_gainOf 30 = .ok (.iload_n 1, 1) := by decide +kernel
theorem dX13_gainOf_31 : decode cX13_gainOf 31 = .ok (.bipush 10, 2) := by decide +kernel
theorem dX13_gainOf_33 : decode cX13_gainOf 33 = .ok (.iload_n 2, 1) := by decide +kernel
theorem dX13_gainOf_34 : decode cX13_gainOf 34 = .ok (.imul, 1) := by decide +kernel
theorem dX13_gainOf_35 : decode cX13_gainOf 35 = .ok (.iload 4, 2) := by decide +kernel
theorem dX13_gainOf_37 : decode cX13_gainOf 37 = .ok (.iload_n 3, 1) := by decide +kernel
theorem dX13_gainOf_38 : decode cX13_gainOf 38 = .ok (.invokevirtual 437, 3) := by decide +kernel
theorem dX13_gainOf_41 : decode cX13_gainOf 41 = .ok (.i2l, 1) := by decide +kernel
theorem dX13_gainOf_42 : decode cX13_gainOf 42 = .ok (.lmul, 1) := by decide +kernel
theorem dX13_gainOf_43 : decode cX13_gainOf 43 = .ok (.ldc2_w 195, 3) := by decide +kernel
theorem dX13_gainOf_46 : decode cX13_gainOf 46 = .ok (.ldiv, 1) := by decide +kernel
theorem dX13_gainOf_47 : decode cX13_gainOf 47 = .ok (.l2i, 1) := by decide +kernel
theorem dX13_gainOf_48 : decode cX13_gainOf 48 = .ok (.ireturn, 1) := by decide +kernel
def fX13_gainOf (h : eg_H) (l0 : Nat) (l1 : Int32) (l2 : Int32) (l3 : Int32) (l4 : Int32) : Option (Int32 × eg_H) :=
  if eg_isO h 13 l0 then (
    (eg_gR h 13 18 l0).bind fun p1 =>
    (eg_aI h 100 p1 (3 : Int32)).bind fun v3 =>
    (some ((v3 + ((l3 - (1 : Int32)) * l4)))).bind fun v5 =>
    if v5 ≤ (60 : Int32) then
      ((fX13_goPair h l0 l1 ((10 : Int32) * l2) l4 l3).bind fun ⟨v9, h8⟩ =>
      some (((v5.toInt64 * v9.toInt64) / (1000000 : Int64)).toInt32, h8))
    else
      some ((0 : Int32), h)) else none
theorem fX13_gainOf_O {h : eg_H} {l0 : Nat} {l1 : Int32} {l2 : Int32} {l3 : Int32} {l4 : Int32} {rE : Int32} {hE : eg_H} (hF : fX13_gainOf h l0 l1 l2 l3 l4 = some (rE, hE)) : eg_isO h 13 l0 := (eg_ifn hF).1
set_option maxRecDepth 20000 in
theorem mX13_gainOf {h : eg_H} {l0 : Nat} {l1 : Int32} {l2 : Int32} {l3 : Int32} {l4 : Int32} {rE : Int32} {hE : eg_H} (hF : fX13_gainOf h l0 l1 l2 l3 l4 = some (rE, hE)) : eg_Met yX13_gainOf cX13_gainOf 6 (some .int) 399 [.ref l0, .int l1, .int l2, .int l3, .int l4] h (some (.int rE)) hE := by
  refine eg_enter rfl (Nat.le_of_ble_eq_true rfl) ?_
  show eg_AW (RX13, cX13_gainOf, 6, 399, none, "gainOf", (some .int)) (eg_Zm (some (.int rE)) hE h) (eg_nc hE) (eg_ns hE) h 0 [(0, .ref l0), (1, .int l1), (2, .int l2), (3, .int l3), (4, .int l4)] [] h
  replace hF := (eg_ifn hF).2
  refine eg_aload_n (i := 0) 0 dX13_gainOf_0 rfl rfl ?_
  replace hF := eg_bind hF; obtain ⟨p1, e2, hF⟩ := hF
  refine eg_getR dX13_gainOf_1 e2 (Nat.le_of_ble_eq_true rfl) (Nat.le_of_ble_eq_true rfl) rfl ew_1452 ?_
  refine eg_iconst (v := (3 : Int32)) dX13_gainOf_4 (by decide) ?_
  replace hF := eg_bind hF; obtain ⟨v3, e4, hF⟩ := hF
  refine eg_iald dX13_gainOf_5 e4 ?_
  refine eg_iload_n (i := 3) 3 dX13_gainOf_6 rfl rfl ?_
  refine eg_iconst (v := (1 : Int32)) dX13_gainOf_7 (by decide) ?_
  refine eg_isub dX13_gainOf_8 ?_
  refine eg_iload (i := 4) 4 dX13_gainOf_9 rfl ?_
  refine eg_imul dX13_gainOf_11 ?_
  refine eg_iadd dX13_gainOf_12 ?_
  replace hF := eg_bind hF; obtain ⟨v5, e6, hF⟩ := hF
  replace e6 := Option.some.inj e6
  rw [e6]
  refine eg_istore (i := 5) [(5, .int v5), (0, .ref l0), (1, .int l1), (2, .int l2), (3, .int l3), (4, .int l4)] dX13_gainOf_13 (Nat.le_of_ble_eq_true rfl) rfl ?_
  refine eg_iload (i := 5) 0 dX13_gainOf_15 rfl ?_
  refine eg_bipush (v := (60 : Int32)) dX13_gainOf_17 (by decide) ?_
  refine eg_ic_le 26 dX13_gainOf_19 rfl (fun c7 => ?_) (fun c7 => ?_)
  · replace hF := eg_it c7 hF
    refine eg_iload (i := 5) 0 dX13_gainOf_26 rfl ?_
    refine eg_i2l dX13_gainOf_28 ?_
    refine eg_aload_n (i := 0) 1 dX13_gainOf_29 rfl rfl ?_
    refine eg_iload_n (i := 1) 2 dX13_gainOf_30 rfl rfl ?_
    refine eg_bipush (v := (10 : Int32)) dX13_gainOf_31 (by decide) ?_
    refine eg_iload_n (i := 2) 3 dX13_gainOf_33 rfl rfl ?_
    refine eg_imul dX13_gainOf_34 ?_
    refine eg_iload (i := 4) 5 dX13_gainOf_35 rfl ?_
    refine eg_iload_n (i := 3) 4 dX13_gainOf_37 rfl rfl ?_
    replace hF := eg_bind hF; obtain ⟨⟨v9, h8⟩, e10, hF⟩ := hF
    refine eg_callV (c := 13) (n := 4) [.int l1, .int ((10 : Int32) * l2), .int l4, .int l3] dX13_gainOf_38 (mX13_goPair e10) rfl (fX13_goPair_O e10) (Nat.le_of_ble_eq_true rfl) rfl ew_1973 ew_1975 ew_85 ew_110 ew_1976 hy_X13_goPair rfl (Nat.le_of_ble_eq_true rfl) (Nat.le_of_ble_eq_true rfl) (Nat.le_of_ble_eq_true rfl) ?_
    refine eg_i2l dX13_gainOf_41 ?_
    refine eg_lmul dX13_gainOf_42 ?_
    refine eg_ldc2 (v := (1000000 : Int64)) dX13_gainOf_43 ew_1845 ?_
    refine eg_ldiv dX13_gainOf_46 (by decide) ?_
    refine eg_l2i dX13_gainOf_47 ?_
    exact eg_iretE dX13_gainOf_48 hF
  · replace hF := eg_if c7 hF
    refine eg_iconst (v := (0 : Int32)) dX13_gainOf_22 (by decide) ?_
    refine eg_goto 48 dX13_gainOf_23 rfl ?_
    exact eg_iretE dX13_gainOf_48 hF
theorem dX13_bold_0 : decode cX13_bold 0 = .ok (.aload_n 0, 1) := by decide +kernel
theorem dX13_bold_1 : decode cX13_bold 1 = .ok (.iconst 0, 1) := by decide +kernel
theorem dX13_bold_2 : decode cX13_bold 2 = .ok (.putfield 148, 3) := by decide +kernel
theorem dX13_bold_5 : decode cX13_bold 5 = .ok (.aload_n 0, 1) := by decide +kernel
theorem dX13_bold_6 : decode cX13_bold 6 = .ok (.iload_n 1, 1) := by decide +kernel
theorem dX13_bold_7 : decode cX13_bold 7 = .ok (.invokevirtual 405, 3) := by decide +kernel
theorem dX13_bold_10 : decode cX13_bold 10 = .ok (.ifCond .eq 56, 3) := by decide +kernel
theorem dX13_bold_13 : decode cX13_bold 13 = .ok (.aload_n 0, 1) := by decide +kernel
theorem dX13_bold_14 : decode cX13_bold 14 = .ok (.iload_n 2, 1) := by decide +kernel
theorem dX13_bold_15 : decode cX13_bold 15 = .ok (.invokevirtual 405, 3) := by decide +kernel
theorem dX13_bold_18 : decode cX13_bold 18 = .ok (.ifCond .eq 48, 3) := by decide +kernel
theorem dX13_bold_21 : decode cX13_bold 21 = .ok (.iload_n 3, 1) := by decide +kernel
theorem dX13_bold_22 : decode cX13_bold 22 = .ok (.ifCond .lt 44, 3) := by decide +kernel
theorem dX13_bold_25 : decode cX13_bold 25 = .ok (.aload_n 0, 1) := by decide +kernel
theorem dX13_bold_26 : decode cX13_bold 26 = .ok (.iload_n 3, 1) := by decide +kernel
theorem dX13_bold_27 : decode cX13_bold 27 = .ok (.bipush 10, 2) := by decide +kernel
theorem dX13_bold_29 : decode cX13_bold 29 = .ok (.idiv, 1) := by decide +kernel
theorem dX13_bold_30 : decode cX13_bold 30 = .ok (.invokevirtual 356, 3) := by decide +kernel
theorem dX13_bold_33 : decode cX13_bold 33 = .ok (.ifCond .eq 33, 3) := by decide +kernel
theorem dX13_bold_36 : decode cX13_bold 36 = .ok (.aload_n 0, 1) := by decide +kernel
theorem dX13_bold_37 : decode cX13_bold 37 = .ok (.iload_n 3, 1) := by decide +kernel
theorem dX13_bold_38 : decode cX13_bold 38 = .ok (.bipush 10, 2) := by decide +kernel
theorem dX13_bold_40 : decode cX13_bold 40 = .ok (.irem, 1) := by decide +kernel
theorem dX13_bold_41 : decode cX13_bold 41 = .ok (.invokevirtual 356, 3) := by decide +kernel
theorem dX13_bold_44 : decode cX13_bold 44 = .ok (.ifCond .eq 22, 3) := by decide +kernel
theorem dX13_bold_47 : decode cX13_bold 47 = .ok (.iload 4, 2) := by decide +kernel
theorem dX13_bold_49 : decode cX13_bold 49 = .ok (.i2l, 1) := by decide +kernel
theorem dX13_bold_50 : decode cX13_bold 50 = .ok (.lconst 1, 1) := by decide +kernel
theorem dX13_bold_51 : decode cX13_bold 51 = .ok (.ldc2_w 382, 3) := by decide +kernel
theorem dX13_bold_54 : decode cX13_bold 54 = .ok (.invokestatic 269, 3) := by decide +kernel
theorem dX13_bold_57 : decode cX13_bold 57 = .ok (.ifCond .eq 9, 3) := by decide +kernel
theorem dX13_bold_60 : decode cX13_bold 60 = .ok (.iload 5, 2) := by decide +kernel
theorem dX13_bold_62 : decode cX13_bold 62 = .ok (.iconst (-1), 1) := by decide +kernel
theorem dX13_bold_63 : decode cX13_bold 63 = .ok (.if_icmp .ge 5, 3) := by decide +kernel
theorem dX13_bold_66 : decode cX13_bold 66 = .ok (.iconst (-1), 1) := by decide +kernel
theorem dX13_bold_67 : decode cX13_bold 67 = .ok (.ireturn, 1) := by decide +kernel
theorem dX13_bold_68 : decode cX13_bold 68 = .ok (.iconst (-1), 1) := by decide +kernel
theorem dX13_bold_69 : decode cX13_bold 69 = .ok (.istore 6, 2) := by decide +kernel
theorem dX13_bold_71 : decode cX13_bold 71 = .ok (.iconst (-1), 1) := by decide +kernel
theorem dX13_bold_72 : decode cX13_bold 72 = .ok (.istore 7, 2) := by decide +kernel
theorem dX13_bold_74 : decode cX13_bold 74 = .ok (.iconst 1, 1) := by decide +kernel
theorem dX13_bold_75 : decode cX13_bold 75 = .ok (.istore 8, 2) := by decide +kernel
theorem dX13_bold_77 : decode cX13_bold 77 = .ok (.iload 8, 2) := by decide +kernel
theorem dX13_bold_79 : decode cX13_bold 79 = .ok (.iconst 4, 1) := by decide +kernel
theorem dX13_bold_80 : decode cX13_bold 80 = .ok (.if_icmp .ge 49, 3) := by decide +kernel
theorem dX13_bold_83 : decode cX13_bold 83 = .ok (.iload 6, 2) := by decide +kernel
theorem dX13_bold_85 : decode cX13_bold 85 = .ok (.aload_n 0, 1) := by decide +kernel
theorem dX13_bold_86 : decode cX13_bold 86 = .ok (.iload_n 1, 1) := by decide +kernel
theorem dX13_bold_87 : decode cX13_bold 87 = .ok (.iload_n 3, 1) := by decide +kernel
theorem dX13_bold_88 : decode cX13_bold 88 = .ok (.bipush 10, 2) := by decide +kernel
theorem dX13_bold_90 : decode cX13_bold 90 = .ok (.idiv, 1) := by decide +kernel
theorem dX13_bold_91 : decode cX13_bold 91 = .ok (.iload 4, 2) := by decide +kernel
theorem dX13_bold_93 : decode cX13_bold 93 = .ok (.iload 8, 2) := by decide +kernel
theorem dX13_bold_95 : decode cX13_bold 95 = .ok (.invokevirtual 465, 3) := by decide +kernel
theorem dX13_bold_98 : decode cX13_bold 98 = .ok (.invokestatic 378, 3) := by decide +kernel
theorem dX13_bold_101 : decode cX13_bold 101 = .ok (.istore 6, 2) := by decide +kernel
theorem dX13_bold_103 : decode cX13_bold 103 = .ok (.iload 7, 2) := by decide +kernel
theorem dX13_bold_105 : decode cX13_bold 105 = .ok (.aload_n 0, 1) := by decide +kernel
theorem dX13_bold_106 : decode cX13_bold 106 = .ok (.iload_n 2, 1) := by decide +kernel
theorem dX13_bold_107 : decode cX13_bold 107 = .ok (.iload_n 3, 1) := by decide +kernel
theorem dX13_bold_108 : decode cX13_bold 108 = .ok (.bipush 10, 2) := by decide +kernel
theorem dX13_bold_110 : decode cX13_bold 110 = .ok (.irem, 1) := by decide +kernel
theorem dX13_bold_111 : decode cX13_bold 111 = .ok (.iload 4, 2) := by decide +kernel
theorem dX13_bold_113 : decode cX13_bold 113 = .ok (.iload 8, 2) := by decide +kernel
theorem dX13_bold_115 : decode cX13_bold 115 = .ok (.invokevirtual 465, 3) := by decide +kernel
theorem dX13_bold_118 : decode cX13_bold 118 = .ok (.invokestatic 378, 3) := by decide +kernel
theorem dX13_bold_121 : decode cX13_bold 121 = .ok (.istore 7, 2) := by decide +kernel
theorem dX13_bold_123 : decode cX13_bold 123 = .ok (.iinc 8 1, 3) := by decide +kernel
theorem dX13_bold_126 : decode cX13_bold 126 = .ok (.goto (-49), 3) := by decide +kernel
theorem dX13_bold_129 : decode cX13_bold 129 = .ok (.iconst 0, 1) := by decide +kernel
theorem dX13_bold_130 : decode cX13_bold 130 = .ok (.istore 8, 2) := by decide +kernel
theorem dX13_bold_132 : decode cX13_bold 132 = .ok (.iconst 1, 1) := by decide +kernel
theorem dX13_bold_133 : decode cX13_bold 133 = .ok (.istore 9, 2) := by decide +kernel
theorem dX13_bold_135 : decode cX13_bold 135 = .ok (.iload 9, 2) := by decide +kernel
theorem dX13_bold_137 : decode cX13_bold 137 = .ok (.iconst 4, 1) := by decide +kernel
theorem dX13_bold_138 : decode cX13_bold 138 = .ok (.if_icmp .ge 82, 3) := by decide +kernel
theorem dX13_bold_141 : decode cX13_bold 141 = .ok (.iconst 1, 1) := by decide +kernel
theorem dX13_bold_142 : decode cX13_bold 142 = .ok (.istore 10, 2) := by decide +kernel
theorem dX13_bold_144 : decode cX13_bold 144 = .ok (.iload 10, 2) := by decide +kernel
theorem dX13_bold_146 : decode cX13_bold 146 = .ok (.iconst 4, 1) := by decide +kernel
theorem dX13_bold_147 : decode cX13_bold 147 = .ok (.if_icmp .ge 67, 3) := by decide +kernel
theorem dX13_bold_150 : decode cX13_bold 150 = .ok (.aload_n 0, 1) := by decide +kernel
theorem dX13_bold_151 : decode cX13_bold 151 = .ok (.iload_n 1, 1) := by decide +kernel
theorem dX13_bold_152 : decode cX13_bold 152 = .ok (.iload_n 3, 1) := by decide +kernel
theorem dX13_bold_153 : decode cX13_bold 153 = .ok (.bipush 10, 2) := by decide +kernel
theorem dX13_bold_155 : decode cX13_bold 155 = .ok (.idiv, 1) := by decide +kernel
theorem dX13_bold_156 : decode cX13_bold 156 = .ok (.iload 4, 2) := by decide +kernel
theorem dX13_bold_158 : decode cX13_bold 158 = .ok (.iload 9, 2) := by decide +kernel
theorem dX13_bold_160 : decode cX13_bold 160 = .ok (.invokevirtual 465, 3) := by decide +kernel
theorem dX13_bold_163 : decode cX13_bold 163 = .ok (.iload 6, 2) := by decide +kernel
theorem dX13_bold_165 : decode cX13_bold 165 = .ok (.if_icmp .ne 43, 3) := by decide +kernel
theorem dX13_bold_168 : decode cX13_bold 168 = .ok (.aload_n 0, 1) := by decide +kernel
theorem dX13_bold_169 : decode cX13_bold 169 = .ok (.iload_n 2, 1) := by decide +kernel
theorem dX13_bold_170 : decode cX13_bold 170 = .ok (.iload_n 3, 1) := by decide +kernel
theorem dX13_bold_171 : decode cX13_bold 171 = .ok (.bipush 10, 2) := by decide +kernel
theorem dX13_bold_173 : decode cX13_bold 173 = .ok (.irem, 1) := by decide +kernel
theorem dX13_bold_174 : decode cX13_bold 174 = .ok (.iload 4, 2) := by decide +kernel
theorem dX13_bold_176 : decode cX13_bold 176 = .ok (.iload 10, 2) := by decide +kernel
theorem dX13_bold_178 : decode cX13_bold 178 = .ok (.invokevirtual 465, 3) := by decide +kernel
theorem dX13_bold_181 : decode cX13_bold 181 = .ok (.iload 7, 2) := by decide +kernel
theorem dX13_bold_183 : decode cX13_bold 183 = .ok (.if_icmp .eq 6, 3) := by decide +kernel
theorem dX13_bold_186 : decode cX13_bold 186 = .ok (.goto 22, 3) := by decide +kernel
theorem dX13_bold_189 : decode cX13_bold 189 = .ok (.iload 8, 2) := by decide +kernel
theorem dX13_bold_191 : decode cX13_bold 191 = .ok (.iload 5, 2) := by decide +kernel
theorem dX13_bold_193 : decode cX13_bold 193 = .ok (.if_icmp .ne 12, 3) := by decide +kernel
theorem dX13_bold_196 : decode cX13_bold 196 = .ok (.bipush 10, 2) := by decide +kernel
theorem dX13_bold_198 : decode cX13_bold 198 = .ok (.iload 9, 2) := by decide +kernel
theorem dX13_bold_200 : decode cX13_bold 200 = .ok (.imul, 1) := by decide +kernel
theorem dX13_bold_201 : decode cX13_bold 201 = .ok (.iload 10, 2) := by decide +kernel
theorem dX13_bold_203 : decode cX13_bold 203 = .ok (.iadd, 1) := by decide +kernel
theorem dX13_bold_204 : decode cX13_bold 204 = .ok (.ireturn, 1) := by decide +kernel
theorem dX13_bold_205 : decode cX13_bold 205 = .ok (.iinc 8 1, 3) := by decide +kernel
theorem dX13_bold_208 : decode cX13_bold 208 = .ok (.iinc 10 1, 3) := by decide +kernel
theorem dX13_bold_211 : decode cX13_bold 211 = .ok (.goto (-67), 3) := by decide +kernel
theorem dX13_bold_214 : decode cX13_bold 214 = .ok (.iinc 9 1, 3) := by decide +kernel
theorem dX13_bold_217 : decode cX13_bold 217 = .ok (.goto (-82), 3) := by decide +kernel
theorem dX13_bold_220 : decode cX13_bold 220 = .ok (.iload 5, 2) := by decide +kernel
theorem dX13_bold_222 : decode cX13_bold 222 = .ok (.iconst (-1), 1) := by decide +kernel
theorem dX13_bold_223 : decode cX13_bold 223 = .ok (.if_icmp .ne 8, 3) := by decide +kernel
theorem dX13_bold_226 : decode cX13_bold 226 = .ok (.iload 8, 2) := by decide +kernel
theorem dX13_bold_228 : decode cX13_bold 228 = .ok (.goto 4, 3) := by decide +kernel
theorem dX13_bold_231 : decode cX13_bold 231 = .ok (.iconst (-1), 1) := by decide +kernel
theorem dX13_bold_232 : decode cX13_bold 232 = .ok (.ireturn, 1) := by decide +kernel
def fX13_bold_L77 : Nat → eg_H → Nat → Int32 → Int32 → Int32 → Int32 → Int32 → Int32 → Int32 → Int32 → Option (Nat × Int32 × Int32 × Int32 × Int32 × Int32 × Int32 × Int32 × eg_H)
  | 0, _, _, _, _, _, _, _, _, _, _ => none
  | n + 1, h, l0, l1, l2, l3, l4, l5, l6, l7, l8 =>
    if (4 : Int32) ≤ l8 then
      (some (l0, l1, l2, l3, l4, l5, l6, l7, h))
    else
      (fX13_gainOf h l0 l1 (l3 / (10 : Int32)) l4 l8).bind fun ⟨v3, h2⟩ =>
      (some ((eg_maxI l6 v3))).bind fun v5 =>
      (fX13_gainOf h2 l0 l2 (l3 % (10 : Int32)) l4 l8).bind fun ⟨v8, h7⟩ =>
      (some ((eg_maxI l7 v8))).bind fun v10 =>
      fX13_bold_L77 n h7 l0 l1 l2 l3 l4 l5 v5 v10 (l8 + (1 : Int32))
set_option maxRecDepth 20000 in
theorem fX13_bold_L77_ok {h0 : eg_H} {Z : eg_C → State → Prop} {N S : Nat} : ∀ (n : Nat) (h : eg_H) (l0 : Nat) (l1 : Int32) (l2 : Int32) (l3 : Int32) (l4 : Int32) (l5 : Int32) (l6 : Int32) (l7 : Int32) (l8 : Int32) (eE : Nat × Int32 × Int32 × Int32 × Int32 × Int32 × Int32 × Int32 × eg_H), fX13_bold_L77 n h l0 l1 l2 l3 l4 l5 l6 l7 l8 = some eE → (hk0 : ∀ (l0 : Nat) (l1 : Int32) (l2 : Int32) (l3 : Int32) (l4 : Int32) (l5 : Int32) (l6 : Int32) (l7 : Int32) (h : eg_H), eE = (l0, l1, l2, l3, l4, l5, l6, l7, h) → eg_AW (RX13, cX13_bold, 11, 400, none, "bold", (some .int)) Z N S h0 129 [(0, .ref l0), (1, .int l1), (2, .int l2), (3, .int l3), (4, .int l4), (5, .int l5), (6, .int l6), (7, .int l7)] [] h) → eg_AW (RX13, cX13_bold, 11, 400, none, "bold", (some .int)) Z N S h0 77 [(0, .ref l0), (1, .int l1), (2, .int l2), (3, .int l3), (4, .int l4), (5, .int l5), (6, .int l6), (7, .int l7), (8, .int l8)] [] h := by
  intro n
  induction n with
  | zero => intro h l0 l1 l2 l3 l4 l5 l6 l7 l8 eE hF; exact absurd hF (by intro q; cases q)
  | succ n ih =>
    intro h l0 l1 l2 l3 l4 l5 l6 l7 l8 eE hF hk0
    have hrec := fun (h' : eg_H) (l0 : Nat) (l1 : Int32) (l2 : Int32) (l3 : Int32) (l4 : Int32) (l5 : Int32) (l6 : Int32) (l7 : Int32) (l8 : Int32) hq => ih h' l0 l1 l2 l3 l4 l5 l6 l7 l8 eE hq hk0
    refine eg_iload (i := 8) 8 dX13_bold_77 rfl ?_
    refine eg_iconst (v := (4 : Int32)) dX13_bold_79 (by decide) ?_
    refine eg_ic_ge 129 dX13_bold_80 rfl (fun c1 => ?_) (fun c1 => ?_)
    · replace hF := eg_it c1 hF
      exact eg_sub [0, 1, 2, 3, 4, 5, 6, 7] [(0, .ref l0), (1, .int l1), (2, .int l2), (3, .int l3), (4, .int l4), (5, .int l5), (6, .int l6), (7, .int l7)] rfl (hk0 l0 l1 l2 l3 l4 l5 l6 l7 h (Option.some.inj hF).symm)
    · replace hF := eg_if c1 hF
      refine eg_iload (i := 6) 6 dX13_bold_83 rfl ?_
      refine eg_aload_n (i := 0) 0 dX13_bold_85 rfl rfl ?_
      refine eg_iload_n (i := 1) 1 dX13_bold_86 rfl rfl ?_
      refine eg_iload_n (i := 3) 3 dX13_bold_87 rfl rfl ?_
      refine eg_bipush (v := (10 : Int32)) dX13_bold_88 (by decide) ?_
      refine eg_idiv dX13_bold_90 (by decide) ?_
      refine eg_iload (i := 4) 4 dX13_bold_91 rfl ?_
      refine eg_iload (i := 8) 8 dX13_bold_93 rfl ?_
      replace hF := eg_bind hF; obtain ⟨⟨v3, h2⟩, e4, hF⟩ := hF
      refine eg_callV (c := 13) (n := 4) [.int l1, .int (l3 / (10 : Int32)), .int l4, .int l8] dX13_bold_95 (mX13_gainOf e4) rfl (fX13_gainOf_O e4) (Nat.le_of_ble_eq_true rfl) rfl ew_2029 ew_2031 ew_88 ew_110 ew_2032 hy_X13_gainOf rfl (Nat.le_of_ble_eq_true rfl) (Nat.le_of_ble_eq_true rfl) (Nat.le_of_ble_eq_true rfl) ?_
      refine eg_mmax dX13_bold_98 ew_1924 (Nat.le_of_ble_eq_true rfl) (Nat.le_of_ble_eq_true rfl) ?_
      replace hF := eg_bind hF; obtain ⟨v5, e6, hF⟩ := hF
      replace e6 := Option.some.inj e6
      rw [e6]
      refine eg_istore (i := 6) [(6, .int v5), (0, .ref l0), (1, .int l1), (2, .int l2), (3, .int l3), (4, .int l4), (5, .int l5), (7, .int l7), (8, .int l8)] dX13_bold_101 (Nat.le_of_ble_eq_true rfl) rfl ?_
      refine eg_iload (i := 7) 7 dX13_bold_103 rfl ?_
      refine eg_aload_n (i := 0) 1 dX13_bold_105 rfl rfl ?_
      refine eg_iload_n (i := 2) 3 dX13_bold_106 rfl rfl ?_
      refine eg_iload_n (i := 3) 4 dX13_bold_107 rfl rfl ?_
      refine eg_bipush (v := (10 : Int32)) dX13_bold_108 (by decide) ?_
      refine eg_irem dX13_bold_110 (by decide) ?_
      refine eg_iload (i := 4) 5 dX13_bold_111 rfl ?_
      refine eg_iload (i := 8) 8 dX13_bold_113 rfl ?_
      replace hF := eg_bind hF; obtain ⟨⟨v8, h7⟩, e9, hF⟩ := hF
      refine eg_callV (c := 13) (n := 4) [.int l2, .int (l3 % (10 : Int32)), .int l4, .int l8] dX13_bold_115 (mX13_gainOf e9) rfl (fX13_gainOf_O e9) (Nat.le_of_ble_eq_true rfl) rfl ew_2029 ew_2031 ew_88 ew_110 ew_2032 hy_X13_gainOf rfl (Nat.le_of_ble_eq_true rfl) (Nat.le_of_ble_eq_true rfl) (Nat.le_of_ble_eq_true rfl) ?_
      refine eg_mmax dX13_bold_118 ew_1924 (Nat.le_of_ble_eq_true rfl) (Nat.le_of_ble_eq_true rfl) ?_
      replace hF := eg_bind hF; obtain ⟨v10, e11, hF⟩ := hF
      replace e11 := Option.some.inj e11
      rw [e11]
      refine eg_istore (i := 7) [(7, .int v10), (6, .int v5), (0, .ref l0), (1, .int l1), (2, .int l2), (3, .int l3), (4, .int l4), (5, .int l5), (8, .int l8)] dX13_bold_121 (Nat.le_of_ble_eq_true rfl) rfl ?_
      refine eg_iinc (i := 8) (v := (l8 + (1 : Int32))) 8 [(8, .int (l8 + (1 : Int32))), (7, .int v10), (6, .int v5), (0, .ref l0), (1, .int l1), (2, .int l2), (3, .int l3), (4, .int l4), (5, .int l5)] dX13_bold_123 rfl rfl (Nat.le_of_ble_eq_true rfl) rfl ?_
      refine eg_goto 77 dX13_bold_126 rfl ?_
      exact eg_sub [3, 4, 5, 6, 7, 8, 2, 1, 0] [(0, .ref l0), (1, .int l1), (2, .int l2), (3, .int l3), (4, .int l4), (5, .int l5), (6, .int v5), (7, .int v10), (8, .int (l8 + (1 : Int32)))] rfl (hrec h7 l0 l1 l2 l3 l4 l5 v5 v10 (l8 + (1 : Int32)) hF)
def fX13_bold_L144 : Nat → eg_H → Nat → Int32 → Int32 → Int32 → Int32 → Int32 → Int32 → Int32 → Int32 → Int32 → Int32 → Option ((Nat × Int32 × Int32 × Int32 × Int32 × Int32 × Int32 × Int32 × Int32 × Int32 × eg_H) ⊕ (Int32 × Int32 × eg_H))
  | 0, _, _, _, _, _, _, _, _, _, _, _, _ => none
  | n + 1, h, l0, l1, l2, l3, l4, l5, l6, l7, l8, l9, l10 =>
    if (4 : Int32) ≤ l10 then
      (some (.inl (l0, l1, l2, l3, l4, l5, l6, l7, l8, l9, h)))
    else
      (fX13_gainOf h l0 l1 (l3 / (10 : Int32)) l4 l9).bind fun ⟨v3, h2⟩ =>
      if v3 = l6 then
        ((fX13_gainOf h2 l0 l2 (l3 % (10 : Int32)) l4 l10).bind fun ⟨v7, h6⟩ =>
        if v7 = l7 then
          (if l8 = l5 then
            (some (.inr (l9, l10, h6)))
          else
            fX13_bold_L144 n h6 l0 l1 l2 l3 l4 l5 l6 l7 (l8 + (1 : Int32)) l9 (l10 + (1 : Int32)))
        else
          fX13_bold_L144 n h6 l0 l1 l2 l3 l4 l5 l6 l7 l8 l9 (l10 + (1 : Int32)))
      else
        fX13_bold_L144 n h2 l0 l1 l2 l3 l4 l5 l6 l7 l8 l9 (l10 + (1 : Int32))
set_option maxRecDepth 20000 in
theorem fX13_bold_L144_ok {h0 : eg_H} {Z : eg_C → State → Prop} {N S : Nat} : ∀ (n : Nat) (h : eg_H) (l0 : Nat) (l1 : Int32) (l2 : Int32) (l3 : Int32) (l4 : Int32) (l5 : Int32) (l6 : Int32) (l7 : Int32) (l8 : Int32) (l9 : Int32) (l10 : Int32) (eE : (Nat × Int32 × Int32 × Int32 × Int32 × Int32 × Int32 × Int32 × Int32 × Int32 × eg_H) ⊕ (Int32 × Int32 × eg_H)), fX13_bold_L144 n h l0 l1 l2 l3 l4 l5 l6 l7 l8 l9 l10 = some eE → (hk0 : ∀ (l0 : Nat) (l1 : Int32) (l2 : Int32) (l3 : Int32) (l4 : Int32) (l5 : Int32) (l6 : Int32) (l7 : Int32) (l8 : Int32) (l9 : Int32) (h : eg_H), eE = (.inl (l0, l1, l2, l3, l4, l5, l6, l7, l8, l9, h)) → eg_AW (RX13, cX13_bold, 11, 400, none, "bold", (some .int)) Z N S h0 214 [(0, .ref l0), (1, .int l1), (2, .int l2), (3, .int l3), (4, .int l4), (5, .int l5), (6, .int l6), (7, .int l7), (8, .int l8), (9, .int l9)] [] h) → (hk1 : ∀ (l9 : Int32) (l10 : Int32) (h : eg_H), eE = (.inr (l9, l10, h)) → eg_AW (RX13, cX13_bold, 11, 400, none, "bold", (some .int)) Z N S h0 196 [(9, .int l9), (10, .int l10)] [] h) → eg_AW (RX13, cX13_bold, 11, 400, none, "bold", (some .int)) Z N S h0 144 [(0, .ref l0), (1, .int l1), (2, .int l2), (3, .int l3), (4, .int l4), (5, .int l5), (6, .int l6), (7, .int l7), (8, .int l8), (9, .int l9), (10, .int l10)] [] h := by
  intro n
  induction n with
  | zero => intro h l0 l1 l2 l3 l4 l5 l6 l7 l8 l9 l10 eE hF; exact absurd hF (by intro q; cases q)
  | succ n ih =>
    intro h l0 l1 l2 l3 l4 l5 l6 l7 l8 l9 l10 eE hF hk0 hk1
    have hrec := fun (h' : eg_H) (l0 : Nat) (l1 : Int32) (l2 : Int32) (l3 : Int32) (l4 : Int32) (l5 : Int32) (l6 : Int32) (l7 : Int32) (l8 : Int32) (l9 : Int32) (l10 : Int32) hq => ih h' l0 l1 l2 l3 l4 l5 l6 l7 l8 l9 l10 eE hq hk0 hk1
    refine eg_iload (i := 10) 10 dX13_bold_144 rfl ?_
    refine eg_iconst (v := (4 : Int32)) dX13_bold_146 (by decide) ?_
    refine eg_ic_ge 214 dX13_bold_147 rfl (fun c1 => ?_) (fun c1 => ?_)
    · replace hF := eg_it c1 hF
      exact eg_sub [0, 1, 2, 3, 4, 5, 6, 7, 8, 9] [(0, .ref l0), (1, .int l1), (2, .int l2), (3, .int l3), (4, .int l4), (5, .int l5), (6, .int l6), (7, .int l7), (8, .int l8), (9, .int l9)] rfl (hk0 l0 l1 l2 l3 l4 l5 l6 l7 l8 l9 h (Option.some.inj hF).symm)
    · replace hF := eg_if c1 hF
      refine eg_aload_n (i := 0) 0 dX13_bold_150 rfl rfl ?_
      refine eg_iload_n (i := 1) 1 dX13_bold_151 rfl rfl ?_
      refine eg_iload_n (i := 3) 3 dX13_bold_152 rfl rfl ?_
      refine eg_bipush (v := (10 : Int32)) dX13_bold_153 (by decide) ?_
      refine eg_idiv dX13_bold_155 (by decide) ?_
      refine eg_iload (i := 4) 4 dX13_bold_156 rfl ?_
      refine eg_iload (i := 9) 9 dX13_bold_158 rfl ?_
      replace hF := eg_bind hF; obtain ⟨⟨v3, h2⟩, e4, hF⟩ := hF
      refine eg_callV (c := 13) (n := 4) [.int l1, .int (l3 / (10 : Int32)), .int l4, .int l9] dX13_bold_160 (mX13_gainOf e4) rfl (fX13_gainOf_O e4) (Nat.le_of_ble_eq_true rfl) rfl ew_2029 ew_2031 ew_88 ew_110 ew_2032 hy_X13_gainOf rfl (Nat.le_of_ble_eq_true rfl) (Nat.le_of_ble_eq_true rfl) (Nat.le_of_ble_eq_true rfl) ?_
      refine eg_iload (i := 6) 6 dX13_bold_163 rfl ?_
      refine eg_ic_ne 208 dX13_bold_165 rfl (fun c5 => ?_) (fun c5 => ?_)
      · replace hF := eg_it c5 hF
        refine eg_aload_n (i := 0) 0 dX13_bold_168 rfl rfl ?_
        refine eg_iload_n (i := 2) 2 dX13_bold_169 rfl rfl ?_
        refine eg_iload_n (i := 3) 3 dX13_bold_170 rfl rfl ?_
        refine eg_bipush (v := (10 : Int32)) dX13_bold_171 (by decide) ?_
        refine eg_irem dX13_bold_173 (by decide) ?_
        refine eg_iload (i := 4) 4 dX13_bold_174 rfl ?_
        refine eg_iload (i := 10) 10 dX13_bold_176 rfl ?_
        replace hF := eg_bind hF; obtain ⟨⟨v7, h6⟩, e8, hF⟩ := hF
        refine eg_callV (c := 13) (n := 4) [.int l2, .int (l3 % (10 : Int32)), .int l4, .int l10] dX13_bold_178 (mX13_gainOf e8) rfl (fX13_gainOf_O e8) (Nat.le_of_ble_eq_true rfl) rfl ew_2029 ew_2031 ew_88 ew_110 ew_2032 hy_X13_gainOf rfl (Nat.le_of_ble_eq_true rfl) (Nat.le_of_ble_eq_true rfl) (Nat.le_of_ble_eq_true rfl) ?_
        refine eg_iload (i := 7) 7 dX13_bold_181 rfl ?_
        refine eg_ic_eq 189 dX13_bold_183 rfl (fun c9 => ?_) (fun c9 => ?_)
        · replace hF := eg_it c9 hF
          refine eg_iload (i := 8) 8 dX13_bold_189 rfl ?_
          refine eg_iload (i := 5) 5 dX13_bold_191 rfl ?_
          refine eg_ic_ne 205 dX13_bold_193 rfl (fun c10 => ?_) (fun c10 => ?_)
          · replace hF := eg_it c10 hF
            exact eg_sub [9, 10] [(9, .int l9), (10, .int l10)] rfl (hk1 l9 l10 h6 (Option.some.inj hF).symm)
          · replace hF := eg_if c10 hF
            refine eg_iinc (i := 8) (v := (l8 + (1 : Int32))) 8 [(8, .int (l8 + (1 : Int32))), (0, .ref l0), (1, .int l1), (2, .int l2), (3, .int l3), (4, .int l4), (5, .int l5), (6, .int l6), (7, .int l7), (9, .int l9), (10, .int l10)] dX13_bold_205 rfl rfl (Nat.le_of_ble_eq_true rfl) rfl ?_
            refine eg_iinc (i := 10) (v := (l10 + (1 : Int32))) 10 [(10, .int (l10 + (1 : Int32))), (8, .int (l8 + (1 : Int32))), (0, .ref l0), (1, .int l1), (2, .int l2), (3, .int l3), (4, .int l4), (5, .int l5), (6, .int l6), (7, .int l7), (9, .int l9)] dX13_bold_208 rfl rfl (Nat.le_of_ble_eq_true rfl) rfl ?_
            refine eg_goto 144 dX13_bold_211 rfl ?_
            exact eg_sub [2, 3, 4, 5, 6, 7, 8, 9, 1, 10, 0] [(0, .ref l0), (1, .int l1), (2, .int l2), (3, .int l3), (4, .int l4), (5, .int l5), (6, .int l6), (7, .int l7), (8, .int (l8 + (1 : Int32))), (9, .int l9), (10, .int (l10 + (1 : Int32)))] rfl (hrec h6 l0 l1 l2 l3 l4 l5 l6 l7 (l8 + (1 : Int32)) l9 (l10 + (1 : Int32)) hF)
        · replace hF := eg_if c9 hF
          refine eg_goto 208 dX13_bold_186 rfl ?_
          refine eg_iinc (i := 10) (v := (l10 + (1 : Int32))) 10 [(10, .int (l10 + (1 : Int32))), (0, .ref l0), (1, .int l1), (2, .int l2), (3, .int l3), (4, .int l4), (5, .int l5), (6, .int l6), (7, .int l7), (8, .int l8), (9, .int l9)] dX13_bold_208 rfl rfl (Nat.le_of_ble_eq_true rfl) rfl ?_
          refine eg_goto 144 dX13_bold_211 rfl ?_
          exact eg_sub [1, 2, 3, 4, 5, 6, 7, 8, 9, 10, 0] [(0, .ref l0), (1, .int l1), (2, .int l2), (3, .int l3), (4, .int l4), (5, .int l5), (6, .int l6), (7, .int l7), (8, .int l8), (9, .int l9), (10, .int (l10 + (1 : Int32)))] rfl (hrec h6 l0 l1 l2 l3 l4 l5 l6 l7 l8 l9 (l10 + (1 : Int32)) hF)
      · replace hF := eg_if c5 hF
        refine eg_iinc (i := 10) (v := (l10 + (1 : Int32))) 10 [(10, .int (l10 + (1 : Int32))), (0, .ref l0), (1, .int l1), (2, .int l2), (3, .int l3), (4, .int l4), (5, .int l5), (6, .int l6), (7, .int l7), (8, .int l8), (9, .int l9)] dX13_bold_208 rfl rfl (Nat.le_of_ble_eq_true rfl) rfl ?_
        refine eg_goto 144 dX13_bold_211 rfl ?_
        exact eg_sub [1, 2, 3, 4, 5, 6, 7, 8, 9, 10, 0] [(0, .ref l0), (1, .int l1), (2, .int l2), (3, .int l3), (4, .int l4), (5, .int l5), (6, .int l6), (7, .int l7), (8, .int l8), (9, .int l9), (10, .int (l10 + (1 : Int32)))] rfl (hrec h2 l0 l1 l2 l3 l4 l5 l6 l7 l8 l9 (l10 + (1 : Int32)) hF)
def fX13_bold_L135 : Nat → eg_H → Nat → Int32 → Int32 → Int32 → Int32 → Int32 → Int32 → Int32 → Int32 → Int32 → Option ((Int32 × Int32 × eg_H) ⊕ (Int32 × Int32 × eg_H))
  | 0, _, _, _, _, _, _, _, _, _, _, _ => none
  | n + 1, h, l0, l1, l2, l3, l4, l5, l6, l7, l8, l9 =>
    if (4 : Int32) ≤ l9 then
      (some (.inl (l5, l8, h)))
    else
      (fX13_bold_L144 eg_F h l0 l1 l2 l3 l4 l5 l6 l7 l8 l9 (1 : Int32)).bind fun e =>
      match e with
      | .inl (p4, v5, v6, v7, v8, v9, v10, v11, v12, v13, h14) =>
        fX13_bold_L135 n h14 p4 v5 v6 v7 v8 v9 v10 v11 v12 (v13 + (1 : Int32))
      | .inr (v16, v17, h18) =>
        some (.inr (v16, v17, h18))
set_option maxRecDepth 20000 in
theorem fX13_bold_L135_ok {h0 : eg_H} {Z : eg_C → State → Prop} {N S : Nat} : ∀ (n : Nat) (h : eg_H) (l0 : Nat) (l1 : Int32) (l2 : Int32) (l3 : Int32) (l4 : Int32) (l5 : Int32) (l6 : Int32) (l7 : Int32) (l8 : Int32) (l9 : Int32) (eE : (Int32 × Int32 × eg_H) ⊕ (Int32 × Int32 × eg_H)), fX13_bold_L135 n h l0 l1 l2 l3 l4 l5 l6 l7 l8 l9 = some eE → (hk0 : ∀ (l5 : Int32) (l8 : Int32) (h : eg_H), eE = (.inl (l5, l8, h)) → eg_AW (RX13, cX13_bold, 11, 400, none, "bold", (some .int)) Z N S h0 220 [(5, .int l5), (8, .int l8)] [] h) → (hk1 : ∀ (l9 : Int32) (l10 : Int32) (h : eg_H), eE = (.inr (l9, l10, h)) → eg_AW (RX13, cX13_bold, 11, 400, none, "bold", (some .int)) Z N S h0 196 [(9, .int l9), (10, .int l10)] [] h) → eg_AW (RX13, cX13_bold, 11, 400, none, "bold", (some .int)) Z N S h0 135 [(0, .ref l0), (1, .int l1), (2, .int l2), (3, .int l3), (4, .int l4), (5, .int l5), (6, .int l6), (7, .int l7), (8, .int l8), (9, .int l9)] [] h := by
  intro n
  induction n with
  | zero => intro h l0 l1 l2 l3 l4 l5 l6 l7 l8 l9 eE hF; exact absurd hF (by intro q; cases q)
  | succ n ih =>
    intro h l0 l1 l2 l3 l4 l5 l6 l7 l8 l9 eE hF hk0 hk1
    have hrec := fun (h' : eg_H) (l0 : Nat) (l1 : Int32) (l2 : Int32) (l3 : Int32) (l4 : Int32) (l5 : Int32) (l6 : Int32) (l7 : Int32) (l8 : Int32) (l9 : Int32) hq => ih h' l0 l1 l2 l3 l4 l5 l6 l7 l8 l9 eE hq hk0 hk1
    refine eg_iload (i := 9) 9 dX13_bold_135 rfl ?_
    refine eg_iconst (v := (4 : Int32)) dX13_bold_137 (by decide) ?_
    refine eg_ic_ge 220 dX13_bold_138 rfl (fun c1 => ?_) (fun c1 => ?_)
    · replace hF := eg_it c1 hF
      exact eg_sub [5, 8] [(5, .int l5), (8, .int l8)] rfl (hk0 l5 l8 h (Option.some.inj hF).symm)
    · replace hF := eg_if c1 hF
      refine eg_iconst (v := (1 : Int32)) dX13_bold_141 (by decide) ?_
      refine eg_istore (i := 10) [(10, .int (1 : Int32)), (0, .ref l0), (1, .int l1), (2, .int l2), (3, .int l3), (4, .int l4), (5, .int l5), (6, .int l6), (7, .int l7), (8, .int l8), (9, .int l9)] dX13_bold_142 (Nat.le_of_ble_eq_true rfl) rfl ?_
      replace hF := eg_bind hF; obtain ⟨x3, e2, hF⟩ := hF
      refine eg_sub [1, 2, 3, 4, 5, 6, 7, 8, 9, 10, 0] [(0, .ref l0), (1, .int l1), (2, .int l2), (3, .int l3), (4, .int l4), (5, .int l5), (6, .int l6), (7, .int l7), (8, .int l8), (9, .int l9), (10, .int (1 : Int32))] rfl (fX13_bold_L144_ok eg_F h l0 l1 l2 l3 l4 l5 l6 l7 l8 l9 (1 : Int32) x3 e2 ?_ ?_)
      · intro p4 v5 v6 v7 v8 v9 v10 v11 v12 v13 h14 e15
        subst e15
        refine eg_iinc (i := 9) (v := (v13 + (1 : Int32))) 9 [(9, .int (v13 + (1 : Int32))), (0, .ref p4), (1, .int v5), (2, .int v6), (3, .int v7), (4, .int v8), (5, .int v9), (6, .int v10), (7, .int v11), (8, .int v12)] dX13_bold_214 rfl rfl (Nat.le_of_ble_eq_true rfl) rfl ?_
        refine eg_goto 135 dX13_bold_217 rfl ?_
        exact eg_sub [1, 2, 3, 4, 5, 6, 7, 8, 9, 0] [(0, .ref p4), (1, .int v5), (2, .int v6), (3, .int v7), (4, .int v8), (5, .int v9), (6, .int v10), (7, .int v11), (8, .int v12), (9, .int (v13 + (1 : Int32)))] rfl (hrec h14 p4 v5 v6 v7 v8 v9 v10 v11 v12 (v13 + (1 : Int32)) hF)
      · intro v16 v17 h18 e19
        subst e19
        exact (hk1 v16 v17 h18 (Option.some.inj hF).symm)
def fX13_bold (h : eg_H) (l0 : Nat) (l1 : Int32) (l2 : Int32) (l3 : Int32) (l4 : Int32) (l5 : Int32) : Option (Int32 × eg_H) :=
  if eg_isO h 13 l0 then (
    (eg_pI h 13 0 l0 (0 : Int32)).bind fun h1 =>
    (fX13_isTwo h1 l0 l1).bind fun ⟨v4, h3⟩ =>
    if v4 = 0 then
      (some ((-1 : Int32), h3))
    else
      (fX13_isTwo h3 l0 l2).bind fun ⟨v8, h7⟩ =>
      if v8 = 0 then
        (some ((-1 : Int32), h7))
      else
        if l3 < 0 then
          (some ((-1 : Int32), h7))
        else
          (fX13_isEgg h7 l0 (l3 / (10 : Int32))).bind fun ⟨v13, h12⟩ =>
          if v13 = 0 then
            (some ((-1 : Int32), h12))
          else
            (fX13_isEgg h12 l0 (l3 % (10 : Int32))).bind fun ⟨v17, h16⟩ =>
            if v17 = 0 then
              (some ((-1 : Int32), h16))
            else
              (fX13_isIn h16 l4.toInt64 (1 : Int64) (9 : Int64)).bind fun ⟨v21, h20⟩ =>
              if v21 = 0 then
                (some ((-1 : Int32), h20))
              else
                if (-1 : Int32) ≤ l5 then
                  ((fX13_bold_L77 eg_F h20 l0 l1 l2 l3 l4 l5 (-1 : Int32) (-1 : Int32) (1 : Int32)).bind fun e =>
                  match e with
                  | (p27, v28, v29, v30, v31, v32, v33, v34, h35) =>
                    (fX13_bold_L135 eg_F h35 p27 v28 v29 v30 v31 v32 v33 v34 (0 : Int32) (1 : Int32)).bind fun e =>
                    match e with
                    | .inl (v38, v39, h40) =>
                      if v38 = (-1 : Int32) then
                        (some (v39, h40))
                      else
                        some ((-1 : Int32), h40)
                    | .inr (v43, v44, h45) =>
                      some ((((10 : Int32) * v43) + v44), h45))
                else
                  some ((-1 : Int32), h20)) else none
theorem fX13_bold_O {h : eg_H} {l0 : Nat} {l1 : Int32} {l2 : Int32} {l3 : Int32} {l4 : Int32} {l5 : Int32} {rE : Int32} {hE : eg_H} (hF : fX13_bold h l0 l1 l2 l3 l4 l5 = some (rE, hE)) : eg_isO h 13 l0 := (eg_ifn hF).1
set_option maxRecDepth 20000 in
theorem mX13_bold {h : eg_H} {l0 : Nat} {l1 : Int32} {l2 : Int32} {l3 : Int32} {l4 : Int32} {l5 : Int32} {rE : Int32} {hE : eg_H} (hF : fX13_bold h l0 l1 l2 l3 l4 l5 = some (rE, hE)) : eg_Met yX13_bold cX13_bold 11 (some .int) 400 [.ref l0, .int l1, .int l2, .int l3, .int l4, .int l5] h (some (.int rE)) hE := by
  refine eg_enter rfl (Nat.le_of_ble_eq_true rfl) ?_
  show eg_AW (RX13, cX13_bold, 11, 400, none, "bold", (some .int)) (eg_Zm (some (.int rE)) hE h) (eg_nc hE) (eg_ns hE) h 0 [(0, .ref l0), (1, .int l1), (2, .int l2), (3, .int l3), (4, .int l4), (5, .int l5)] [] h
  replace hF := (eg_ifn hF).2
  refine eg_aload_n (i := 0) 0 dX13_bold_0 rfl rfl ?_
  refine eg_iconst (v := (0 : Int32)) dX13_bold_1 (by decide) ?_
  replace hF := eg_bind hF; obtain ⟨h1, e2, hF⟩ := hF
  refine eg_putI dX13_bold_2 e2 (Nat.le_of_ble_eq_true rfl) (Nat.le_of_ble_eq_true rfl) rfl ew_1434 (Or.inl rfl) ?_
  refine eg_aload_n (i := 0) 0 dX13_bold_5 rfl rfl ?_
  refine eg_iload_n (i := 1) 1 dX13_bold_6 rfl rfl ?_
  replace hF := eg_bind hF; obtain ⟨⟨v4, h3⟩, e5, hF⟩ := hF
  refine eg_callV (c := 13) (n := 1) [.int l1] dX13_bold_7 (mX13_isTwo e5) rfl (fX13_isTwo_O e5) (Nat.le_of_ble_eq_true rfl) rfl ew_1929 ew_1931 ew_76 ew_110 ew_1932 hy_X13_isTwo rfl (Nat.le_of_ble_eq_true rfl) (Nat.le_of_ble_eq_true rfl) (Nat.le_of_ble_eq_true rfl) ?_
  refine eg_if_eq 66 dX13_bold_10 rfl (fun c6 => ?_) (fun c6 => ?_)
  · replace hF := eg_it c6 hF
    refine eg_iconst (v := (-1 : Int32)) dX13_bold_66 (by decide) ?_
    exact eg_iretE dX13_bold_67 hF
  · replace hF := eg_if c6 hF
    refine eg_aload_n (i := 0) 0 dX13_bold_13 rfl rfl ?_
    refine eg_iload_n (i := 2) 2 dX13_bold_14 rfl rfl ?_
    replace hF := eg_bind hF; obtain ⟨⟨v8, h7⟩, e9, hF⟩ := hF
    refine eg_callV (c := 13) (n := 1) [.int l2] dX13_bold_15 (mX13_isTwo e9) rfl (fX13_isTwo_O e9) (Nat.le_of_ble_eq_true rfl) rfl ew_1929 ew_1931 ew_76 ew_110 ew_1932 hy_X13_isTwo rfl (Nat.le_of_ble_eq_true rfl) (Nat.le_of_ble_eq_true rfl) (Nat.le_of_ble_eq_true rfl) ?_
    refine eg_if_eq 66 dX13_bold_18 rfl (fun c10 => ?_) (fun c10 => ?_)
    · replace hF := eg_it c10 hF
      refine eg_iconst (v := (-1 : Int32)) dX13_bold_66 (by decide) ?_
      exact eg_iretE dX13_bold_67 hF
    · replace hF := eg_if c10 hF
      refine eg_iload_n (i := 3) 3 dX13_bold_21 rfl rfl ?_
      refine eg_if_lt 66 dX13_bold_22 rfl (fun c11 => ?_) (fun c11 => ?_)
      · replace hF := eg_it c11 hF
        refine eg_iconst (v := (-1 : Int32)) dX13_bold_66 (by decide) ?_
        exact eg_iretE dX13_bold_67 hF
      · replace hF := eg_if c11 hF
        refine eg_aload_n (i := 0) 0 dX13_bold_25 rfl rfl ?_
        refine eg_iload_n (i := 3) 3 dX13_bold_26 rfl rfl ?_
        refine eg_bipush (v := (10 : Int32)) dX13_bold_27 (by decide) ?_
        refine eg_idiv dX13_bold_29 (by decide) ?_
        replace hF := eg_bind hF; obtain ⟨⟨v13, h12⟩, e14, hF⟩ := hF
        refine eg_callV (c := 13) (n := 1) [.int (l3 / (10 : Int32))] dX13_bold_30 (mX13_isEgg e14) rfl (fX13_isEgg_O e14) (Nat.le_of_ble_eq_true rfl) rfl ew_1881 ew_1883 ew_72 ew_110 ew_1884 hy_X13_isEgg rfl (Nat.le_of_ble_eq_true rfl) (Nat.le_of_ble_eq_true rfl) (Nat.le_of_ble_eq_true rfl) ?_
        refine eg_if_eq 66 dX13_bold_33 rfl (fun c15 => ?_) (fun c15 => ?_)
        · replace hF := eg_it c15 hF
          refine eg_iconst (v := (-1 : Int32)) dX13_bold_66 (by decide) ?_
          exact eg_iretE dX13_bold_67 hF
        · replace hF := eg_if c15 hF
          refine eg_aload_n (i := 0) 0 dX13_bold_36 rfl rfl ?_
          refine eg_iload_n (i := 3) 3 dX13_bold_37 rfl rfl ?_
          refine eg_bipush (v := (10 : Int32)) dX13_bold_38 (by decide) ?_
          refine eg_irem dX13_bold_40 (by decide) ?_
          replace hF := eg_bind hF; obtain ⟨⟨v17, h16⟩, e18, hF⟩ := hF
          refine eg_callV (c := 13) (n := 1) [.int (l3 % (10 : Int32))] dX13_bold_41 (mX13_isEgg e18) rfl (fX13_isEgg_O e18) (Nat.le_of_ble_eq_true rfl) rfl ew_1881 ew_1883 ew_72 ew_110 ew_1884 hy_X13_isEgg rfl (Nat.le_of_ble_eq_true rfl) (Nat.le_of_ble_eq_true rfl) (Nat.le_of_ble_eq_true rfl) ?_
          refine eg_if_eq 66 dX13_bold_44 rfl (fun c19 => ?_) (fun c19 => ?_)
          · replace hF := eg_it c19 hF
            refine eg_iconst (v := (-1 : Int32)) dX13_bold_66 (by decide) ?_
            exact eg_iretE dX13_bold_67 hF
          · replace hF := eg_if c19 hF
            refine eg_iload (i := 4) 4 dX13_bold_47 rfl ?_
            refine eg_i2l dX13_bold_49 ?_
            refine eg_lconst (v := (1 : Int64)) dX13_bold_50 (by decide) ?_
            refine eg_ldc2 (v := (9 : Int64)) dX13_bold_51 ew_1913 ?_
            replace hF := eg_bind hF; obtain ⟨⟨v21, h20⟩, e22, hF⟩ := hF
            refine eg_callS (n := 3) [.long l4.toInt64, .long (1 : Int64), .long (9 : Int64)] dX13_bold_54 (mX13_isIn e22) rfl ew_1697 ew_1698 ew_110 ew_1699 hy_X13_isIn.2 rfl (Nat.le_of_ble_eq_true rfl) (Nat.le_of_ble_eq_true rfl) (Nat.le_of_ble_eq_true rfl) ?_
            refine eg_if_eq 66 dX13_bold_57 rfl (fun c23 => ?_) (fun c23 => ?_)
            · replace hF := eg_it c23 hF
              refine eg_iconst (v := (-1 : Int32)) dX13_bold_66 (by decide) ?_
              exact eg_iretE dX13_bold_67 hF
            · replace hF := eg_if c23 hF
              refine eg_iload (i := 5) 5 dX13_bold_60 rfl ?_
              refine eg_iconst (v := (-1 : Int32)) dX13_bold_62 (by decide) ?_
              refine eg_ic_ge 68 dX13_bold_63 rfl (fun c24 => ?_) (fun c24 => ?_)
              · replace hF := eg_it c24 hF
                refine eg_iconst (v := (-1 : Int32)) dX13_bold_68 (by decide) ?_
                refine eg_istore (i := 6) [(6, .int (-1 : Int32)), (0, .ref l0), (1, .int l1), (2, .int l2), (3, .int l3), (4, .int l4), (5, .int l5)] dX13_bold_69 (Nat.le_of_ble_eq_true rfl) rfl ?_
                refine eg_iconst (v := (-1 : Int32)) dX13_bold_71 (by decide) ?_
                refine eg_istore (i := 7) [(7, .int (-1 : Int32)), (6, .int (-1 : Int32)), (0, .ref l0), (1, .int l1), (2, .int l2), (3, .int l3), (4, .int l4), (5, .int l5)] dX13_bold_72 (Nat.le_of_ble_eq_true rfl) rfl ?_
                refine eg_iconst (v := (1 : Int32)) dX13_bold_74 (by decide) ?_
                refine eg_istore (i := 8) [(8, .int (1 : Int32)), (7, .int (-1 : Int32)), (6, .int (-1 : Int32)), (0, .ref l0), (1, .int l1), (2, .int l2), (3, .int l3), (4, .int l4), (5, .int l5)] dX13_bold_75 (Nat.le_of_ble_eq_true rfl) rfl ?_
                replace hF := eg_bind hF; obtain ⟨x26, e25, hF⟩ := hF
                refine eg_sub [3, 4, 5, 6, 7, 8, 2, 1, 0] [(0, .ref l0), (1, .int l1), (2, .int l2), (3, .int l3), (4, .int l4), (5, .int l5), (6, .int (-1 : Int32)), (7, .int (-1 : Int32)), (8, .int (1 : Int32))] rfl (fX13_bold_L77_ok eg_F h20 l0 l1 l2 l3 l4 l5 (-1 : Int32) (-1 : Int32) (1 : Int32) x26 e25 ?_)
                · intro p27 v28 v29 v30 v31 v32 v33 v34 h35 e47
                  subst e47
                  refine eg_iconst (v := (0 : Int32)) dX13_bold_129 (by decide) ?_
                  refine eg_istore (i := 8) [(8, .int (0 : Int32)), (0, .ref p27), (1, .int v28), (2, .int v29), (3, .int v30), (4, .int v31), (5, .int v32), (6, .int v33), (7, .int v34)] dX13_bold_130 (Nat.le_of_ble_eq_true rfl) rfl ?_
                  refine eg_iconst (v := (1 : Int32)) dX13_bold_132 (by decide) ?_
                  refine eg_istore (i := 9) [(9, .int (1 : Int32)), (8, .int (0 : Int32)), (0, .ref p27), (1, .int v28), (2, .int v29), (3, .int v30), (4, .int v31), (5, .int v32), (6, .int v33), (7, .int v34)] dX13_bold_133 (Nat.le_of_ble_eq_true rfl) rfl ?_
                  replace hF := eg_bind hF; obtain ⟨x37, e36, hF⟩ := hF
                  refine eg_sub [2, 3, 4, 5, 6, 7, 8, 9, 1, 0] [(0, .ref p27), (1, .int v28), (2, .int v29), (3, .int v30), (4, .int v31), (5, .int v32), (6, .int v33), (7, .int v34), (8, .int (0 : Int32)), (9, .int (1 : Int32))] rfl (fX13_bold_L135_ok eg_F h35 p27 v28 v29 v30 v31 v32 v33 v34 (0 : Int32) (1 : Int32) x37 e36 ?_ ?_)
                  · intro v38 v39 h40 e42
                    subst e42
                    refine eg_iload (i := 5) 0 dX13_bold_220 rfl ?_
                    refine eg_iconst (v := (-1 : Int32)) dX13_bold_222 (by decide) ?_
                    refine eg_ic_ne 231 dX13_bold_223 rfl (fun c41 => ?_) (fun c41 => ?_)
                    · replace hF := eg_it c41 hF
                      refine eg_iload (i := 8) 1 dX13_bold_226 rfl ?_
                      refine eg_goto 232 dX13_bold_228 rfl ?_
                      exact eg_iretE dX13_bold_232 hF
                    · replace hF := eg_if c41 hF
                      refine eg_iconst (v := (-1 : Int32)) dX13_bold_231 (by decide) ?_
                      exact eg_iretE dX13_bold_232 hF
                  · intro v43 v44 h45 e46
                    subst e46
                    refine eg_bipush (v := (10 : Int32)) dX13_bold_196 (by decide) ?_
                    refine eg_iload (i := 9) 0 dX13_bold_198 rfl ?_
                    refine eg_imul dX13_bold_200 ?_
                    refine eg_iload (i := 10) 1 dX13_bold_201 rfl ?_
                    refine eg_iadd dX13_bold_203 ?_
                    exact eg_iretE dX13_bold_204 hF
              · replace hF := eg_if c24 hF
                refine eg_iconst (v := (-1 : Int32)) dX13_bold_66 (by decide) ?_
                exact eg_iretE dX13_bold_67 hF
theorem dX13_layComes_0 : decode cX13_layComes 0 = .ok (.aload_n 0, 1) := by decide +kernel
theorem dX13_layComes_1 : decode cX13_layComes 1 = .ok (.iload_n 1, 1) := by decide +kernel
theorem dX13_layComes_2 : decode cX13_layComes 2 = .ok (.iload_n 2, 1) := by decide +kernel
theorem dX13_layComes_3 : decode cX13_layComes 3 = .ok (.aload_n 0, 1) := by decide +kernel
theorem dX13_layComes_4 : decode cX13_layComes 4 = .ok (.getfield 37, 3) := by decide +kernel
theorem dX13_layComes_7 : decode cX13_layComes 7 = .ok (.iconst 2, 1) := by decide +kernel
theorem dX13_layComes_8 : decode cX13_layComes 8 = .ok (.iaload, 1) := by decide +kernel
theorem dX13_layComes_9 : decode cX13_layComes 9 = .ok (.bipush 60, 2) := by decide +kernel
theorem dX13_layComes_11 : decode cX13_layComes 11 = .ok (.invokevirtual 437, 3) := by decide +kernel
theorem dX13_layComes_14 : decode cX13_layComes 14 = .ok (.istore 4, 2) := by decide +kernel
theorem dX13_layComes_16 : decode cX13_layComes 16 = .ok (.iconst 0, 1) := by decide +kernel
theorem dX13_layComes_17 : decode cX13_layComes 17 = .ok (.istore 5, 2) := by decide +kernel
theorem dX13_layComes_19 : decode cX13_layComes 19 = .ok (.iload 5, 2) := by decide +kernel
theorem dX13_layComes_21 : decode cX13_layComes 21 = .ok (.bipush 62, 2) := by decide +kernel
theorem dX13_layComes_23 : decode cX13_layComes 23 = .ok (.if_icmp .ge 32, 3) := by decide +kernel
theorem dX13_layComes_26 : decode cX13_layComes 26 = .ok (.aload_n 3, 1) := by decide +kernel
theorem dX13_layComes_27 : decode cX13_layComes 27 = .ok (.iload 5, 2) := by decide +kernel
theorem dX13_layComes_29 : decode cX13_layComes 29 = .ok (.iload 5, 2) := by decide +kernel
theorem dX13_layComes_31 : decode cX13_layComes 31 = .ok (.bipush 60, 2) := by decide +kernel
theorem dX13_layComes_33 : decode cX13_layComes 33 = .ok (.if_icmp .ne 8, 3) := by decide +kernel
theorem dX13_layComes_36 : decode cX13_layComes 36 = .ok (.iload 4, 2) := by decide +kernel
theorem dX13_layComes_38 : decode cX13_layComes 38 = .ok (.goto 10, 3) := by decide +kernel
theorem dX13_layComes_41 : decode cX13_layComes 41 = .ok (.aload_n 0, 1) := by decide +kernel
theorem dX13_layComes_42 : decode cX13_layComes 42 = .ok (.getfield 72, 3) := by decide +kernel
theorem dX13_layComes_45 : decode cX13_layComes 45 = .ok (.iload 5, 2) := by decide +kernel
theorem dX13_layComes_47 : decode cX13_layComes 47 = .ok (.iaload, 1) := by decide +kernel
theorem dX13_layComes_48 : decode cX13_layComes 48 = .ok (.iastore, 1) := by decide +kernel
theorem dX13_layComes_49 : decode cX13_layComes 49 = .ok (.iinc 5 1, 3) := by decide +kernel
theorem dX13_layComes_52 : decode cX13_layComes 52 = .ok (.goto (-33), 3) := by decide +kernel
theorem dX13_layComes_55 : decode cX13_layComes 55 = .ok (.return_, 1) := by decide +kernel
def fX13_layComes_L19 : Nat → eg_H → Nat → Nat → Int32 → Int32 → Option (eg_H)
  | 0, _, _, _, _, _ => none
  | n + 1, h, l0, l3, l4, l5 =>
    if (62 : Int32) ≤ l5 then
      (some h)
    else
      if l5 = (60 : Int32) then
        ((eg_wI h 100 l3 l5 l4).bind fun h3 =>
        fX13_layComes_L19 n h3 l0 l3 l4 (l5 + (1 : Int32)))
      else
        (eg_gR h 13 39 l0).bind fun p5 =>
        (eg_aI h 100 p5 l5).bind fun v7 =>
        (eg_wI h 100 l3 l5 v7).bind fun h9 =>
        fX13_layComes_L19 n h9 l0 l3 l4 (l5 + (1 : Int32))
set_option maxRecDepth 20000 in
theorem fX13_layComes_L19_ok {h0 : eg_H} {Z : eg_C → State → Prop} {N S : Nat} : ∀ (n : Nat) (h : eg_H) (l0 : Nat) (l3 : Nat) (l4 : Int32) (l5 : Int32) (eE : eg_H), fX13_layComes_L19 n h l0 l3 l4 l5 = some eE → (hk0 : ∀  (h : eg_H), eE = h → eg_AW (RX13, cX13_layComes, 6, 399, none, "layComes", none) Z N S h0 55 [] [] h) → eg_AW (RX13, cX13_layComes, 6, 399, none, "layComes", none) Z N S h0 19 [(0, .ref l0), (3, .ref l3), (4, .int l4), (5, .int l5)] [] h := by
  intro n
  induction n with
  | zero => intro h l0 l3 l4 l5 eE hF; exact absurd hF (by intro q; cases q)
  | succ n ih =>
    intro h l0 l3 l4 l5 eE hF hk0
    have hrec := fun (h' : eg_H) (l0 : Nat) (l3 : Nat) (l4 : Int32) (l5 : Int32) hq => ih h' l0 l3 l4 l5 eE hq hk0
    refine eg_iload (i := 5) 3 dX13_layComes_19 rfl ?_
    refine eg_bipush (v := (62 : Int32)) dX13_layComes_21 (by decide) ?_
    refine eg_ic_ge 55 dX13_layComes_23 rfl (fun c1 => ?_) (fun c1 => ?_)
    · replace hF := eg_it c1 hF
      exact eg_sub [] [] rfl (hk0 h (Option.some.inj hF).symm)
    · replace hF := eg_if c1 hF
      refine eg_aload_n (i := 3) 1 dX13_layComes_26 rfl rfl ?_
      refine eg_iload (i := 5) 3 dX13_layComes_27 rfl ?_
      refine eg_iload (i := 5) 3 dX13_layComes_29 rfl ?_
      refine eg_bipush (v := (60 : Int32)) dX13_layComes_31 (by decide) ?_
      refine eg_ic_ne 41 dX13_layComes_33 rfl (fun c2 => ?_) (fun c2 => ?_)
      · replace hF := eg_it c2 hF
        refine eg_iload (i := 4) 2 dX13_layComes_36 rfl ?_
        refine eg_goto 48 dX13_layComes_38 rfl ?_
        replace hF := eg_bind hF; obtain ⟨h3, e4, hF⟩ := hF
        refine eg_iast dX13_layComes_48 e4 ?_
        refine eg_iinc (i := 5) (v := (l5 + (1 : Int32))) 3 [(5, .int (l5 + (1 : Int32))), (0, .ref l0), (3, .ref l3), (4, .int l4)] dX13_layComes_49 rfl rfl (Nat.le_of_ble_eq_true rfl) rfl ?_
        refine eg_goto 19 dX13_layComes_52 rfl ?_
        exact eg_sub [1, 2, 3, 0] [(0, .ref l0), (3, .ref l3), (4, .int l4), (5, .int (l5 + (1 : Int32)))] rfl (hrec h3 l0 l3 l4 (l5 + (1 : Int32)) hF)
      · replace hF := eg_if c2 hF
        refine eg_aload_n (i := 0) 0 dX13_layComes_41 rfl rfl ?_
        replace hF := eg_bind hF; obtain ⟨p5, e6, hF⟩ := hF
        refine eg_getR dX13_layComes_42 e6 (Nat.le_of_ble_eq_true rfl) (Nat.le_of_ble_eq_true rfl) rfl ew_1473 ?_
        refine eg_iload (i := 5) 3 dX13_layComes_45 rfl ?_
        replace hF := eg_bind hF; obtain ⟨v7, e8, hF⟩ := hF
        refine eg_iald dX13_layComes_47 e8 ?_
        replace hF := eg_bind hF; obtain ⟨h9, e10, hF⟩ := hF
        refine eg_iast dX13_layComes_48 e10 ?_
        refine eg_iinc (i := 5) (v := (l5 + (1 : Int32))) 3 [(5, .int (l5 + (1 : Int32))), (0, .ref l0), (3, .ref l3), (4, .int l4)] dX13_layComes_49 rfl rfl (Nat.le_of_ble_eq_true rfl) rfl ?_
        refine eg_goto 19 dX13_layComes_52 rfl ?_
        exact eg_sub [1, 2, 3, 0] [(0, .ref l0), (3, .ref l3), (4, .int l4), (5, .int (l5 + (1 : Int32)))] rfl (hrec h9 l0 l3 l4 (l5 + (1 : Int32)) hF)
def fX13_layComes (h : eg_H) (l0 : Nat) (l1 : Int32) (l2 : Int32) (l3 : Nat) : Option (eg_H) :=
  if eg_isO h 13 l0 then (
    (eg_gR h 13 18 l0).bind fun p1 =>
    (eg_aI h 100 p1 (2 : Int32)).bind fun v3 =>
    (fX13_goPair h l0 l1 l2 v3 (60 : Int32)).bind fun ⟨v6, h5⟩ =>
    (fX13_layComes_L19 eg_F h5 l0 l3 v6 (0 : Int32)).bind fun e =>
    match e with
    | h10 =>
      some h10) else none
theorem fX13_layComes_O {h : eg_H} {l0 : Nat} {l1 : Int32} {l2 : Int32} {l3 : Nat} {hE : eg_H} (hF : fX13_layComes h l0 l1 l2 l3 = some hE) : eg_isO h 13 l0 := (eg_ifn hF).1
set_option maxRecDepth 20000 in
theorem mX13_layComes {h : eg_H} {l0 : Nat} {l1 : Int32} {l2 : Int32} {l3 : Nat} {hE : eg_H} (hF : fX13_layComes h l0 l1 l2 l3 = some hE) : eg_Met yX13_layComes cX13_layComes 6 none 399 [.ref l0, .int l1, .int l2, .ref l3] h none hE := by
  refine eg_enter rfl (Nat.le_of_ble_eq_true rfl) ?_
  show eg_AW (RX13, cX13_layComes, 6, 399, none, "layComes", none) (eg_Zm none hE h) (eg_nc hE) (eg_ns hE) h 0 [(0, .ref l0), (1, .int l1), (2, .int l2), (3, .ref l3)] [] h
  replace hF := (eg_ifn hF).2
  refine eg_aload_n (i := 0) 0 dX13_layComes_0 rfl rfl ?_
  refine eg_iload_n (i := 1) 1 dX13_layComes_1 rfl rfl ?_
  refine eg_iload_n (i := 2) 2 dX13_layComes_2 rfl rfl ?_
  refine eg_aload_n (i := 0) 0 dX13_layComes_3 rfl rfl ?_
  replace hF := eg_bind hF; obtain ⟨p1, e2, hF⟩ := hF
  refine eg_getR dX13_layComes_4 e2 (Nat.le_of_ble_eq_true rfl) (Nat.le_of_ble_eq_true rfl) rfl ew_1452 ?_
  refine eg_iconst (v := (2 : Int32)) dX13_layComes_7 (by decide) ?_
  replace hF := eg_bind hF; obtain ⟨v3, e4, hF⟩ := hF
  refine eg_iald dX13_layComes_8 e4 ?_
  refine eg_bipush (v := (60 : Int32)) dX13_layComes_9 (by decide) ?_
  replace hF := eg_bind hF; obtain ⟨⟨v6, h5⟩, e7, hF⟩ := hF
  refine eg_callV (c := 13) (n := 4) [.int l1, .int l2, .int v3, .int (60 : Int32)] dX13_layComes_11 (mX13_goPair e7) rfl (fX13_goPair_O e7) (Nat.le_of_ble_eq_true rfl) rfl ew_1973 ew_1975 ew_85 ew_110 ew_1976 hy_X13_goPair rfl (Nat.le_of_ble_eq_true rfl) (Nat.le_of_ble_eq_true rfl) (Nat.le_of_ble_eq_true rfl) ?_
  refine eg_istore (i := 4) [(4, .int v6), (0, .ref l0), (1, .int l1), (2, .int l2), (3, .ref l3)] dX13_layComes_14 (Nat.le_of_ble_eq_true rfl) rfl ?_
  refine eg_iconst (v := (0 : Int32)) dX13_layComes_16 (by decide) ?_
  refine eg_istore (i := 5) [(5, .int (0 : Int32)), (4, .int v6), (0, .ref l0), (1, .int l1), (2, .int l2), (3, .ref l3)] dX13_layComes_17 (Nat.le_of_ble_eq_true rfl) rfl ?_
  replace hF := eg_bind hF; obtain ⟨x9, e8, hF⟩ := hF
  refine eg_sub [2, 5, 1, 0] [(0, .ref l0), (3, .ref l3), (4, .int v6), (5, .int (0 : Int32))] rfl (fX13_layComes_L19_ok eg_F h5 l0 l3 v6 (0 : Int32) x9 e8 ?_)
  · intro h10 e11
    subst e11
    exact eg_vretE dX13_layComes_55 hF
theorem dX13_duel_0 : decode cX13_duel 0 = .ok (.aload_n 0, 1) := by decide +kernel
theorem dX13_duel_1 : decode cX13_duel 1 = .ok (.iconst 0, 1) := by decide +kernel
theorem dX13_duel_2 : decode cX13_duel 2 = .ok (.putfield 148, 3) := by decide +kernel
theorem dX13_duel_5 : decode cX13_duel 5 = .ok (.aload_n 0, 1) := by decide +kernel
theorem dX13_duel_6 : decode cX13_duel 6 = .ok (.iload_n 1, 1) := by decide +kernel
theorem dX13_duel_7 : decode cX13_duel 7 = .ok (.invokevirtual 405, 3) := by decide +kernel
theorem dX13_duel_10 : decode cX13_duel 10 = .ok (.ifCond .eq 48, 3) := by decide +kernel
theorem dX13_duel_13 : decode cX13_duel 13 = .ok (.aload_n 0, 1) := by decide +kernel
theorem dX13_duel_14 : decode cX13_duel 14 = .ok (.iload_n 2, 1) := by decide +kernel
theorem dX13_duel_15 : decode cX13_duel 15 = .ok (.invokevirtual 405, 3) := by decide +kernel
theorem dX13_duel_18 : decode cX13_duel 18 = .ok (.ifCond .eq 40, 3) := by decide +kernel
theorem dX13_duel_21 : decode cX13_duel 21 = .ok (.iload_n 3, 1) := by decide +kernel
theorem dX13_duel_22 : decode cX13_duel 22 = .ok (.ifCond .lt 36, 3) := by decide +kernel
theorem dX13_duel_25 : decode cX13_duel 25 = .ok (.aload_n 0, 1) := by decide +kernel
theorem dX13_duel_26 : decode cX13_duel 26 = .ok (.iload_n 3, 1) := by decide +kernel
theorem dX13_duel_27 : decode cX13_duel 27 = .ok (.bipush 10, 2) := by decide +kernel
theorem dX13_duel_29 : decode cX13_duel 29 = .ok (.idiv, 1) := by decide +kernel
theorem dX13_duel_30 : decode cX13_duel 30 = .ok (.invokevirtual 356, 3) := by decide +kernel
theorem dX13_duel_33 : decode cX13_duel 33 = .ok (.ifCond .eq 25, 3) := by decide +kernel
theorem dX13_duel_36 : decode cX13_duel 36 = .ok (.aload_n 0, 1) := by decide +kernel
theorem dX13_duel_37 : decode cX13_duel 37 = .ok (.iload_n 3, 1) := by decide +kernel
theorem dX13_duel_38 : decode cX13_duel 38 = .ok (.bipush 10, 2) := by decide +kernel
theorem dX13_duel_40 : decode cX13_duel 40 = .ok (.irem, 1) := by decide +kernel
theorem dX13_duel_41 : decode cX13_duel 41 = .ok (.invokevirtual 356, 3) := by decide +kernel
theorem dX13_duel_44 : decode cX13_duel 44 = .ok (.ifCond .eq 14, 3) := by decide +kernel
theorem dX13_duel_47 : decode cX13_duel 47 = .ok (.iload 4, 2) := by decide +kernel
theorem dX13_duel_49 : decode cX13_duel 49 = .ok (.i2l, 1) := by decide +kernel
theorem dX13_duel_50 : decode cX13_duel 50 = .ok (.lconst 0, 1) := by decide +kernel
theorem dX13_duel_51 : decode cX13_duel 51 = .ok (.lconst 1, 1) := by decide +kernel
theorem dX13_duel_52 : decode cX13_duel 52 = .ok (.invokestatic 269, 3) := by decide +kernel
theorem dX13_duel_55 : decode cX13_duel 55 = .ok (.ifCond .ne 7, 3) := by decide +kernel
theorem dX13_duel_58 : decode cX13_duel 58 = .ok (.ldc2_w 444, 3) := by decide +kernel
theorem dX13_duel_61 : decode cX13_duel 61 = .ok (.lreturn, 1) := by decide +kernel
theorem dX13_duel_62 : decode cX13_duel 62 = .ok (.aload_n 0, 1) := by decide +kernel
theorem dX13_duel_63 : decode cX13_duel 63 = .ok (.iload_n 1, 1) := by decide +kernel
theorem dX13_duel_64 : decode cX13_duel 64 = .ok (.iload_n 3, 1) := by decide +kernel
theorem dX13_duel_65 : decode cX13_duel 65 = .ok (.bipush 10, 2) := by decide +kernel
theorem dX13_duel_67 : decode cX13_duel 67 = .ok (.idiv, 1) := by decide +kernel
theorem dX13_duel_68 : decode cX13_duel 68 = .ok (.bipush 10, 2) := by decide +kernel
theorem dX13_duel_70 : decode cX13_duel 70 = .ok (.imul, 1) := by decide +kernel
theorem dX13_duel_71 : decode cX13_duel 71 = .ok (.aload_n 0, 1) := by decide +kernel
theorem dX13_duel_72 : decode cX13_duel 72 = .ok (.getfield 91, 3) := by decide +kernel
theorem dX13_duel_75 : decode cX13_duel 75 = .ok (.invokevirtual 468, 3) := by decide +kernel
theorem dX13_duel_78 : decode cX13_duel 78 = .ok (.aload_n 0, 1) := by decide +kernel
theorem dX13_duel_79 : decode cX13_duel 79 = .ok (.iload_n 2, 1) := by decide +kernel
theorem dX13_duel_80 : decode cX13_duel 80 = .ok (.iload_n 3, 1) := by decide +kernel
theorem dX13_duel_81 : decode cX13_duel 81 = .ok (.bipush 10, 2) := by decide +kernel
theorem dX13_duel_83 : decode cX13_duel 83 = .ok (.irem, 1) := by decide +kernel
theorem dX13_duel_84 : decode cX13_duel 84 = .ok (.bipush 10, 2) := by decide +kernel
theorem dX13_duel_86 : decode cX13_duel 86 = .ok (.imul, 1) := by decide +kernel
theorem dX13_duel_87 : decode cX13_duel 87 = .ok (.aload_n 0, 1) := by decide +kernel
theorem dX13_duel_88 : decode cX13_duel 88 = .ok (.getfield 94, 3) := by decide +kernel
theorem dX13_duel_91 : decode cX13_duel 91 = .ok (.invokevirtual 468, 3) := by decide +kernel
theorem dX13_duel_94 : decode cX13_duel 94 = .ok (.lconst 0, 1) := by decide +kernel
theorem dX13_duel_95 : decode cX13_duel 95 = .ok (.lstore 5, 2) := by decide +kernel
theorem dX13_duel_97 : decode cX13_duel 97 = .ok (.iconst 0, 1) := by decide +kernel
theorem dX13_duel_98 : decode cX13_duel 98 = .ok (.istore 7, 2) := by decide +kernel
theorem dX13_duel_100 : decode cX13_duel 100 = .ok (.iload 7, 2) := by decide +kernel
theorem dX13_duel_102 : decode cX13_duel 102 = .ok (.bipush 60, 2) := by decide +kernel
theorem dX13_duel_104 : decode cX13_duel 104 = .ok (.if_icmp .gt 78, 3) := by decide +kernel
theorem dX13_duel_107 : decode cX13_duel 107 = .ok (.aload_n 0, 1) := by decide +kernel
theorem dX13_duel_108 : decode cX13_duel 108 = .ok (.getfield 91, 3) := by decide +kernel
theorem dX13_duel_111 : decode cX13_duel 111 = .ok (.iload 7, 2) := by decide +kernel
theorem dX13_duel_113 : decode cX13_duel 113 = .ok (.iaload, 1) := by decide +kernel
theorem dX13_duel_114 : decode cX13_duel 114 = .ok (.aload_n 0, 1) := by decide +kernel
theorem dX13_duel_115 : decode cX13_duel 115 = .ok (.getfield 91, 3) := by decide +kernel
theorem dX13_duel_118 : decode cX13_duel 118 = .ok (.iload 7, 2) := by decide +kernel
theorem dX13_duel_120 : decode cX13_duel 120 = .ok (.iconst 1, 1) := by decide +kernel
theorem dX13_duel_121 : decode cX13_duel 121 = .ok (.iadd, 1) := by decide +kernel
theorem dX13_duel_122 : decode cX13_duel 122 = .ok (.iaload, 1) := by decide +kernel
theorem dX13_duel_123 : decode cX13_duel 123 = .ok (.isub, 1) := by decide +kernel
theorem dX13_duel_124 : decode cX13_duel 124 = .ok (.i2l, 1) := by decide +kernel
theorem dX13_duel_125 : decode cX13_duel 125 = .ok (.lstore 8, 2) := by decide +kernel
theorem dX13_duel_127 : decode cX13_duel 127 = .ok (.lload 5, 2) := by decide +kernel
theorem dX13_duel_129 : decode cX13_duel 129 = .ok (.lload 8, 2) := by decide +kernel
theorem dX13_duel_131 : decode cX13_duel 131 = .ok (.iload 4, 2) := by decide +kernel
theorem dX13_duel_133 : decode cX13_duel 133 = .ok (.ifCond .ne 17, 3) := by decide +kernel
theorem dX13_duel_136 : decode cX13_duel 136 = .ok (.ldc_w 429, 3) := by decide +kernel
theorem dX13_duel_139 : decode cX13_duel 139 = .ok (.aload_n 0, 1) := by decide +kernel
theorem dX13_duel_140 : decode cX13_duel 140 = .ok (.getfield 94, 3) := by decide +kernel
theorem dX13_duel_143 : decode cX13_duel 143 = .ok (.iload 7, 2) := by decide +kernel
theorem dX13_duel_145 : decode cX13_duel 145 = .ok (.iaload, 1) := by decide +kernel
theorem dX13_duel_146 : decode cX13_duel 146 = .ok (.isub, 1) := by decide +kernel
theorem dX13_duel_147 : decode cX13_duel 147 = .ok (.goto 20, 3) := by decide +kernel
theorem dX13_duel_150 : decode cX13_duel 150 = .ok (.aload_n 0, 1) := by decide +kernel
theorem dX13_duel_151 : decode cX13_duel 151 = .ok (.getfield 94, 3) := by decide +kernel
theorem dX13_duel_154 : decode cX13_duel 154 = .ok (.iload 7, 2) := by decide +kernel
theorem dX13_duel_156 : decode cX13_duel 156 = .ok (.iaload, 1) := by decide +kernel
theorem dX13_duel_157 : decode cX13_duel 157 = .ok (.aload_n 0, 1) := by decide +kernel
theorem dX13_duel_158 : decode cX13_duel 158 = .ok (.getfield 94, 3) := by decide +kernel
theorem dX13_duel_161 : decode cX13_duel 161 = .ok (.iload 7, 2) := by decide +kernel
theorem dX13_duel_163 : decode cX13_duel 163 = .ok (.iconst 1, 1) := by decide +kernel
theorem dX13_duel_164 : decode cX13_duel 164 = .ok (.iadd, 1) := by decide +kernel
theorem dX13_duel_165 : decode cX13_duel 165 = .ok (.iaload, 1) := by decide +kernel
theorem dX13_duel_166 : decode cX13_duel 166 = .ok (.isub, 1) := by decide +kernel
theorem dX13_duel_167 : decode cX13_duel 167 = .ok (.i2l, 1) := by decide +kernel
theorem dX13_duel_168 : decode cX13_duel 168 = .ok (.lmul, 1) := by decide +kernel
theorem dX13_duel_169 : decode cX13_duel 169 = .ok (.ldc2_w 472, 3) := by decide +kernel
theorem dX13_duel_172 : decode cX13_duel 172 = .ok (.ldiv, 1) := by decide +kernel
theorem dX13_duel_173 : decode cX13_duel 173 = .ok (.ladd, 1) := by decide +kernel
theorem dX13_duel_174 : decode cX13_duel 174 = .ok (.lstore 5, 2) := by decide +kernel
theorem dX13_duel_176 : decode cX13_duel 176 = .ok (.iinc 7 1, 3) := by decide +kernel
theorem dX13_duel_179 : decode cX13_duel 179 = .ok (.goto (-79), 3) := by decide +kernel
theorem dX13_duel_182 : decode cX13_duel 182 = .ok (.lload 5, 2) := by decide +kernel
theorem dX13_duel_184 : decode cX13_duel 184 = .ok (.lreturn, 1) := by decide +kernel
def fX13_duel_L100 : Nat → eg_H → Nat → Int32 → Int64 → Int32 → Option (Int64 × eg_H)
  | 0, _, _, _, _, _ => none
  | n + 1, h, l0, l4, l5, l7 =>
    if (60 : Int32) < l7 then
      (some (l5, h))
    else
      (eg_gR h 13 50 l0).bind fun p2 =>
      (eg_aI h 100 p2 l7).bind fun v4 =>
      (eg_gR h 13 50 l0).bind fun p6 =>
      (eg_aI h 100 p6 (l7 + (1 : Int32))).bind fun v8 =>
      (some ((v4 - v8).toInt64)).bind fun v10 =>
      if l4 = 0 then
        ((eg_gR h 13 51 l0).bind fun p13 =>
        (eg_aI h 100 p13 l7).bind fun v15 =>
        (some ((l5 + ((v10 * ((1000000000 : Int32) - v15).toInt64) / (1000000000 : Int64))))).bind fun v17 =>
        fX13_duel_L100 n h l0 l4 v17 (l7 + (1 : Int32)))
      else
        (eg_gR h 13 51 l0).bind fun p19 =>
        (eg_aI h 100 p19 l7).bind fun v21 =>
        (eg_gR h 13 51 l0).bind fun p23 =>
        (eg_aI h 100 p23 (l7 + (1 : Int32))).bind fun v25 =>
        (some ((l5 + ((v10 * (v21 - v25).toInt64) / (1000000000 : Int64))))).bind fun v27 =>
        fX13_duel_L100 n h l0 l4 v27 (l7 + (1 : Int32))
set_option maxRecDepth 20000 in
theorem fX13_duel_L100_ok {h0 : eg_H} {Z : eg_C → State → Prop} {N S : Nat} : ∀ (n : Nat) (h : eg_H) (l0 : Nat) (l4 : Int32) (l5 : Int64) (l7 : Int32) (eE : Int64 × eg_H), fX13_duel_L100 n h l0 l4 l5 l7 = some eE → (hk0 : ∀ (l5 : Int64) (h : eg_H), eE = (l5, h) → eg_AW (RX13, cX13_duel, 10, 400, none, "duel", (some .long)) Z N S h0 182 [(5, .long l5)] [] h) → eg_AW (RX13, cX13_duel, 10, 400, none, "duel", (some .long)) Z N S h0 100 [(0, .ref l0), (4, .int l4), (5, .long l5), (7, .int l7)] [] h := by
  intro n
  induction n with
  | zero => intro h l0 l4 l5 l7 eE hF; exact absurd hF (by intro q; cases q)
  | succ n ih =>
    intro h l0 l4 l5 l7 eE hF hk0
    have hrec := fun (h' : eg_H) (l0 : Nat) (l4 : Int32) (l5 : Int64) (l7 : Int32) hq => ih h' l0 l4 l5 l7 eE hq hk0
    refine eg_iload (i := 7) 3 dX13_duel_100 rfl ?_
    refine eg_bipush (v := (60 : Int32)) dX13_duel_102 (by decide) ?_
    refine eg_ic_gt 182 dX13_duel_104 rfl (fun c1 => ?_) (fun c1 => ?_)
    · replace hF := eg_it c1 hF
      exact eg_sub [2] [(5, .long l5)] rfl (hk0 l5 h (Option.some.inj hF).symm)
    · replace hF := eg_if c1 hF
      refine eg_aload_n (i := 0) 0 dX13_duel_107 rfl rfl ?_
      replace hF := eg_bind hF; obtain ⟨p2, e3, hF⟩ := hF
      refine eg_getR dX13_duel_108 e3 (Nat.le_of_ble_eq_true rfl) (Nat.le_of_ble_eq_true rfl) rfl ew_1484 ?_
      refine eg_iload (i := 7) 3 dX13_duel_111 rfl ?_
      replace hF := eg_bind hF; obtain ⟨v4, e5, hF⟩ := hF
      refine eg_iald dX13_duel_113 e5 ?_
      refine eg_aload_n (i := 0) 0 dX13_duel_114 rfl rfl ?_
      replace hF := eg_bind hF; obtain ⟨p6, e7, hF⟩ := hF
      refine eg_getR dX13_duel_115 e7 (Nat.le_of_ble_eq_true rfl) (Nat.le_of_ble_eq_true rfl) rfl ew_1484 ?_
      refine eg_iload (i := 7) 3 dX13_duel_118 rfl ?_
      refine eg_iconst (v := (1 : Int32)) dX13_duel_120 (by decide) ?_
      refine eg_iadd dX13_duel_121 ?_
      replace hF := eg_bind hF; obtain ⟨v8, e9, hF⟩ := hF
      refine eg_iald dX13_duel_122 e9 ?_
      refine eg_isub dX13_duel_123 ?_
      refine eg_i2l dX13_duel_124 ?_
      replace hF := eg_bind hF; obtain ⟨v10, e11, hF⟩ := hF
      replace e11 := Option.some.inj e11
      rw [e11]
      refine eg_lstore (i := 8) [(8, .long v10), (0, .ref l0), (4, .int l4), (5, .long l5), (7, .int l7)] dX13_duel_125 (Nat.le_of_ble_eq_true rfl) rfl ?_
      refine eg_lload (i := 5) 3 dX13_duel_127 rfl ?_
      refine eg_lload (i := 8) 0 dX13_duel_129 rfl ?_
      refine eg_iload (i := 4) 2 dX13_duel_131 rfl ?_
      refine eg_if_ne 150 dX13_duel_133 rfl (fun c12 => ?_) (fun c12 => ?_)
      · replace hF := eg_it c12 hF
        refine eg_ldcw (v := (1000000000 : Int32)) dX13_duel_136 ew_1977 ?_
        refine eg_aload_n (i := 0) 1 dX13_duel_139 rfl rfl ?_
        replace hF := eg_bind hF; obtain ⟨p13, e14, hF⟩ := hF
        refine eg_getR dX13_duel_140 e14 (Nat.le_of_ble_eq_true rfl) (Nat.le_of_ble_eq_true rfl) rfl ew_1485 ?_
        refine eg_iload (i := 7) 4 dX13_duel_143 rfl ?_
        replace hF := eg_bind hF; obtain ⟨v15, e16, hF⟩ := hF
        refine eg_iald dX13_duel_145 e16 ?_
        refine eg_isub dX13_duel_146 ?_
        refine eg_goto 167 dX13_duel_147 rfl ?_
        refine eg_i2l dX13_duel_167 ?_
        refine eg_lmul dX13_duel_168 ?_
        refine eg_ldc2 (v := (1000000000 : Int64)) dX13_duel_169 ew_2041 ?_
        refine eg_ldiv dX13_duel_172 (by decide) ?_
        refine eg_ladd dX13_duel_173 ?_
        replace hF := eg_bind hF; obtain ⟨v17, e18, hF⟩ := hF
        replace e18 := Option.some.inj e18
        rw [e18]
        refine eg_lstore (i := 5) [(5, .long v17), (8, .long v10), (0, .ref l0), (4, .int l4), (7, .int l7)] dX13_duel_174 (Nat.le_of_ble_eq_true rfl) rfl ?_
        refine eg_iinc (i := 7) (v := (l7 + (1 : Int32))) 4 [(7, .int (l7 + (1 : Int32))), (5, .long v17), (8, .long v10), (0, .ref l0), (4, .int l4)] dX13_duel_176 rfl rfl (Nat.le_of_ble_eq_true rfl) rfl ?_
        refine eg_goto 100 dX13_duel_179 rfl ?_
        exact eg_sub [3, 4, 1, 0] [(0, .ref l0), (4, .int l4), (5, .long v17), (7, .int (l7 + (1 : Int32)))] rfl (hrec h l0 l4 v17 (l7 + (1 : Int32)) hF)
      · replace hF := eg_if c12 hF
        refine eg_aload_n (i := 0) 1 dX13_duel_150 rfl rfl ?_
        replace hF := eg_bind hF; obtain ⟨p19, e20, hF⟩ := hF
        refine eg_getR dX13_duel_151 e20 (Nat.le_of_ble_eq_true rfl) (Nat.le_of_ble_eq_true rfl) rfl ew_1485 ?_
        refine eg_iload (i := 7) 4 dX13_duel_154 rfl ?_
        replace hF := eg_bind hF; obtain ⟨v21, e22, hF⟩ := hF
        refine eg_iald dX13_duel_156 e22 ?_
        refine eg_aload_n (i := 0) 1 dX13_duel_157 rfl rfl ?_
        replace hF := eg_bind hF; obtain ⟨p23, e24, hF⟩ := hF
        refine eg_getR dX13_duel_158 e24 (Nat.le_of_ble_eq_true rfl) (Nat.le_of_ble_eq_true rfl) rfl ew_1485 ?_
        refine eg_iload (i := 7) 4 dX13_duel_161 rfl ?_
        refine eg_iconst (v := (1 : Int32)) dX13_duel_163 (by decide) ?_
        refine eg_iadd dX13_duel_164 ?_
        replace hF := eg_bind hF; obtain ⟨v25, e26, hF⟩ := hF
        refine eg_iald dX13_duel_165 e26 ?_
        refine eg_isub dX13_duel_166 ?_
        refine eg_i2l dX13_duel_167 ?_
        refine eg_lmul dX13_duel_168 ?_
        refine eg_ldc2 (v := (1000000000 : Int64)) dX13_duel_169 ew_2041 ?_
        refine eg_ldiv dX13_duel_172 (by decide) ?_
        refine eg_ladd dX13_duel_173 ?_
        replace hF := eg_bind hF; obtain ⟨v27, e28, hF⟩ := hF
        replace e28 := Option.some.inj e28
        rw [e28]
        refine eg_lstore (i := 5) [(5, .long v27), (8, .long v10), (0, .ref l0), (4, .int l4), (7, .int l7)] dX13_duel_174 (Nat.le_of_ble_eq_true rfl) rfl ?_
        refine eg_iinc (i := 7) (v := (l7 + (1 : Int32))) 4 [(7, .int (l7 + (1 : Int32))), (5, .long v27), (8, .long v10), (0, .ref l0), (4, .int l4)] dX13_duel_176 rfl rfl (Nat.le_of_ble_eq_true rfl) rfl ?_
        refine eg_goto 100 dX13_duel_179 rfl ?_
        exact eg_sub [3, 4, 1, 0] [(0, .ref l0), (4, .int l4), (5, .long v27), (7, .int (l7 + (1 : Int32)))] rfl (hrec h l0 l4 v27 (l7 + (1 : Int32)) hF)
def fX13_duel (h : eg_H) (l0 : Nat) (l1 : Int32) (l2 : Int32) (l3 : Int32) (l4 : Int32) : Option (Int64 × eg_H) :=
  if eg_isO h 13 l0 then (
    (eg_pI h 13 0 l0 (0 : Int32)).bind fun h1 =>
    (fX13_isTwo h1 l0 l1).bind fun ⟨v4, h3⟩ =>
    if v4 = 0 then
      (some ((-1 : Int64), h3))
    else
      (fX13_isTwo h3 l0 l2).bind fun ⟨v8, h7⟩ =>
      if v8 = 0 then
        (some ((-1 : Int64), h7))
      else
        if l3 < 0 then
          (some ((-1 : Int64), h7))
        else
          (fX13_isEgg h7 l0 (l3 / (10 : Int32))).bind fun ⟨v13, h12⟩ =>
          if v13 = 0 then
            (some ((-1 : Int64), h12))
          else
            (fX13_isEgg h12 l0 (l3 % (10 : Int32))).bind fun ⟨v17, h16⟩ =>
            if v17 = 0 then
              (some ((-1 : Int64), h16))
            else
              (fX13_isIn h16 l4.toInt64 (0 : Int64) (1 : Int64)).bind fun ⟨v21, h20⟩ =>
              if v21 = 0 then
                (some ((-1 : Int64), h20))
              else
                (eg_gR h20 13 50 l0).bind fun p24 =>
                (fX13_layComes h20 l0 l1 ((l3 / (10 : Int32)) * (10 : Int32)) p24).bind fun h26 =>
                (eg_gR h26 13 51 l0).bind fun p28 =>
                (fX13_layComes h26 l0 l2 ((l3 % (10 : Int32)) * (10 : Int32)) p28).bind fun h30 =>
                (fX13_duel_L100 eg_F h30 l0 l4 (0 : Int64) (0 : Int32)).bind fun e =>
                match e with
                | (v34, h35) =>
                  some (v34, h35)) else none
theorem fX13_duel_O {h : eg_H} {l0 : Nat} {l1 : Int32} {l2 : Int32} {l3 : Int32} {l4 : Int32} {rE : Int64} {hE : eg_H} (hF : fX13_duel h l0 l1 l2 l3 l4 = some (rE, hE)) : eg_isO h 13 l0 := (eg_ifn hF).1
set_option maxRecDepth 20000 in
theorem mX13_duel {h : eg_H} {l0 : Nat} {l1 : Int32} {l2 : Int32} {l3 : Int32} {l4 : Int32} {rE : Int64} {hE : eg_H} (hF : fX13_duel h l0 l1 l2 l3 l4 = some (rE, hE)) : eg_Met yX13_duel cX13_duel 10 (some .long) 400 [.ref l0, .int l1, .int l2, .int l3, .int l4] h (some (.long rE)) hE := by
  refine eg_enter rfl (Nat.le_of_ble_eq_true rfl) ?_
  show eg_AW (RX13, cX13_duel, 10, 400, none, "duel", (some .long)) (eg_Zm (some (.long rE)) hE h) (eg_nc hE) (eg_ns hE) h 0 [(0, .ref l0), (1, .int l1), (2, .int l2), (3, .int l3), (4, .int l4)] [] h
  replace hF := (eg_ifn hF).2
  refine eg_aload_n (i := 0) 0 dX13_duel_0 rfl rfl ?_
  refine eg_iconst (v := (0 : Int32)) dX13_duel_1 (by decide) ?_
  replace hF := eg_bind hF; obtain ⟨h1, e2, hF⟩ := hF
  refine eg_putI dX13_duel_2 e2 (Nat.le_of_ble_eq_true rfl) (Nat.le_of_ble_eq_true rfl) rfl ew_1434 (Or.inl rfl) ?_
  refine eg_aload_n (i := 0) 0 dX13_duel_5 rfl rfl ?_
  refine eg_iload_n (i := 1) 1 dX13_duel_6 rfl rfl ?_
  replace hF := eg_bind hF; obtain ⟨⟨v4, h3⟩, e5, hF⟩ := hF
  refine eg_callV (c := 13) (n := 1) [.int l1] dX13_duel_7 (mX13_isTwo e5) rfl (fX13_isTwo_O e5) (Nat.le_of_ble_eq_true rfl) rfl ew_1929 ew_1931 ew_76 ew_110 ew_1932 hy_X13_isTwo rfl (Nat.le_of_ble_eq_true rfl) (Nat.le_of_ble_eq_true rfl) (Nat.le_of_ble_eq_true rfl) ?_
  refine eg_if_eq 58 dX13_duel_10 rfl (fun c6 => ?_) (fun c6 => ?_)
  · replace hF := eg_it c6 hF
    refine eg_ldc2 (v := (-1 : Int64)) dX13_duel_58 ew_1990 ?_
    exact eg_lretE dX13_duel_61 hF
  · replace hF := eg_if c6 hF
    refine eg_aload_n (i := 0) 0 dX13_duel_13 rfl rfl ?_
    refine eg_iload_n (i := 2) 2 dX13_duel_14 rfl rfl ?_
    replace hF := eg_bind hF; obtain ⟨⟨v8, h7⟩, e9, hF⟩ := hF
    refine eg_callV (c := 13) (n := 1) [.int l2] dX13_duel_15 (mX13_isTwo e9) rfl (fX13_isTwo_O e9) (Nat.le_of_ble_eq_true rfl) rfl ew_1929 ew_1931 ew_76 ew_110 ew_1932 hy_X13_isTwo rfl (Nat.le_of_ble_eq_true rfl) (Nat.le_of_ble_eq_true rfl) (Nat.le_of_ble_eq_true rfl) ?_
    refine eg_if_eq 58 dX13_duel_18 rfl (fun c10 => ?_) (fun c10 => ?_)
    · replace hF := eg_it c10 hF
      refine eg_ldc2 (v := (-1 : Int64)) dX13_duel_58 ew_1990 ?_
      exact eg_lretE dX13_duel_61 hF
    · replace hF := eg_if c10 hF
      refine eg_iload_n (i := 3) 3 dX13_duel_21 rfl rfl ?_
      refine eg_if_lt 58 dX13_duel_22 rfl (fun c11 => ?_) (fun c11 => ?_)
      · replace hF := eg_it c11 hF
        refine eg_ldc2 (v := (-1 : Int64)) dX13_duel_58 ew_1990 ?_
        exact eg_lretE dX13_duel_61 hF
      · replace hF := eg_if c11 hF
        refine eg_aload_n (i := 0) 0 dX13_duel_25 rfl rfl ?_
        refine eg_iload_n (i := 3) 3 dX13_duel_26 rfl rfl ?_
        refine eg_bipush (v := (10 : Int32)) dX13_duel_27 (by decide) ?_
        refine eg_idiv dX13_duel_29 (by decide) ?_
        replace hF := eg_bind hF; obtain ⟨⟨v13, h12⟩, e14, hF⟩ := hF
        refine eg_callV (c := 13) (n := 1) [.int (l3 / (10 : Int32))] dX13_duel_30 (mX13_isEgg e14) rfl (fX13_isEgg_O e14) (Nat.le_of_ble_eq_true rfl) rfl ew_1881 ew_1883 ew_72 ew_110 ew_1884 hy_X13_isEgg rfl (Nat.le_of_ble_eq_true rfl) (Nat.le_of_ble_eq_true rfl) (Nat.le_of_ble_eq_true rfl) ?_
        refine eg_if_eq 58 dX13_duel_33 rfl (fun c15 => ?_) (fun c15 => ?_)
        · replace hF := eg_it c15 hF
          refine eg_ldc2 (v := (-1 : Int64)) dX13_duel_58 ew_1990 ?_
          exact eg_lretE dX13_duel_61 hF
        · replace hF := eg_if c15 hF
          refine eg_aload_n (i := 0) 0 dX13_duel_36 rfl rfl ?_
          refine eg_iload_n (i := 3) 3 dX13_duel_37 rfl rfl ?_
          refine eg_bipush (v := (10 : Int32)) dX13_duel_38 (by decide) ?_
          refine eg_irem dX13_duel_40 (by decide) ?_
          replace hF := eg_bind hF; obtain ⟨⟨v17, h16⟩, e18, hF⟩ := hF
          refine eg_callV (c := 13) (n := 1) [.int (l3 % (10 : Int32))] dX13_duel_41 (mX13_isEgg e18) rfl (fX13_isEgg_O e18) (Nat.le_of_ble_eq_true rfl) rfl ew_1881 ew_1883 ew_72 ew_110 ew_1884 hy_X13_isEgg rfl (Nat.le_of_ble_eq_true rfl) (Nat.le_of_ble_eq_true rfl) (Nat.le_of_ble_eq_true rfl) ?_
          refine eg_if_eq 58 dX13_duel_44 rfl (fun c19 => ?_) (fun c19 => ?_)
          · replace hF := eg_it c19 hF
            refine eg_ldc2 (v := (-1 : Int64)) dX13_duel_58 ew_1990 ?_
            exact eg_lretE dX13_duel_61 hF
          · replace hF := eg_if c19 hF
            refine eg_iload (i := 4) 4 dX13_duel_47 rfl ?_
            refine eg_i2l dX13_duel_49 ?_
            refine eg_lconst (v := (0 : Int64)) dX13_duel_50 (by decide) ?_
            refine eg_lconst (v := (1 : Int64)) dX13_duel_51 (by decide) ?_
            replace hF := eg_bind hF; obtain ⟨⟨v21, h20⟩, e22, hF⟩ := hF
            refine eg_callS (n := 3) [.long l4.toInt64, .long (0 : Int64), .long (1 : Int64)] dX13_duel_52 (mX13_isIn e22) rfl ew_1697 ew_1698 ew_110 ew_1699 hy_X13_isIn.2 rfl (Nat.le_of_ble_eq_true rfl) (Nat.le_of_ble_eq_true rfl) (Nat.le_of_ble_eq_true rfl) ?_
            refine eg_if_ne 62 dX13_duel_55 rfl (fun c23 => ?_) (fun c23 => ?_)
            · replace hF := eg_it c23 hF
              refine eg_ldc2 (v := (-1 : Int64)) dX13_duel_58 ew_1990 ?_
              exact eg_lretE dX13_duel_61 hF
            · replace hF := eg_if c23 hF
              refine eg_aload_n (i := 0) 0 dX13_duel_62 rfl rfl ?_
              refine eg_iload_n (i := 1) 1 dX13_duel_63 rfl rfl ?_
              refine eg_iload_n (i := 3) 3 dX13_duel_64 rfl rfl ?_
              refine eg_bipush (v := (10 : Int32)) dX13_duel_65 (by decide) ?_
              refine eg_idiv dX13_duel_67 (by decide) ?_
              refine eg_bipush (v := (10 : Int32)) dX13_duel_68 (by decide) ?_
              refine eg_imul dX13_duel_70 ?_
              refine eg_aload_n (i := 0) 0 dX13_duel_71 rfl rfl ?_
              replace hF := eg_bind hF; obtain ⟨p24, e25, hF⟩ := hF
              refine eg_getR dX13_duel_72 e25 (Nat.le_of_ble_eq_true rfl) (Nat.le_of_ble_eq_true rfl) rfl ew_1484 ?_
              replace hF := eg_bind hF; obtain ⟨h26, e27, hF⟩ := hF
              refine eg_callV (c := 13) (n := 3) [.int l1, .int ((l3 / (10 : Int32)) * (10 : Int32)), .ref p24] dX13_duel_75 (mX13_layComes e27) rfl (fX13_layComes_O e27) (Nat.le_of_ble_eq_true rfl) rfl ew_2037 ew_2039 ew_89 ew_110 ew_2040 hy_X13_layComes rfl (Nat.le_of_ble_eq_true rfl) (Nat.le_of_ble_eq_true rfl) (Nat.le_of_ble_eq_true rfl) ?_
              refine eg_aload_n (i := 0) 0 dX13_duel_78 rfl rfl ?_
              refine eg_iload_n (i := 2) 2 dX13_duel_79 rfl rfl ?_
              refine eg_iload_n (i := 3) 3 dX13_duel_80 rfl rfl ?_
              refine eg_bipush (v := (10 : Int32)) dX13_duel_81 (by decide) ?_
              refine eg_irem dX13_duel_83 (by decide) ?_
              refine eg_bipush (v := (10 : Int32)) dX13_duel_84 (by decide) ?_
              refine eg_imul dX13_duel_86 ?_
              refine eg_aload_n (i := 0) 0 dX13_duel_87 rfl rfl ?_
              replace hF := eg_bind hF; obtain ⟨p28, e29, hF⟩ := hF
              refine eg_getR dX13_duel_88 e29 (Nat.le_of_ble_eq_true rfl) (Nat.le_of_ble_eq_true rfl) rfl ew_1485 ?_
              replace hF := eg_bind hF; obtain ⟨h30, e31, hF⟩ := hF
              refine eg_callV (c := 13) (n := 3) [.int l2, .int ((l3 % (10 : Int32)) * (10 : Int32)), .ref p28] dX13_duel_91 (mX13_layComes e31) rfl (fX13_layComes_O e31) (Nat.le_of_ble_eq_true rfl) rfl ew_2037 ew_2039 ew_89 ew_110 ew_2040 hy_X13_layComes rfl (Nat.le_of_ble_eq_true rfl) (Nat.le_of_ble_eq_true rfl) (Nat.le_of_ble_eq_true rfl) ?_
              refine eg_lconst (v := (0 : Int64)) dX13_duel_94 (by decide) ?_
              refine eg_lstore (i := 5) [(5, .long (0 : Int64)), (0, .ref l0), (1, .int l1), (2, .int l2), (3, .int l3), (4, .int l4)] dX13_duel_95 (Nat.le_of_ble_eq_true rfl) rfl ?_
              refine eg_iconst (v := (0 : Int32)) dX13_duel_97 (by decide) ?_
              refine eg_istore (i := 7) [(7, .int (0 : Int32)), (5, .long (0 : Int64)), (0, .ref l0), (1, .int l1), (2, .int l2), (3, .int l3), (4, .int l4)] dX13_duel_98 (Nat.le_of_ble_eq_true rfl) rfl ?_
              replace hF := eg_bind hF; obtain ⟨x33, e32, hF⟩ := hF
              refine eg_sub [2, 6, 1, 0] [(0, .ref l0), (4, .int l4), (5, .long (0 : Int64)), (7, .int (0 : Int32))] rfl (fX13_duel_L100_ok eg_F h30 l0 l4 (0 : Int64) (0 : Int32) x33 e32 ?_)
              · intro v34 h35 e36
                subst e36
                refine eg_lload (i := 5) 0 dX13_duel_182 rfl ?_
                exact eg_lretE dX13_duel_184 hF
theorem dX13_lot_0 : decode cX13_lot 0 = .ok (.aload_n 0, 1) := by decide +kernel
theorem dX13_lot_1 : decode cX13_lot 1 = .ok (.iconst 0, 1) := by decide +kernel
theorem dX13_lot_2 : decode cX13_lot 2 = .ok (.putfield 148, 3) := by decide +kernel
theorem dX13_lot_5 : decode cX13_lot 5 = .ok (.aload_n 0, 1) := by decide +kernel
theorem dX13_lot_6 : decode cX13_lot 6 = .ok (.iload_n 1, 1) := by decide +kernel
theorem dX13_lot_7 : decode cX13_lot 7 = .ok (.invokevirtual 405, 3) := by decide +kernel
theorem dX13_lot_10 : decode cX13_lot 10 = .ok (.ifCond .eq 13, 3) := by decide +kernel
theorem dX13_lot_13 : decode cX13_lot 13 = .ok (.iload_n 2, 1) := by decide +kernel
theorem dX13_lot_14 : decode cX13_lot 14 = .ok (.i2l, 1) := by decide +kernel
theorem dX13_lot_15 : decode cX13_lot 15 = .ok (.lconst 0, 1) := by decide +kernel
theorem dX13_lot_16 : decode cX13_lot 16 = .ok (.lconst 1, 1) := by decide +kernel
theorem dX13_lot_17 : decode cX13_lot 17 = .ok (.invokestatic 269, 3) := by decide +kernel
theorem dX13_lot_20 : decode cX13_lot 20 = .ok (.ifCond .ne 7, 3) := by decide +kernel
theorem dX13_lot_23 : decode cX13_lot 23 = .ok (.ldc2_w 444, 3) := by decide +kernel
theorem dX13_lot_26 : decode cX13_lot 26 = .ok (.lreturn, 1) := by decide +kernel
theorem dX13_lot_27 : decode cX13_lot 27 = .ok (.lconst 0, 1) := by decide +kernel
theorem dX13_lot_28 : decode cX13_lot 28 = .ok (.lstore_n 3, 1) := by decide +kernel
theorem dX13_lot_29 : decode cX13_lot 29 = .ok (.iconst 0, 1) := by decide +kernel
theorem dX13_lot_30 : decode cX13_lot 30 = .ok (.istore 5, 2) := by decide +kernel
theorem dX13_lot_32 : decode cX13_lot 32 = .ok (.iload 5, 2) := by decide +kernel
theorem dX13_lot_34 : decode cX13_lot 34 = .ok (.aload_n 0, 1) := by decide +kernel
theorem dX13_lot_35 : decode cX13_lot 35 = .ok (.getfield 338, 3) := by decide +kernel
theorem dX13_lot_38 : decode cX13_lot 38 = .ok (.if_icmp .ge 24, 3) := by decide +kernel
theorem dX13_lot_41 : decode cX13_lot 41 = .ok (.lload_n 3, 1) := by decide +kernel
theorem dX13_lot_42 : decode cX13_lot 42 = .ok (.aload_n 0, 1) := by decide +kernel
theorem dX13_lot_43 : decode cX13_lot 43 = .ok (.iload_n 1, 1) := by decide +kernel
theorem dX13_lot_44 : decode cX13_lot 44 = .ok (.bipush 10, 2) := by decide +kernel
theorem dX13_lot_46 : decode cX13_lot 46 = .ok (.iload 5, 2) := by decide +kernel
theorem dX13_lot_48 : decode cX13_lot 48 = .ok (.imul, 1) := by decide +kernel
theorem dX13_lot_49 : decode cX13_lot 49 = .ok (.iload_n 2, 1) := by decide +kernel
theorem dX13_lot_50 : decode cX13_lot 50 = .ok (.iadd, 1) := by decide +kernel
theorem dX13_lot_51 : decode cX13_lot 51 = .ok (.invokevirtual 440, 3) := by decide +kernel
theorem dX13_lot_54 : decode cX13_lot 54 = .ok (.ladd, 1) := by decide +kernel
theorem dX13_lot_55 : decode cX13_lot 55 = .ok (.lstore_n 3, 1) := by decide +kernel
theorem dX13_lot_56 : decode cX13_lot 56 = .ok (.iinc 5 1, 3) := by decide +kernel
theorem dX13_lot_59 : decode cX13_lot 59 = .ok (.goto (-27), 3) := by decide +kernel
theorem dX13_lot_62 : decode cX13_lot 62 = .ok (.lload_n 3, 1) := by decide +kernel
theorem dX13_lot_63 : decode cX13_lot 63 = .ok (.aload_n 0, 1) := by decide +kernel
theorem dX13_lot_64 : decode cX13_lot 64 = .ok (.getfield 338, 3) := by decide +kernel
theorem dX13_lot_67 : decode cX13_lot 67 = .ok (.i2l, 1) := by decide +kernel
theorem dX13_lot_68 : decode cX13_lot 68 = .ok (.ldiv, 1) := by decide +kernel
theorem dX13_lot_69 : decode cX13_lot 69 = .ok (.lreturn, 1) := by decide +kernel
def fX13_lot_L32 : Nat → eg_H → Nat → Int32 → Int32 → Int64 → Int32 → Option (Nat × Int64 × eg_H)
  | 0, _, _, _, _, _, _ => none
  | n + 1, h, l0, l1, l2, l3, l5 =>
    (eg_gI h 13 26 l0).bind fun v1 =>
    if v1 ≤ l5 then
      (some (l0, l3, h))
    else
      (fX13_hopeOf h l0 l1 (((10 : Int32) * l5) + l2)).bind fun ⟨v5, h4⟩ =>
      (some ((l3 + v5))).bind fun v7 =>
      fX13_lot_L32 n h4 l0 l1 l2 v7 (l5 + (1 : Int32))
set_option maxRecDepth 20000 in
theorem fX13_lot_L32_ok {h0 : eg_H} {Z : eg_C → State → Prop} {N S : Nat} : ∀ (n : Nat) (h : eg_H) (l0 : Nat) (l1 : Int32) (l2 : Int32) (l3 : Int64) (l5 : Int32) (eE : Nat × Int64 × eg_H), fX13_lot_L32 n h l0 l1 l2 l3 l5 = some eE → (hk0 : ∀ (l0 : Nat) (l3 : Int64) (h : eg_H), eE = (l0, l3, h) → eg_AW (RX13, cX13_lot, 6, 400, none, "lot", (some .long)) Z N S h0 62 [(0, .ref l0), (3, .long l3)] [] h) → eg_AW (RX13, cX13_lot, 6, 400, none, "lot", (some .long)) Z N S h0 32 [(0, .ref l0), (1, .int l1), (2, .int l2), (3, .long l3), (5, .int l5)] [] h := by
  intro n
  induction n with
  | zero => intro h l0 l1 l2 l3 l5 eE hF; exact absurd hF (by intro q; cases q)
  | succ n ih =>
    intro h l0 l1 l2 l3 l5 eE hF hk0
    have hrec := fun (h' : eg_H) (l0 : Nat) (l1 : Int32) (l2 : Int32) (l3 : Int64) (l5 : Int32) hq => ih h' l0 l1 l2 l3 l5 eE hq hk0
    refine eg_iload (i := 5) 4 dX13_lot_32 rfl ?_
    refine eg_aload_n (i := 0) 0 dX13_lot_34 rfl rfl ?_
    replace hF := eg_bind hF; obtain ⟨v1, e2, hF⟩ := hF
    refine eg_getI dX13_lot_35 e2 (Nat.le_of_ble_eq_true rfl) (Nat.le_of_ble_eq_true rfl) rfl ew_1460 ?_
    refine eg_ic_ge 62 dX13_lot_38 rfl (fun c3 => ?_) (fun c3 => ?_)
    · replace hF := eg_it c3 hF
      exact eg_sub [0, 3] [(0, .ref l0), (3, .long l3)] rfl (hk0 l0 l3 h (Option.some.inj hF).symm)
    · replace hF := eg_if c3 hF
      refine eg_lload_n (i := 3) 3 dX13_lot_41 rfl rfl ?_
      refine eg_aload_n (i := 0) 0 dX13_lot_42 rfl rfl ?_
      refine eg_iload_n (i := 1) 1 dX13_lot_43 rfl rfl ?_
      refine eg_bipush (v := (10 : Int32)) dX13_lot_44 (by decide) ?_
      refine eg_iload (i := 5) 4 dX13_lot_46 rfl ?_
      refine eg_imul dX13_lot_48 ?_
      refine eg_iload_n (i := 2) 2 dX13_lot_49 rfl rfl ?_
      refine eg_iadd dX13_lot_50 ?_
      replace hF := eg_bind hF; obtain ⟨⟨v5, h4⟩, e6, hF⟩ := hF
      refine eg_callV (c := 13) (n := 2) [.int l1, .int (((10 : Int32) * l5) + l2)] dX13_lot_51 (mX13_hopeOf e6) rfl (fX13_hopeOf_O e6) (Nat.le_of_ble_eq_true rfl) rfl ew_1982 ew_1984 ew_86 ew_110 ew_1985 hy_X13_hopeOf rfl (Nat.le_of_ble_eq_true rfl) (Nat.le_of_ble_eq_true rfl) (Nat.le_of_ble_eq_true rfl) ?_
      refine eg_ladd dX13_lot_54 ?_
      replace hF := eg_bind hF; obtain ⟨v7, e8, hF⟩ := hF
      replace e8 := Option.some.inj e8
      rw [e8]
      refine eg_lstore_n (i := 3) [(3, .long v7), (0, .ref l0), (1, .int l1), (2, .int l2), (5, .int l5)] dX13_lot_55 rfl (Nat.le_of_ble_eq_true rfl) rfl ?_
      refine eg_iinc (i := 5) (v := (l5 + (1 : Int32))) 4 [(5, .int (l5 + (1 : Int32))), (3, .long v7), (0, .ref l0), (1, .int l1), (2, .int l2)] dX13_lot_56 rfl rfl (Nat.le_of_ble_eq_true rfl) rfl ?_
      refine eg_goto 32 dX13_lot_59 rfl ?_
      exact eg_sub [2, 3, 4, 1, 0] [(0, .ref l0), (1, .int l1), (2, .int l2), (3, .long v7), (5, .int (l5 + (1 : Int32)))] rfl (hrec h4 l0 l1 l2 v7 (l5 + (1 : Int32)) hF)
def fX13_lot (h : eg_H) (l0 : Nat) (l1 : Int32) (l2 : Int32) : Option (Int64 × eg_H) :=
  if eg_isO h 13 l0 then (
    (eg_pI h 13 0 l0 (0 : Int32)).bind fun h1 =>
    (fX13_isTwo h1 l0 l1).bind fun ⟨v4, h3⟩ =>
    if v4 = 0 then
      (some ((-1 : Int64), h3))
    else
      (fX13_isIn h3 l2.toInt64 (0 : Int64) (1 : Int64)).bind fun ⟨v8, h7⟩ =>
      if v8 = 0 then
        (some ((-1 : Int64), h7))
      else
        (fX13_lot_L32 eg_F h7 l0 l1 l2 (0 : Int64) (0 : Int32)).bind fun e =>
        match e with
        | (p13, v14, h15) =>
          (eg_gI h15 13 26 p13).bind fun v16 =>
          if v16.toInt64 = 0 then none else
          some ((v14 / v16.toInt64), h15)) else none
theorem fX13_lot_O {h : eg_H} {l0 : Nat} {l1 : Int32} {l2 : Int32} {rE : Int64} {hE : eg_H} (hF : fX13_lot h l0 l1 l2 = some (rE, hE)) : eg_isO h 13 l0 := (eg_ifn hF).1
set_option maxRecDepth 20000 in
theorem mX13_lot {h : eg_H} {l0 : Nat} {l1 : Int32} {l2 : Int32} {rE : Int64} {hE : eg_H} (hF : fX13_lot h l0 l1 l2 = some (rE, hE)) : eg_Met yX13_lot cX13_lot 6 (some .long) 400 [.ref l0, .int l1, .int l2] h (some (.long rE)) hE := by
  refine eg_enter rfl (Nat.le_of_ble_eq_true rfl) ?_
  show eg_AW (RX13, cX13_lot, 6, 400, none, "lot", (some .long)) (eg_Zm (some (.long rE)) hE h) (eg_nc hE) (eg_ns hE) h 0 [(0, .ref l0), (1, .int l1), (2, .int l2)] [] h
  replace hF := (eg_ifn hF).2
  refine eg_aload_n (i := 0) 0 dX13_lot_0 rfl rfl ?_
  refine eg_iconst (v := (0 : Int32)) dX13_lot_1 (by decide) ?_
  replace hF := eg_bind hF; obtain ⟨h1, e2, hF⟩ := hF
  refine eg_putI dX13_lot_2 e2 (Nat.le_of_ble_eq_true rfl) (Nat.le_of_ble_eq_true rfl) rfl ew_1434 (Or.inl rfl) ?_
  refine eg_aload_n (i := 0) 0 dX13_lot_5 rfl rfl ?_
  refine eg_iload_n (i := 1) 1 dX13_lot_6 rfl rfl ?_
  replace hF := eg_bind hF; obtain ⟨⟨v4, h3⟩, e5, hF⟩ := hF
  refine eg_callV (c := 13) (n := 1) [.int l1] dX13_lot_7 (mX13_isTwo e5) rfl (fX13_isTwo_O e5) (Nat.le_of_ble_eq_true rfl) rfl ew_1929 ew_1931 ew_76 ew_110 ew_1932 hy_X13_isTwo rfl (Nat.le_of_ble_eq_true rfl) (Nat.le_of_ble_eq_true rfl) (Nat.le_of_ble_eq_true rfl) ?_
  refine eg_if_eq 23 dX13_lot_10 rfl (fun c6 => ?_) (fun c6 => ?_)
  · replace hF := eg_it c6 hF
    refine eg_ldc2 (v := (-1 : Int64)) dX13_lot_23 ew_1990 ?_
    exact eg_lretE dX13_lot_26 hF
  · replace hF := eg_if c6 hF
    refine eg_iload_n (i := 2) 2 dX13_lot_13 rfl rfl ?_
    refine eg_i2l dX13_lot_14 ?_
    refine eg_lconst (v := (0 : Int64)) dX13_lot_15 (by decide) ?_
    refine eg_lconst (v := (1 : Int64)) dX13_lot_16 (by decide) ?_
    replace hF := eg_bind hF; obtain ⟨⟨v8, h7⟩, e9, hF⟩ := hF
    refine eg_callS (n := 3) [.long l2.toInt64, .long (0 : Int64), .long (1 : Int64)] dX13_lot_17 (mX13_isIn e9) rfl ew_1697 ew_1698 ew_110 ew_1699 hy_X13_isIn.2 rfl (Nat.le_of_ble_eq_true rfl) (Nat.le_of_ble_eq_true rfl) (Nat.le_of_ble_eq_true rfl) ?_
    refine eg_if_ne 27 dX13_lot_20 rfl (fun c10 => ?_) (fun c10 => ?_)
    · replace hF := eg_it c10 hF
      refine eg_ldc2 (v := (-1 : Int64)) dX13_lot_23 ew_1990 ?_
      exact eg_lretE dX13_lot_26 hF
    · replace hF := eg_if c10 hF
      refine eg_lconst (v := (0 : Int64)) dX13_lot_27 (by decide) ?_
      refine eg_lstore_n (i := 3) [(3, .long (0 : Int64)), (0, .ref l0), (1, .int l1), (2, .int l2)] dX13_lot_28 rfl (Nat.le_of_ble_eq_true rfl) rfl ?_
      refine eg_iconst (v := (0 : Int32)) dX13_lot_29 (by decide) ?_
      refine eg_istore (i := 5) [(5, .int (0 : Int32)), (3, .long (0 : Int64)), (0, .ref l0), (1, .int l1), (2, .int l2)] dX13_lot_30 (Nat.le_of_ble_eq_true rfl) rfl ?_
      replace hF := eg_bind hF; obtain ⟨x12, e11, hF⟩ := hF
      refine eg_sub [2, 3, 4, 1, 0] [(0, .ref l0), (1, .int l1), (2, .int l2), (3, .long (0 : Int64)), (5, .int (0 : Int32))] rfl (fX13_lot_L32_ok eg_F h7 l0 l1 l2 (0 : Int64) (0 : Int32) x12 e11 ?_)
      · intro p13 v14 h15 e19
        subst e19
        refine eg_lload_n (i := 3) 1 dX13_lot_62 rfl rfl ?_
        refine eg_aload_n (i := 0) 0 dX13_lot_63 rfl rfl ?_
        replace hF := eg_bind hF; obtain ⟨v16, e17, hF⟩ := hF
        refine eg_getI dX13_lot_64 e17 (Nat.le_of_ble_eq_true rfl) (Nat.le_of_ble_eq_true rfl) rfl ew_1460 ?_
        refine eg_i2l dX13_lot_67 ?_
        replace hF := eg_nif hF; obtain ⟨c18, hF⟩ := hF
        refine eg_ldiv dX13_lot_68 c18 ?_
        exact eg_lretE dX13_lot_69 hF
theorem dX13_safe_0 : decode cX13_safe 0 = .ok (.aload_n 0, 1) := by decide +kernel
theorem dX13_safe_1 : decode cX13_safe 1 = .ok (.iconst 0, 1) := by decide +kernel
theorem dX13_safe_2 : decode cX13_safe 2 = .ok (.putfield 148, 3) := by decide +kernel
theorem dX13_safe_5 : decode cX13_safe 5 = .ok (.aload_n 0, 1) := by decide +kernel
theorem dX13_safe_6 : decode cX13_safe 6 = .ok (.iload_n 1, 1) := by decide +kernel
theorem dX13_safe_7 : decode cX13_safe 7 = .ok (.invokevirtual 405, 3) := by decide +kernel
theorem dX13_safe_10 : decode cX13_safe 10 = .ok (.ifCond .eq 11, 3) := by decide +kernel
theorem dX13_safe_13 : decode cX13_safe 13 = .ok (.aload_n 0, 1) := by decide +kernel
theorem dX13_safe_14 : decode cX13_safe 14 = .ok (.iload_n 2, 1) := by decide +kernel
theorem dX13_safe_15 : decode cX13_safe 15 = .ok (.invokevirtual 408, 3) := by decide +kernel
theorem dX13_safe_18 : decode cX13_safe 18 = .ok (.ifCond .ne 5, 3) := by decide +kernel
theorem dX13_safe_21 : decode cX13_safe 21 = .ok (.iconst (-1), 1) := by decide +kernel
theorem dX13_safe_22 : decode cX13_safe 22 = .ok (.ireturn, 1) := by decide +kernel
theorem dX13_safe_23 : decode cX13_safe 23 = .ok (.bipush 60, 2) := by decide +kernel
theorem dX13_safe_25 : decode cX13_safe 25 = .ok (.istore_n 3, 1) := by decide +kernel
theorem dX13_safe_26 : decode cX13_safe 26 = .ok (.iload_n 3, 1) := by decide +kernel
theorem dX13_safe_27 : decode cX13_safe 27 = .ok (.ifCond .le 47, 3) := by decide +kernel
theorem dX13_safe_30 : decode cX13_safe 30 = .ok (.aload_n 0, 1) := by decide +kernel
theorem dX13_safe_31 : decode cX13_safe 31 = .ok (.iload_n 1, 1) := by decide +kernel
theorem dX13_safe_32 : decode cX13_safe 32 = .ok (.bipush 10, 2) := by decide +kernel
theorem dX13_safe_34 : decode cX13_safe 34 = .ok (.idiv, 1) := by decide +kernel
theorem dX13_safe_35 : decode cX13_safe 35 = .ok (.iload_n 1, 1) := by decide +kernel
theorem dX13_safe_36 : decode cX13_safe 36 = .ok (.bipush 10, 2) := by decide +kernel
theorem dX13_safe_38 : decode cX13_safe 38 = .ok (.irem, 1) := by decide +kernel
theorem dX13_safe_39 : decode cX13_safe 39 = .ok (.iload_n 2, 1) := by decide +kernel
theorem dX13_safe_40 : decode cX13_safe 40 = .ok (.iload_n 3, 1) := by decide +kernel
theorem dX13_safe_41 : decode cX13_safe 41 = .ok (.invokevirtual 426, 3) := by decide +kernel
theorem dX13_safe_44 : decode cX13_safe 44 = .ok (.aload_n 0, 1) := by decide +kernel
theorem dX13_safe_45 : decode cX13_safe 45 = .ok (.getfield 417, 3) := by decide +kernel
theorem dX13_safe_48 : decode cX13_safe 48 = .ok (.iconst 2, 1) := by decide +kernel
theorem dX13_safe_49 : decode cX13_safe 49 = .ok (.aload_n 0, 1) := by decide +kernel
theorem dX13_safe_50 : decode cX13_safe 50 = .ok (.getfield 43, 3) := by decide +kernel
theorem dX13_safe_53 : decode cX13_safe 53 = .ok (.iconst 4, 1) := by decide +kernel
theorem dX13_safe_54 : decode cX13_safe 54 = .ok (.iload_n 1, 1) := by decide +kernel
theorem dX13_safe_55 : decode cX13_safe 55 = .ok (.bipush 10, 2) := by decide +kernel
theorem dX13_safe_57 : decode cX13_safe 57 = .ok (.idiv, 1) := by decide +kernel
theorem dX13_safe_58 : decode cX13_safe 58 = .ok (.imul, 1) := by decide +kernel
theorem dX13_safe_59 : decode cX13_safe 59 = .ok (.iaload, 1) := by decide +kernel
theorem dX13_safe_60 : decode cX13_safe 60 = .ok (.imul, 1) := by decide +kernel
theorem dX13_safe_61 : decode cX13_safe 61 = .ok (.iconst 1, 1) := by decide +kernel
theorem dX13_safe_62 : decode cX13_safe 62 = .ok (.iadd, 1) := by decide +kernel
theorem dX13_safe_63 : decode cX13_safe 63 = .ok (.if_icmp .ne 5, 3) := by decide +kernel
theorem dX13_safe_66 : decode cX13_safe 66 = .ok (.iload_n 3, 1) := by decide +kernel
theorem dX13_safe_67 : decode cX13_safe 67 = .ok (.ireturn, 1) := by decide +kernel
theorem dX13_safe_68 : decode cX13_safe 68 = .ok (.iinc 3 (-1), 3) := by decide +kernel
theorem dX13_safe_71 : decode cX13_safe 71 = .ok (.goto (-45), 3) := by decide +kernel
theorem dX13_safe_74 : decode cX13_safe 74 = .ok (.iconst (-1), 1) := by decide +kernel
theorem dX13_safe_75 : decode cX13_safe 75 = .ok (.ireturn, 1) := by decide +kernel
def fX13_safe_L26 : Nat → eg_H → Nat → Int32 → Int32 → Int32 → Option ((eg_H) ⊕ (Int32 × eg_H))
  | 0, _, _, _, _, _ => none
  | n + 1, h, l0, l1, l2, l3 =>
    if l3 ≤ 0 then
      (some (.inl h))
    else
      (fX13_layBest h l0 (l1 / (10 : Int32)) (l1 % (10 : Int32)) l2 l3).bind fun h2 =>
      (eg_gI h2 13 38 l0).bind fun v4 =>
      (eg_gR h2 13 20 l0).bind fun p6 =>
      (eg_aI h2 100 p6 ((4 : Int32) * (l1 / (10 : Int32)))).bind fun v8 =>
      if v4 = (((2 : Int32) * v8) + (1 : Int32)) then
        (some (.inr (l3, h2)))
      else
        fX13_safe_L26 n h2 l0 l1 l2 (l3 + (-1 : Int32))
set_option maxRecDepth 20000 in
theorem fX13_safe_L26_ok {h0 : eg_H} {Z : eg_C → State → Prop} {N S : Nat} : ∀ (n : Nat) (h : eg_H) (l0 : Nat) (l1 : Int32) (l2 : Int32) (l3 : Int32) (eE : (eg_H) ⊕ (Int32 × eg_H)), fX13_safe_L26 n h l0 l1 l2 l3 = some eE → (hk0 : ∀  (h : eg_H), eE = (.inl h) → eg_AW (RX13, cX13_safe, 4, 398, none, "safe", (some .int)) Z N S h0 74 [] [] h) → (hk1 : ∀ (l3 : Int32) (h : eg_H), eE = (.inr (l3, h)) → eg_AW (RX13, cX13_safe, 4, 398, none, "safe", (some .int)) Z N S h0 66 [(3, .int l3)] [] h) → eg_AW (RX13, cX13_safe, 4, 398, none, "safe", (some .int)) Z N S h0 26 [(0, .ref l0), (1, .int l1), (2, .int l2), (3, .int l3)] [] h := by
  intro n
  induction n with
  | zero => intro h l0 l1 l2 l3 eE hF; exact absurd hF (by intro q; cases q)
  | succ n ih =>
    intro h l0 l1 l2 l3 eE hF hk0 hk1
    have hrec := fun (h' : eg_H) (l0 : Nat) (l1 : Int32) (l2 : Int32) (l3 : Int32) hq => ih h' l0 l1 l2 l3 eE hq hk0 hk1
    refine eg_iload_n (i := 3) 3 dX13_safe_26 rfl rfl ?_
    refine eg_if_le 74 dX13_safe_27 rfl (fun c1 => ?_) (fun c1 => ?_)
    · replace hF := eg_it c1 hF
      exact eg_sub [] [] rfl (hk0 h (Option.some.inj hF).symm)
    · replace hF := eg_if c1 hF
      refine eg_aload_n (i := 0) 0 dX13_safe_30 rfl rfl ?_
      refine eg_iload_n (i := 1) 1 dX13_safe_31 rfl rfl ?_
      refine eg_bipush (v := (10 : Int32)) dX13_safe_32 (by decide) ?_
      refine eg_idiv dX13_safe_34 (by decide) ?_
      refine eg_iload_n (i := 1) 1 dX13_safe_35 rfl rfl ?_
      refine eg_bipush (v := (10 : Int32)) dX13_safe_36 (by decide) ?_
      refine eg_irem dX13_safe_38 (by decide) ?_
      refine eg_iload_n (i := 2) 2 dX13_safe_39 rfl rfl ?_
      refine eg_iload_n (i := 3) 3 dX13_safe_40 rfl rfl ?_
      replace hF := eg_bind hF; obtain ⟨h2, e3, hF⟩ := hF
      refine eg_callV (c := 13) (n := 4) [.int (l1 / (10 : Int32)), .int (l1 % (10 : Int32)), .int l2, .int l3] dX13_safe_41 (mX13_layBest e3) rfl (fX13_layBest_O e3) (Nat.le_of_ble_eq_true rfl) rfl ew_1965 ew_1967 ew_84 ew_110 ew_1968 hy_X13_layBest rfl (Nat.le_of_ble_eq_true rfl) (Nat.le_of_ble_eq_true rfl) (Nat.le_of_ble_eq_true rfl) ?_
      refine eg_aload_n (i := 0) 0 dX13_safe_44 rfl rfl ?_
      replace hF := eg_bind hF; obtain ⟨v4, e5, hF⟩ := hF
      refine eg_getI dX13_safe_45 e5 (Nat.le_of_ble_eq_true rfl) (Nat.le_of_ble_eq_true rfl) rfl ew_1472 ?_
      refine eg_iconst (v := (2 : Int32)) dX13_safe_48 (by decide) ?_
      refine eg_aload_n (i := 0) 0 dX13_safe_49 rfl rfl ?_
      replace hF := eg_bind hF; obtain ⟨p6, e7, hF⟩ := hF
      refine eg_getR dX13_safe_50 e7 (Nat.le_of_ble_eq_true rfl) (Nat.le_of_ble_eq_true rfl) rfl ew_1454 ?_
      refine eg_iconst (v := (4 : Int32)) dX13_safe_53 (by decide) ?_
      refine eg_iload_n (i := 1) 1 dX13_safe_54 rfl rfl ?_
      refine eg_bipush (v := (10 : Int32)) dX13_safe_55 (by decide) ?_
      refine eg_idiv dX13_safe_57 (by decide) ?_
      refine eg_imul dX13_safe_58 ?_
      replace hF := eg_bind hF; obtain ⟨v8, e9, hF⟩ := hF
      refine eg_iald dX13_safe_59 e9 ?_
      refine eg_imul dX13_safe_60 ?_
      refine eg_iconst (v := (1 : Int32)) dX13_safe_61 (by decide) ?_
      refine eg_iadd dX13_safe_62 ?_
      refine eg_ic_ne 68 dX13_safe_63 rfl (fun c10 => ?_) (fun c10 => ?_)
      · replace hF := eg_it c10 hF
        exact eg_sub [3] [(3, .int l3)] rfl (hk1 l3 h2 (Option.some.inj hF).symm)
      · replace hF := eg_if c10 hF
        refine eg_iinc (i := 3) (v := (l3 + (-1 : Int32))) 3 [(3, .int (l3 + (-1 : Int32))), (0, .ref l0), (1, .int l1), (2, .int l2)] dX13_safe_68 rfl rfl (Nat.le_of_ble_eq_true rfl) rfl ?_
        refine eg_goto 26 dX13_safe_71 rfl ?_
        exact eg_sub [1, 2, 3, 0] [(0, .ref l0), (1, .int l1), (2, .int l2), (3, .int (l3 + (-1 : Int32)))] rfl (hrec h2 l0 l1 l2 (l3 + (-1 : Int32)) hF)
def fX13_safe (h : eg_H) (l0 : Nat) (l1 : Int32) (l2 : Int32) : Option (Int32 × eg_H) :=
  if eg_isO h 13 l0 then (
    (eg_pI h 13 0 l0 (0 : Int32)).bind fun h1 =>
    (fX13_isTwo h1 l0 l1).bind fun ⟨v4, h3⟩ =>
    if v4 = 0 then
      (some ((-1 : Int32), h3))
    else
      (fX13_isFrom h3 l0 l2).bind fun ⟨v8, h7⟩ =>
      if v8 = 0 then
        (some ((-1 : Int32), h7))
      else
        (fX13_safe_L26 eg_F h7 l0 l1 l2 (60 : Int32)).bind fun e =>
        match e with
        | .inl h13 =>
          some ((-1 : Int32), h13)
        | .inr (v15, h16) =>
          some (v15, h16)) else none
theorem fX13_safe_O {h : eg_H} {l0 : Nat} {l1 : Int32} {l2 : Int32} {rE : Int32} {hE : eg_H} (hF : fX13_safe h l0 l1 l2 = some (rE, hE)) : eg_isO h 13 l0 := (eg_ifn hF).1
set_option maxRecDepth 20000 in
theorem mX13_safe {h : eg_H} {l0 : Nat} {l1 : Int32} {l2 : Int32} {rE : Int32} {hE : eg_H} (hF : fX13_safe h l0 l1 l2 = some (rE, hE)) : eg_Met yX13_safe cX13_safe 4 (some .int) 398 [.ref l0, .int l1, .int l2] h (some (.int rE)) hE := by
  refine eg_enter rfl (Nat.le_of_ble_eq_true rfl) ?_
  show eg_AW (RX13, cX13_safe, 4, 398, none, "safe", (some .int)) (eg_Zm (some (.int rE)) hE h) (eg_nc hE) (eg_ns hE) h 0 [(0, .ref l0), (1, .int l1), (2, .int l2)] [] h
  replace hF := (eg_ifn hF).2
  refine eg_aload_n (i := 0) 0 dX13_safe_0 rfl rfl ?_
  refine eg_iconst (v := (0 : Int32)) dX13_safe_1 (by decide) ?_
  replace hF := eg_bind hF; obtain ⟨h1, e2, hF⟩ := hF
  refine eg_putI dX13_safe_2 e2 (Nat.le_of_ble_eq_true rfl) (Nat.le_of_ble_eq_true rfl) rfl ew_1434 (Or.inl rfl) ?_
  refine eg_aload_n (i := 0) 0 dX13_safe_5 rfl rfl ?_
  refine eg_iload_n (i := 1) 1 dX13_safe_6 rfl rfl ?_
  replace hF := eg_bind hF; obtain ⟨⟨v4, h3⟩, e5, hF⟩ := hF
  refine eg_callV (c := 13) (n := 1) [.int l1] dX13_safe_7 (mX13_isTwo e5) rfl (fX13_isTwo_O e5) (Nat.le_of_ble_eq_true rfl) rfl ew_1929 ew_1931 ew_76 ew_110 ew_1932 hy_X13_isTwo rfl (Nat.le_of_ble_eq_true rfl) (Nat.le_of_ble_eq_true rfl) (Nat.le_of_ble_eq_true rfl) ?_
  refine eg_if_eq 21 dX13_safe_10 rfl (fun c6 => ?_) (fun c6 => ?_)
  · replace hF := eg_it c6 hF
    refine eg_iconst (v := (-1 : Int32)) dX13_safe_21 (by decide) ?_
    exact eg_iretE dX13_safe_22 hF
  · replace hF := eg_if c6 hF
    refine eg_aload_n (i := 0) 0 dX13_safe_13 rfl rfl ?_
    refine eg_iload_n (i := 2) 2 dX13_safe_14 rfl rfl ?_
    replace hF := eg_bind hF; obtain ⟨⟨v8, h7⟩, e9, hF⟩ := hF
    refine eg_callV (c := 13) (n := 1) [.int l2] dX13_safe_15 (mX13_isFrom e9) rfl (fX13_isFrom_O e9) (Nat.le_of_ble_eq_true rfl) rfl ew_1933 ew_1935 ew_77 ew_110 ew_1936 hy_X13_isFrom rfl (Nat.le_of_ble_eq_true rfl) (Nat.le_of_ble_eq_true rfl) (Nat.le_of_ble_eq_true rfl) ?_
    refine eg_if_ne 23 dX13_safe_18 rfl (fun c10 => ?_) (fun c10 => ?_)
    · replace hF := eg_it c10 hF
      refine eg_iconst (v := (-1 : Int32)) dX13_safe_21 (by decide) ?_
      exact eg_iretE dX13_safe_22 hF
    · replace hF := eg_if c10 hF
      refine eg_bipush (v := (60 : Int32)) dX13_safe_23 (by decide) ?_
      refine eg_istore_n (i := 3) [(3, .int (60 : Int32)), (0, .ref l0), (1, .int l1), (2, .int l2)] dX13_safe_25 rfl (Nat.le_of_ble_eq_true rfl) rfl ?_
      replace hF := eg_bind hF; obtain ⟨x12, e11, hF⟩ := hF
      refine eg_sub [1, 2, 3, 0] [(0, .ref l0), (1, .int l1), (2, .int l2), (3, .int (60 : Int32))] rfl (fX13_safe_L26_ok eg_F h7 l0 l1 l2 (60 : Int32) x12 e11 ?_ ?_)
      · intro h13 e14
        subst e14
        refine eg_iconst (v := (-1 : Int32)) dX13_safe_74 (by decide) ?_
        exact eg_iretE dX13_safe_75 hF
      · intro v15 h16 e17
        subst e17
        refine eg_iload_n (i := 3) 0 dX13_safe_66 rfl rfl ?_
        exact eg_iretE dX13_safe_67 hF
theorem dX13_spots_0 : decode cX13_spots 0 = .ok (.aload_n 0, 1) := by decide +kernel
theorem dX13_spots_1 : decode cX13_spots 1 = .ok (.iconst 0, 1) := by decide +kernel
theorem dX13_spots_2 : decode cX13_spots 2 = .ok (.putfield 148, 3) := by decide +kernel
theorem dX13_spots_5 : decode cX13_spots 5 = .ok (.aload_n 0, 1) := by decide +kernel
theorem dX13_spots_6 : decode cX13_spots 6 = .ok (.iload_n 1, 1) := by decide +kernel
theorem dX13_spots_7 : decode cX13_spots 7 = .ok (.invokevirtual 405, 3) := by decide +kernel
theorem dX13_spots_10 : decode cX13_spots 10 = .ok (.ifCond .eq 36, 3) := by decide +kernel
theorem dX13_spots_13 : decode cX13_spots 13 = .ok (.aload_n 0, 1) := by decide +kernel
theorem dX13_spots_14 : decode cX13_spots 14 = .ok (.iload_n 2, 1) := by decide +kernel
theorem dX13_spots_15 : decode cX13_spots 15 = .ok (.invokevirtual 408, 3) := by decide +kernel
theorem dX13_spots_18 : decode cX13_spots 18 = .ok (.ifCond .eq 28, 3) := by decide +kernel
theorem dX13_spots_21 : decode cX13_spots 21 = .ok (.iload_n 3, 1) := by decide +kernel
theorem dX13_spots_22 : decode cX13_spots 22 = .ok (.i2l, 1) := by decide +kernel
theorem dX13_spots_23 : decode cX13_spots 23 = .ok (.lconst 1, 1) := by decide +kernel
theorem dX13_spots_24 : decode cX13_spots 24 = .ok (.ldc2_w 380, 3) := by decide +kernel
theorem dX13_spots_27 : decode cX13_spots 27 = .ok (.invokestatic 269, 3) := by decide +kernel
theorem dX13_spots_30 : decode cX13_spots 30 = .ok (.ifCond .eq 16, 3) := by decide +kernel
theorem dX13_spots_33 : decode cX13_spots 33 = .ok (.iload 4, 2) := by decide +kernel
theorem dX13_spots_35 : decode cX13_spots 35 = .ok (.i2l, 1) := by decide +kernel
theorem dX13_spots_36 : decode cX13_spots 36 = .ok (.lconst 0, 1) := by decide +kernel
theorem dX13_spots_37 : decode cX13_spots 37 = .ok (.ldc2_w 463, 3) := by decide +kernel
theorem dX13_spots_40 : decode cX13_spots 40 = .ok (.invokestatic 269, 3) := by decide +kernel
theorem dX13_spots_43 : decode cX13_spots 43 = .ok (.ifCond .ne 5, 3) := by decide +kernel
theorem dX13_spots_46 : decode cX13_spots 46 = .ok (.iconst (-1), 1) := by decide +kernel
theorem dX13_spots_47 : decode cX13_spots 47 = .ok (.ireturn, 1) := by decide +kernel
theorem dX13_spots_48 : decode cX13_spots 48 = .ok (.iconst 0, 1) := by decide +kernel
theorem dX13_spots_49 : decode cX13_spots 49 = .ok (.istore 5, 2) := by decide +kernel
theorem dX13_spots_51 : decode cX13_spots 51 = .ok (.iconst 0, 1) := by decide +kernel
theorem dX13_spots_52 : decode cX13_spots 52 = .ok (.istore 6, 2) := by decide +kernel
theorem dX13_spots_54 : decode cX13_spots 54 = .ok (.iload 6, 2) := by decide +kernel
theorem dX13_spots_56 : decode cX13_spots 56 = .ok (.aload_n 0, 1) := by decide +kernel
theorem dX13_spots_57 : decode cX13_spots 57 = .ok (.getfield 43, 3) := by decide +kernel
theorem dX13_spots_60 : decode cX13_spots 60 = .ok (.iconst 4, 1) := by decide +kernel
theorem dX13_spots_61 : decode cX13_spots 61 = .ok (.iload_n 1, 1) := by decide +kernel
theorem dX13_spots_62 : decode cX13_spots 62 = .ok (.bipush 10, 2) := by decide +kernel
theorem dX13_spots_64 : decode cX13_spots 64 = .ok (.idiv, 1) := by decide +kernel
theorem dX13_spots_65 : decode cX13_spots 65 = .ok (.imul, 1) := by decide +kernel
theorem dX13_spots_66 : decode cX13_spots 66 = .ok (.iconst 3, 1) := by decide +kernel
theorem dX13_spots_67 : decode cX13_spots 67 = .ok (.iadd, 1) := by decide +kernel
theorem dX13_spots_68 : decode cX13_spots 68 = .ok (.iaload, 1) := by decide +kernel
theorem dX13_spots_69 : decode cX13_spots 69 = .ok (.if_icmp .gt 68, 3) := by decide +kernel
theorem dX13_spots_72 : decode cX13_spots 72 = .ok (.aload_n 0, 1) := by decide +kernel
theorem dX13_spots_73 : decode cX13_spots 73 = .ok (.iload_n 1, 1) := by decide +kernel
theorem dX13_spots_74 : decode cX13_spots 74 = .ok (.bipush 10, 2) := by decide +kernel
theorem dX13_spots_76 : decode cX13_spots 76 = .ok (.irem, 1) := by decide +kernel
theorem dX13_spots_77 : decode cX13_spots 77 = .ok (.iload_n 2, 1) := by decide +kernel
theorem dX13_spots_78 : decode cX13_spots 78 = .ok (.iload_n 3, 1) := by decide +kernel
theorem dX13_spots_79 : decode cX13_spots 79 = .ok (.iload 6, 2) := by decide +kernel
theorem dX13_spots_81 : decode cX13_spots 81 = .ok (.invokevirtual 398, 3) := by decide +kernel
theorem dX13_spots_84 : decode cX13_spots 84 = .ok (.bipush (-5), 2) := by decide +kernel
theorem dX13_spots_86 : decode cX13_spots 86 = .ok (.istore 7, 2) := by decide +kernel
theorem dX13_spots_88 : decode cX13_spots 88 = .ok (.iload 7, 2) := by decide +kernel
theorem dX13_spots_90 : decode cX13_spots 90 = .ok (.iconst 5, 1) := by decide +kernel
theorem dX13_spots_91 : decode cX13_spots 91 = .ok (.if_icmp .gt 40, 3) := by decide +kernel
theorem dX13_spots_94 : decode cX13_spots 94 = .ok (.iload 5, 2) := by decide +kernel
theorem dX13_spots_96 : decode cX13_spots 96 = .ok (.aload_n 0, 1) := by decide +kernel
theorem dX13_spots_97 : decode cX13_spots 97 = .ok (.iload_n 1, 1) := by decide +kernel
theorem dX13_spots_98 : decode cX13_spots 98 = .ok (.bipush 10, 2) := by decide +kernel
theorem dX13_spots_100 : decode cX13_spots 100 = .ok (.idiv, 1) := by decide +kernel
theorem dX13_spots_101 : decode cX13_spots 101 = .ok (.iload_n 2, 1) := by decide +kernel
theorem dX13_spots_102 : decode cX13_spots 102 = .ok (.bipush 10, 2) := by decide +kernel
theorem dX13_spots_104 : decode cX13_spots 104 = .ok (.irem, 1) := by decide +kernel
theorem dX13_spots_105 : decode cX13_spots 105 = .ok (.iload 6, 2) := by decide +kernel
theorem dX13_spots_107 : decode cX13_spots 107 = .ok (.iload 7, 2) := by decide +kernel
theorem dX13_spots_109 : decode cX13_spots 109 = .ok (.invokevirtual 402, 3) := by decide +kernel
theorem dX13_spots_112 : decode cX13_spots 112 = .ok (.iload 4, 2) := by decide +kernel
theorem dX13_spots_114 : decode cX13_spots 114 = .ok (.if_icmp .lt 7, 3) := by decide +kernel
theorem dX13_spots_117 : decode cX13_spots 117 = .ok (.iconst 1, 1) := by decide +kernel
theorem dX13_spots_118 : decode cX13_spots 118 = .ok (.goto 4, 3) := by decide +kernel
theorem dX13_spots_121 : decode cX13_spots 121 = .ok (.iconst 0, 1) := by decide +kernel
theorem dX13_spots_122 : decode cX13_spots 122 = .ok (.iadd, 1) := by decide +kernel
theorem dX13_spots_123 : decode cX13_spots 123 = .ok (.istore 5, 2) := by decide +kernel
theorem dX13_spots_125 : decode cX13_spots 125 = .ok (.iinc 7 1, 3) := by decide +kernel
theorem dX13_spots_128 : decode cX13_spots 128 = .ok (.goto (-40), 3) := by decide +kernel
theorem dX13_spots_131 : decode cX13_spots 131 = .ok (.iinc 6 1, 3) := by decide +kernel
theorem dX13_spots_134 : decode cX13_spots 134 = .ok (.goto (-80), 3) := by decide +kernel
theorem dX13_spots_137 : decode cX13_spots 137 = .ok (.iload 5, 2) := by decide +kernel
theorem dX13_spots_139 : decode cX13_spots 139 = .ok (.ireturn, 1) := by decide +kernel
def fX13_spots_L88 : Nat → eg_H → Nat → Int32 → Int32 → Int32 → Int32 → Int32 → Int32 → Int32 → Option (Nat × Int32 × Int32 × Int32 × Int32 × Int32 × Int32 × eg_H)
  | 0, _, _, _, _, _, _, _, _, _ => none
  | n + 1, h, l0, l1, l2, l3, l4, l5, l6, l7 =>
    if (5 : Int32) < l7 then
      (some (l0, l1, l2, l3, l4, l5, l6, h))
    else
      (fX13_goodBy h l0 (l1 / (10 : Int32)) (l2 % (10 : Int32)) l6 l7).bind fun ⟨v3, h2⟩ =>
      if v3 < l4 then
        ((some ((l5 + (0 : Int32)))).bind fun v6 =>
        fX13_spots_L88 n h2 l0 l1 l2 l3 l4 v6 l6 (l7 + (1 : Int32)))
      else
        (some ((l5 + (1 : Int32)))).bind fun v8 =>
        fX13_spots_L88 n h2 l0 l1 l2 l3 l4 v8 l6 (l7 + (1 : Int32))
set_option maxRecDepth 20000 in
theorem fX13_spots_L88_ok {h0 : eg_H} {Z : eg_C → State → Prop} {N S : Nat} : ∀ (n : Nat) (h : eg_H) (l0 : Nat) (l1 : Int32) (l2 : Int32) (l3 : Int32) (l4 : Int32) (l5 : Int32) (l6 : Int32) (l7 : Int32) (eE : Nat × Int32 × Int32 × Int32 × Int32 × Int32 × Int32 × eg_H), fX13_spots_L88 n h l0 l1 l2 l3 l4 l5 l6 l7 = some eE → (hk0 : ∀ (l0 : Nat) (l1 : Int32) (l2 : Int32) (l3 : Int32) (l4 : Int32) (l5 : Int32) (l6 : Int32) (h : eg_H), eE = (l0, l1, l2, l3, l4, l5, l6, h) → eg_AW (RX13, cX13_spots, 8, 397, none, "spots", (some .int)) Z N S h0 131 [(0, .ref l0), (1, .int l1), (2, .int l2), (3, .int l3), (4, .int l4), (5, .int l5), (6, .int l6)] [] h) → eg_AW (RX13, cX13_spots, 8, 397, none, "spots", (some .int)) Z N S h0 88 [(0, .ref l0), (1, .int l1), (2, .int l2), (3, .int l3), (4, .int l4), (5, .int l5), (6, .int l6), (7, .int l7)] [] h := by
  intro n
  induction n with
  | zero => intro h l0 l1 l2 l3 l4 l5 l6 l7 eE hF; exact absurd hF (by intro q; cases q)
  | succ n ih =>
    intro h l0 l1 l2 l3 l4 l5 l6 l7 eE hF hk0
    have hrec := fun (h' : eg_H) (l0 : Nat) (l1 : Int32) (l2 : Int32) (l3 : Int32) (l4 : Int32) (l5 : Int32) (l6 : Int32) (l7 : Int32) hq => ih h' l0 l1 l2 l3 l4 l5 l6 l7 eE hq hk0
    refine eg_iload (i := 7) 7 dX13_spots_88 rfl ?_
    refine eg_iconst (v := (5 : Int32)) dX13_spots_90 (by decide) ?_
    refine eg_ic_gt 131 dX13_spots_91 rfl (fun c1 => ?_) (fun c1 => ?_)
    · replace hF := eg_it c1 hF
      exact eg_sub [0, 1, 2, 3, 4, 5, 6] [(0, .ref l0), (1, .int l1), (2, .int l2), (3, .int l3), (4, .int l4), (5, .int l5), (6, .int l6)] rfl (hk0 l0 l1 l2 l3 l4 l5 l6 h (Option.some.inj hF).symm)
    · replace hF := eg_if c1 hF
      refine eg_iload (i := 5) 5 dX13_spots_94 rfl ?_
      refine eg_aload_n (i := 0) 0 dX13_spots_96 rfl rfl ?_
      refine eg_iload_n (i := 1) 1 dX13_spots_97 rfl rfl ?_
      refine eg_bipush (v := (10 : Int32)) dX13_spots_98 (by decide) ?_
      refine eg_idiv dX13_spots_100 (by decide) ?_
      refine eg_iload_n (i := 2) 2 dX13_spots_101 rfl rfl ?_
      refine eg_bipush (v := (10 : Int32)) dX13_spots_102 (by decide) ?_
      refine eg_irem dX13_spots_104 (by decide) ?_
      refine eg_iload (i := 6) 6 dX13_spots_105 rfl ?_
      refine eg_iload (i := 7) 7 dX13_spots_107 rfl ?_
      replace hF := eg_bind hF; obtain ⟨⟨v3, h2⟩, e4, hF⟩ := hF
      refine eg_callV (c := 13) (n := 4) [.int (l1 / (10 : Int32)), .int (l2 % (10 : Int32)), .int l6, .int l7] dX13_spots_109 (mX13_goodBy e4) rfl (fX13_goodBy_O e4) (Nat.le_of_ble_eq_true rfl) rfl ew_1953 ew_1955 ew_82 ew_110 ew_1956 hy_X13_goodBy rfl (Nat.le_of_ble_eq_true rfl) (Nat.le_of_ble_eq_true rfl) (Nat.le_of_ble_eq_true rfl) ?_
      refine eg_iload (i := 4) 4 dX13_spots_112 rfl ?_
      refine eg_ic_lt 121 dX13_spots_114 rfl (fun c5 => ?_) (fun c5 => ?_)
      · replace hF := eg_it c5 hF
        refine eg_iconst (v := (0 : Int32)) dX13_spots_121 (by decide) ?_
        refine eg_iadd dX13_spots_122 ?_
        replace hF := eg_bind hF; obtain ⟨v6, e7, hF⟩ := hF
        replace e7 := Option.some.inj e7
        rw [e7]
        refine eg_istore (i := 5) [(5, .int v6), (0, .ref l0), (1, .int l1), (2, .int l2), (3, .int l3), (4, .int l4), (6, .int l6), (7, .int l7)] dX13_spots_123 (Nat.le_of_ble_eq_true rfl) rfl ?_
        refine eg_iinc (i := 7) (v := (l7 + (1 : Int32))) 7 [(7, .int (l7 + (1 : Int32))), (5, .int v6), (0, .ref l0), (1, .int l1), (2, .int l2), (3, .int l3), (4, .int l4), (6, .int l6)] dX13_spots_125 rfl rfl (Nat.le_of_ble_eq_true rfl) rfl ?_
        refine eg_goto 88 dX13_spots_128 rfl ?_
        exact eg_sub [2, 3, 4, 5, 6, 1, 7, 0] [(0, .ref l0), (1, .int l1), (2, .int l2), (3, .int l3), (4, .int l4), (5, .int v6), (6, .int l6), (7, .int (l7 + (1 : Int32)))] rfl (hrec h2 l0 l1 l2 l3 l4 v6 l6 (l7 + (1 : Int32)) hF)
      · replace hF := eg_if c5 hF
        refine eg_iconst (v := (1 : Int32)) dX13_spots_117 (by decide) ?_
        refine eg_goto 122 dX13_spots_118 rfl ?_
        refine eg_iadd dX13_spots_122 ?_
        replace hF := eg_bind hF; obtain ⟨v8, e9, hF⟩ := hF
        replace e9 := Option.some.inj e9
        rw [e9]
        refine eg_istore (i := 5) [(5, .int v8), (0, .ref l0), (1, .int l1), (2, .int l2), (3, .int l3), (4, .int l4), (6, .int l6), (7, .int l7)] dX13_spots_123 (Nat.le_of_ble_eq_true rfl) rfl ?_
        refine eg_iinc (i := 7) (v := (l7 + (1 : Int32))) 7 [(7, .int (l7 + (1 : Int32))), (5, .int v8), (0, .ref l0), (1, .int l1), (2, .int l2), (3, .int l3), (4, .int l4), (6, .int l6)] dX13_spots_125 rfl rfl (Nat.le_of_ble_eq_true rfl) rfl ?_
        refine eg_goto 88 dX13_spots_128 rfl ?_
        exact eg_sub [2, 3, 4, 5, 6, 1, 7, 0] [(0, .ref l0), (1, .int l1), (2, .int l2), (3, .int l3), (4, .int l4), (5, .int v8), (6, .int l6), (7, .int (l7 + (1 : Int32)))] rfl (hrec h2 l0 l1 l2 l3 l4 v8 l6 (l7 + (1 : Int32)) hF)
def fX13_spots_L54 : Nat → eg_H → Nat → Int32 → Int32 → Int32 → Int32 → Int32 → Int32 → Option (Int32 × eg_H)
  | 0, _, _, _, _, _, _, _, _ => none
  | n + 1, h, l0, l1, l2, l3, l4, l5, l6 =>
    (eg_gR h 13 20 l0).bind fun p1 =>
    (eg_aI h 100 p1 (((4 : Int32) * (l1 / (10 : Int32))) + (3 : Int32))).bind fun v3 =>
    if v3 < l6 then
      (some (l5, h))
    else
      (fX13_layHolds h l0 (l1 % (10 : Int32)) l2 l3 l6).bind fun h6 =>
      (fX13_spots_L88 eg_F h6 l0 l1 l2 l3 l4 l5 l6 (-5 : Int32)).bind fun e =>
      match e with
      | (p10, v11, v12, v13, v14, v15, v16, h17) =>
        fX13_spots_L54 n h17 p10 v11 v12 v13 v14 v15 (v16 + (1 : Int32))
set_option maxRecDepth 20000 in
theorem fX13_spots_L54_ok {h0 : eg_H} {Z : eg_C → State → Prop} {N S : Nat} : ∀ (n : Nat) (h : eg_H) (l0 : Nat) (l1 : Int32) (l2 : Int32) (l3 : Int32) (l4 : Int32) (l5 : Int32) (l6 : Int32) (eE : Int32 × eg_H), fX13_spots_L54 n h l0 l1 l2 l3 l4 l5 l6 = some eE → (hk0 : ∀ (l5 : Int32) (h : eg_H), eE = (l5, h) → eg_AW (RX13, cX13_spots, 8, 397, none, "spots", (some .int)) Z N S h0 137 [(5, .int l5)] [] h) → eg_AW (RX13, cX13_spots, 8, 397, none, "spots", (some .int)) Z N S h0 54 [(0, .ref l0), (1, .int l1), (2, .int l2), (3, .int l3), (4, .int l4), (5, .int l5), (6, .int l6)] [] h := by
  intro n
  induction n with
  | zero => intro h l0 l1 l2 l3 l4 l5 l6 eE hF; exact absurd hF (by intro q; cases q)
  | succ n ih =>
    intro h l0 l1 l2 l3 l4 l5 l6 eE hF hk0
    have hrec := fun (h' : eg_H) (l0 : Nat) (l1 : Int32) (l2 : Int32) (l3 : Int32) (l4 : Int32) (l5 : Int32) (l6 : Int32) hq => ih h' l0 l1 l2 l3 l4 l5 l6 eE hq hk0
    refine eg_iload (i := 6) 6 dX13_spots_54 rfl ?_
    refine eg_aload_n (i := 0) 0 dX13_spots_56 rfl rfl ?_
    replace hF := eg_bind hF; obtain ⟨p1, e2, hF⟩ := hF
    refine eg_getR dX13_spots_57 e2 (Nat.le_of_ble_eq_true rfl) (Nat.le_of_ble_eq_true rfl) rfl ew_1454 ?_
    refine eg_iconst (v := (4 : Int32)) dX13_spots_60 (by decide) ?_
    refine eg_iload_n (i := 1) 1 dX13_spots_61 rfl rfl ?_
    refine eg_bipush (v := (10 : Int32)) dX13_spots_62 (by decide) ?_
    refine eg_idiv dX13_spots_64 (by decide) ?_
    refine eg_imul dX13_spots_65 ?_
    refine eg_iconst (v := (3 : Int32)) dX13_spots_66 (by decide) ?_
    refine eg_iadd dX13_spots_67 ?_
    replace hF := eg_bind hF; obtain ⟨v3, e4, hF⟩ := hF
    refine eg_iald dX13_spots_68 e4 ?_
    refine eg_ic_gt 137 dX13_spots_69 rfl (fun c5 => ?_) (fun c5 => ?_)
    · replace hF := eg_it c5 hF
      exact eg_sub [5] [(5, .int l5)] rfl (hk0 l5 h (Option.some.inj hF).symm)
    · replace hF := eg_if c5 hF
      refine eg_aload_n (i := 0) 0 dX13_spots_72 rfl rfl ?_
      refine eg_iload_n (i := 1) 1 dX13_spots_73 rfl rfl ?_
      refine eg_bipush (v := (10 : Int32)) dX13_spots_74 (by decide) ?_
      refine eg_irem dX13_spots_76 (by decide) ?_
      refine eg_iload_n (i := 2) 2 dX13_spots_77 rfl rfl ?_
      refine eg_iload_n (i := 3) 3 dX13_spots_78 rfl rfl ?_
      refine eg_iload (i := 6) 6 dX13_spots_79 rfl ?_
      replace hF := eg_bind hF; obtain ⟨h6, e7, hF⟩ := hF
      refine eg_callV (c := 13) (n := 4) [.int (l1 % (10 : Int32)), .int l2, .int l3, .int l6] dX13_spots_81 (mX13_layHolds e7) rfl (fX13_layHolds_O e7) (Nat.le_of_ble_eq_true rfl) rfl ew_1945 ew_1947 ew_80 ew_110 ew_1948 hy_X13_layHolds rfl (Nat.le_of_ble_eq_true rfl) (Nat.le_of_ble_eq_true rfl) (Nat.le_of_ble_eq_true rfl) ?_
      refine eg_bipush (v := (-5 : Int32)) dX13_spots_84 (by decide) ?_
      refine eg_istore (i := 7) [(7, .int (-5 : Int32)), (0, .ref l0), (1, .int l1), (2, .int l2), (3, .int l3), (4, .int l4), (5, .int l5), (6, .int l6)] dX13_spots_86 (Nat.le_of_ble_eq_true rfl) rfl ?_
      replace hF := eg_bind hF; obtain ⟨x9, e8, hF⟩ := hF
      refine eg_sub [1, 2, 3, 4, 5, 6, 7, 0] [(0, .ref l0), (1, .int l1), (2, .int l2), (3, .int l3), (4, .int l4), (5, .int l5), (6, .int l6), (7, .int (-5 : Int32))] rfl (fX13_spots_L88_ok eg_F h6 l0 l1 l2 l3 l4 l5 l6 (-5 : Int32) x9 e8 ?_)
      · intro p10 v11 v12 v13 v14 v15 v16 h17 e18
        subst e18
        refine eg_iinc (i := 6) (v := (v16 + (1 : Int32))) 6 [(6, .int (v16 + (1 : Int32))), (0, .ref p10), (1, .int v11), (2, .int v12), (3, .int v13), (4, .int v14), (5, .int v15)] dX13_spots_131 rfl rfl (Nat.le_of_ble_eq_true rfl) rfl ?_
        refine eg_goto 54 dX13_spots_134 rfl ?_
        exact eg_sub [1, 2, 3, 4, 5, 6, 0] [(0, .ref p10), (1, .int v11), (2, .int v12), (3, .int v13), (4, .int v14), (5, .int v15), (6, .int (v16 + (1 : Int32)))] rfl (hrec h17 p10 v11 v12 v13 v14 v15 (v16 + (1 : Int32)) hF)
def fX13_spots (h : eg_H) (l0 : Nat) (l1 : Int32) (l2 : Int32) (l3 : Int32) (l4 : Int32) : Option (Int32 × eg_H) :=
  if eg_isO h 13 l0 then (
    (eg_pI h 13 0 l0 (0 : Int32)).bind fun h1 =>
    (fX13_isTwo h1 l0 l1).bind fun ⟨v4, h3⟩ =>
    if v4 = 0 then
      (some ((-1 : Int32), h3))
    else
      (fX13_isFrom h3 l0 l2).bind fun ⟨v8, h7⟩ =>
      if v8 = 0 then
        (some ((-1 : Int32), h7))
      else
        (fX13_isIn h7 l3.toInt64 (1 : Int64) (60 : Int64)).bind fun ⟨v12, h11⟩ =>
        if v12 = 0 then
          (some ((-1 : Int32), h11))
        else
          (fX13_isIn h11 l4.toInt64 (0 : Int64) (11 : Int64)).bind fun ⟨v16, h15⟩ =>
          if v16 = 0 then
            (some ((-1 : Int32), h15))
          else
            (fX13_spots_L54 eg_F h15 l0 l1 l2 l3 l4 (0 : Int32) (0 : Int32)).bind fun e =>
            match e with
            | (v21, h22) =>
              some (v21, h22)) else none
theorem fX13_spots_O {h : eg_H} {l0 : Nat} {l1 : Int32} {l2 : Int32} {l3 : Int32} {l4 : Int32} {rE : Int32} {hE : eg_H} (hF : fX13_spots h l0 l1 l2 l3 l4 = some (rE, hE)) : eg_isO h 13 l0 := (eg_ifn hF).1
set_option maxRecDepth 20000 in
theorem mX13_spots {h : eg_H} {l0 : Nat} {l1 : Int32} {l2 : Int32} {l3 : Int32} {l4 : Int32} {rE : Int32} {hE : eg_H} (hF : fX13_spots h l0 l1 l2 l3 l4 = some (rE, hE)) : eg_Met yX13_spots cX13_spots 8 (some .int) 397 [.ref l0, .int l1, .int l2, .int l3, .int l4] h (some (.int rE)) hE := by
  refine eg_enter rfl (Nat.le_of_ble_eq_true rfl) ?_
  show eg_AW (RX13, cX13_spots, 8, 397, none, "spots", (some .int)) (eg_Zm (some (.int rE)) hE h) (eg_nc hE) (eg_ns hE) h 0 [(0, .ref l0), (1, .int l1), (2, .int l2), (3, .int l3), (4, .int l4)] [] h
  replace hF := (eg_ifn hF).2
  refine eg_aload_n (i := 0) 0 dX13_spots_0 rfl rfl ?_
  refine eg_iconst (v := (0 : Int32)) dX13_spots_1 (by decide) ?_
  replace hF := eg_bind hF; obtain ⟨h1, e2, hF⟩ := hF
  refine eg_putI dX13_spots_2 e2 (Nat.le_of_ble_eq_true rfl) (Nat.le_of_ble_eq_true rfl) rfl ew_1434 (Or.inl rfl) ?_
  refine eg_aload_n (i := 0) 0 dX13_spots_5 rfl rfl ?_
  refine eg_iload_n (i := 1) 1 dX13_spots_6 rfl rfl ?_
  replace hF := eg_bind hF; obtain ⟨⟨v4, h3⟩, e5, hF⟩ := hF
  refine eg_callV (c := 13) (n := 1) [.int l1] dX13_spots_7 (mX13_isTwo e5) rfl (fX13_isTwo_O e5) (Nat.le_of_ble_eq_true rfl) rfl ew_1929 ew_1931 ew_76 ew_110 ew_1932 hy_X13_isTwo rfl (Nat.le_of_ble_eq_true rfl) (Nat.le_of_ble_eq_true rfl) (Nat.le_of_ble_eq_true rfl) ?_
  refine eg_if_eq 46 dX13_spots_10 rfl (fun c6 => ?_) (fun c6 => ?_)
  · replace hF := eg_it c6 hF
    refine eg_iconst (v := (-1 : Int32)) dX13_spots_46 (by decide) ?_
    exact eg_iretE dX13_spots_47 hF
  · replace hF := eg_if c6 hF
    refine eg_aload_n (i := 0) 0 dX13_spots_13 rfl rfl ?_
    refine eg_iload_n (i := 2) 2 dX13_spots_14 rfl rfl ?_
    replace hF := eg_bind hF; obtain ⟨⟨v8, h7⟩, e9, hF⟩ := hF
    refine eg_callV (c := 13) (n := 1) [.int l2] dX13_spots_15 (mX13_isFrom e9) rfl (fX13_isFrom_O e9) (Nat.le_of_ble_eq_true rfl) rfl ew_1933 ew_1935 ew_77 ew_110 ew_1936 hy_X13_isFrom rfl (Nat.le_of_ble_eq_true rfl) (Nat.le_of_ble_eq_true rfl) (Nat.le_of_ble_eq_true rfl) ?_
    refine eg_if_eq 46 dX13_spots_18 rfl (fun c10 => ?_) (fun c10 => ?_)
    · replace hF := eg_it c10 hF
      refine eg_iconst (v := (-1 : Int32)) dX13_spots_46 (by decide) ?_
      exact eg_iretE dX13_spots_47 hF
    · replace hF := eg_if c10 hF
      refine eg_iload_n (i := 3) 3 dX13_spots_21 rfl rfl ?_
      refine eg_i2l dX13_spots_22 ?_
      refine eg_lconst (v := (1 : Int64)) dX13_spots_23 (by decide) ?_
      refine eg_ldc2 (v := (60 : Int64)) dX13_spots_24 ew_1912 ?_
      replace hF := eg_bind hF; obtain ⟨⟨v12, h11⟩, e13, hF⟩ := hF
      refine eg_callS (n := 3) [.long l3.toInt64, .long (1 : Int64), .long (60 : Int64)] dX13_spots_27 (mX13_isIn e13) rfl ew_1697 ew_1698 ew_110 ew_1699 hy_X13_isIn.2 rfl (Nat.le_of_ble_eq_true rfl) (Nat.le_of_ble_eq_true rfl) (Nat.le_of_ble_eq_true rfl) ?_
      refine eg_if_eq 46 dX13_spots_30 rfl (fun c14 => ?_) (fun c14 => ?_)
      · replace hF := eg_it c14 hF
        refine eg_iconst (v := (-1 : Int32)) dX13_spots_46 (by decide) ?_
        exact eg_iretE dX13_spots_47 hF
      · replace hF := eg_if c14 hF
        refine eg_iload (i := 4) 4 dX13_spots_33 rfl ?_
        refine eg_i2l dX13_spots_35 ?_
        refine eg_lconst (v := (0 : Int64)) dX13_spots_36 (by decide) ?_
        refine eg_ldc2 (v := (11 : Int64)) dX13_spots_37 ew_2024 ?_
        replace hF := eg_bind hF; obtain ⟨⟨v16, h15⟩, e17, hF⟩ := hF
        refine eg_callS (n := 3) [.long l4.toInt64, .long (0 : Int64), .long (11 : Int64)] dX13_spots_40 (mX13_isIn e17) rfl ew_1697 ew_1698 ew_110 ew_1699 hy_X13_isIn.2 rfl (Nat.le_of_ble_eq_true rfl) (Nat.le_of_ble_eq_true rfl) (Nat.le_of_ble_eq_true rfl) ?_
        refine eg_if_ne 48 dX13_spots_43 rfl (fun c18 => ?_) (fun c18 => ?_)
        · replace hF := eg_it c18 hF
          refine eg_iconst (v := (-1 : Int32)) dX13_spots_46 (by decide) ?_
          exact eg_iretE dX13_spots_47 hF
        · replace hF := eg_if c18 hF
          refine eg_iconst (v := (0 : Int32)) dX13_spots_48 (by decide) ?_
          refine eg_istore (i := 5) [(5, .int (0 : Int32)), (0, .ref l0), (1, .int l1), (2, .int l2), (3, .int l3), (4, .int l4)] dX13_spots_49 (Nat.le_of_ble_eq_true rfl) rfl ?_
          refine eg_iconst (v := (0 : Int32)) dX13_spots_51 (by decide) ?_
          refine eg_istore (i := 6) [(6, .int (0 : Int32)), (5, .int (0 : Int32)), (0, .ref l0), (1, .int l1), (2, .int l2), (3, .int l3), (4, .int l4)] dX13_spots_52 (Nat.le_of_ble_eq_true rfl) rfl ?_
          replace hF := eg_bind hF; obtain ⟨x20, e19, hF⟩ := hF
          refine eg_sub [2, 3, 4, 5, 6, 1, 0] [(0, .ref l0), (1, .int l1), (2, .int l2), (3, .int l3), (4, .int l4), (5, .int (0 : Int32)), (6, .int (0 : Int32))] rfl (fX13_spots_L54_ok eg_F h15 l0 l1 l2 l3 l4 (0 : Int32) (0 : Int32) x20 e19 ?_)
          · intro v21 h22 e23
            subst e23
            refine eg_iload (i := 5) 0 dX13_spots_137 rfl ?_
            exact eg_iretE dX13_spots_139 hF
