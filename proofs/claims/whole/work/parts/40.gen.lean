theorem dX13_first_0 : decode cX13_first 0 = .ok (.aload_n 0, 1) := by decide +kernel
theorem dX13_first_1 : decode cX13_first 1 = .ok (.iconst 0, 1) := by decide +kernel
theorem dX13_first_2 : decode cX13_first 2 = .ok (.putfield 148, 3) := by decide +kernel
theorem dX13_first_5 : decode cX13_first 5 = .ok (.aload_n 0, 1) := by decide +kernel
theorem dX13_first_6 : decode cX13_first 6 = .ok (.iload_n 1, 1) := by decide +kernel
theorem dX13_first_7 : decode cX13_first 7 = .ok (.invokevirtual 405, 3) := by decide +kernel
theorem dX13_first_10 : decode cX13_first 10 = .ok (.ifCond .eq 21, 3) := by decide +kernel
theorem dX13_first_13 : decode cX13_first 13 = .ok (.aload_n 0, 1) := by decide +kernel
theorem dX13_first_14 : decode cX13_first 14 = .ok (.iload_n 2, 1) := by decide +kernel
theorem dX13_first_15 : decode cX13_first 15 = .ok (.invokevirtual 356, 3) := by decide +kernel
theorem dX13_first_18 : decode cX13_first 18 = .ok (.ifCond .eq 13, 3) := by decide +kernel
theorem dX13_first_21 : decode cX13_first 21 = .ok (.iload_n 3, 1) := by decide +kernel
theorem dX13_first_22 : decode cX13_first 22 = .ok (.i2l, 1) := by decide +kernel
theorem dX13_first_23 : decode cX13_first 23 = .ok (.lconst 0, 1) := by decide +kernel
theorem dX13_first_24 : decode cX13_first 24 = .ok (.lconst 1, 1) := by decide +kernel
theorem dX13_first_25 : decode cX13_first 25 = .ok (.invokestatic 269, 3) := by decide +kernel
theorem dX13_first_28 : decode cX13_first 28 = .ok (.ifCond .ne 7, 3) := by decide +kernel
theorem dX13_first_31 : decode cX13_first 31 = .ok (.ldc2_w 444, 3) := by decide +kernel
theorem dX13_first_34 : decode cX13_first 34 = .ok (.lreturn, 1) := by decide +kernel
theorem dX13_first_35 : decode cX13_first 35 = .ok (.iload_n 1, 1) := by decide +kernel
theorem dX13_first_36 : decode cX13_first 36 = .ok (.iload_n 1, 1) := by decide +kernel
theorem dX13_first_37 : decode cX13_first 37 = .ok (.invokestatic 446, 3) := by decide +kernel
theorem dX13_first_40 : decode cX13_first 40 = .ok (.invokestatic 376, 3) := by decide +kernel
theorem dX13_first_43 : decode cX13_first 43 = .ok (.istore 4, 2) := by decide +kernel
theorem dX13_first_45 : decode cX13_first 45 = .ok (.ldc2_w 444, 3) := by decide +kernel
theorem dX13_first_48 : decode cX13_first 48 = .ok (.lstore 5, 2) := by decide +kernel
theorem dX13_first_50 : decode cX13_first 50 = .ok (.ldc2_w 444, 3) := by decide +kernel
theorem dX13_first_53 : decode cX13_first 53 = .ok (.lstore 7, 2) := by decide +kernel
theorem dX13_first_55 : decode cX13_first 55 = .ok (.iconst 0, 1) := by decide +kernel
theorem dX13_first_56 : decode cX13_first 56 = .ok (.istore 9, 2) := by decide +kernel
theorem dX13_first_58 : decode cX13_first 58 = .ok (.iload 9, 2) := by decide +kernel
theorem dX13_first_60 : decode cX13_first 60 = .ok (.iconst 4, 1) := by decide +kernel
theorem dX13_first_61 : decode cX13_first 61 = .ok (.if_icmp .ge 75, 3) := by decide +kernel
theorem dX13_first_64 : decode cX13_first 64 = .ok (.iload 9, 2) := by decide +kernel
theorem dX13_first_66 : decode cX13_first 66 = .ok (.iconst 2, 1) := by decide +kernel
theorem dX13_first_67 : decode cX13_first 67 = .ok (.if_icmp .ge 8, 3) := by decide +kernel
theorem dX13_first_70 : decode cX13_first 70 = .ok (.iload 4, 2) := by decide +kernel
theorem dX13_first_72 : decode cX13_first 72 = .ok (.goto 8, 3) := by decide +kernel
theorem dX13_first_75 : decode cX13_first 75 = .ok (.iload 4, 2) := by decide +kernel
theorem dX13_first_77 : decode cX13_first 77 = .ok (.invokestatic 446, 3) := by decide +kernel
theorem dX13_first_80 : decode cX13_first 80 = .ok (.istore 10, 2) := by decide +kernel
theorem dX13_first_82 : decode cX13_first 82 = .ok (.aload_n 0, 1) := by decide +kernel
theorem dX13_first_83 : decode cX13_first 83 = .ok (.iload 10, 2) := by decide +kernel
theorem dX13_first_85 : decode cX13_first 85 = .ok (.bipush 10, 2) := by decide +kernel
theorem dX13_first_87 : decode cX13_first 87 = .ok (.iload_n 2, 1) := by decide +kernel
theorem dX13_first_88 : decode cX13_first 88 = .ok (.imul, 1) := by decide +kernel
theorem dX13_first_89 : decode cX13_first 89 = .ok (.iload 9, 2) := by decide +kernel
theorem dX13_first_91 : decode cX13_first 91 = .ok (.iconst 2, 1) := by decide +kernel
theorem dX13_first_92 : decode cX13_first 92 = .ok (.irem, 1) := by decide +kernel
theorem dX13_first_93 : decode cX13_first 93 = .ok (.iadd, 1) := by decide +kernel
theorem dX13_first_94 : decode cX13_first 94 = .ok (.invokevirtual 440, 3) := by decide +kernel
theorem dX13_first_97 : decode cX13_first 97 = .ok (.lstore 11, 2) := by decide +kernel
theorem dX13_first_99 : decode cX13_first 99 = .ok (.lload 11, 2) := by decide +kernel
theorem dX13_first_101 : decode cX13_first 101 = .ok (.lload 7, 2) := by decide +kernel
theorem dX13_first_103 : decode cX13_first 103 = .ok (.lcmp, 1) := by decide +kernel
theorem dX13_first_104 : decode cX13_first 104 = .ok (.ifCond .gt 6, 3) := by decide +kernel
theorem dX13_first_107 : decode cX13_first 107 = .ok (.goto 23, 3) := by decide +kernel
theorem dX13_first_110 : decode cX13_first 110 = .ok (.iload 10, 2) := by decide +kernel
theorem dX13_first_112 : decode cX13_first 112 = .ok (.bipush 10, 2) := by decide +kernel
theorem dX13_first_114 : decode cX13_first 114 = .ok (.idiv, 1) := by decide +kernel
theorem dX13_first_115 : decode cX13_first 115 = .ok (.bipush 10, 2) := by decide +kernel
theorem dX13_first_117 : decode cX13_first 117 = .ok (.imul, 1) := by decide +kernel
theorem dX13_first_118 : decode cX13_first 118 = .ok (.iload 9, 2) := by decide +kernel
theorem dX13_first_120 : decode cX13_first 120 = .ok (.iconst 2, 1) := by decide +kernel
theorem dX13_first_121 : decode cX13_first 121 = .ok (.irem, 1) := by decide +kernel
theorem dX13_first_122 : decode cX13_first 122 = .ok (.iadd, 1) := by decide +kernel
theorem dX13_first_123 : decode cX13_first 123 = .ok (.i2l, 1) := by decide +kernel
theorem dX13_first_124 : decode cX13_first 124 = .ok (.lstore 5, 2) := by decide +kernel
theorem dX13_first_126 : decode cX13_first 126 = .ok (.lload 11, 2) := by decide +kernel
theorem dX13_first_128 : decode cX13_first 128 = .ok (.lstore 7, 2) := by decide +kernel
theorem dX13_first_130 : decode cX13_first 130 = .ok (.iinc 9 1, 3) := by decide +kernel
theorem dX13_first_133 : decode cX13_first 133 = .ok (.goto (-75), 3) := by decide +kernel
theorem dX13_first_136 : decode cX13_first 136 = .ok (.iload_n 3, 1) := by decide +kernel
theorem dX13_first_137 : decode cX13_first 137 = .ok (.ifCond .ne 8, 3) := by decide +kernel
theorem dX13_first_140 : decode cX13_first 140 = .ok (.lload 5, 2) := by decide +kernel
theorem dX13_first_142 : decode cX13_first 142 = .ok (.goto 5, 3) := by decide +kernel
theorem dX13_first_145 : decode cX13_first 145 = .ok (.lload 7, 2) := by decide +kernel
theorem dX13_first_147 : decode cX13_first 147 = .ok (.lreturn, 1) := by decide +kernel
def fX13_first_j80 (rec : eg_H → Nat → Int32 → Int32 → Int32 → Int64 → Int64 → Int32 → Option (Int32 × Int64 × Int64 × eg_H)) (h : eg_H) (l0 : Nat) (l2 : Int32) (l3 : Int32) (l4 : Int32) (l5 : Int64) (l7 : Int64) (l9 : Int32) (s0 : Int32) : Option (Int32 × Int64 × Int64 × eg_H) :=
  (fX13_hopeOf h l0 s0 (((10 : Int32) * l2) + (l9 % (2 : Int32)))).bind fun ⟨v2, h1⟩ =>
  if l7 < v2 then
    ((some ((((s0 / (10 : Int32)) * (10 : Int32)) + (l9 % (2 : Int32))).toInt64)).bind fun v5 =>
    rec h1 l0 l2 l3 l4 v5 v2 (l9 + (1 : Int32)))
  else
    rec h1 l0 l2 l3 l4 l5 l7 (l9 + (1 : Int32))
set_option maxRecDepth 20000 in
theorem fX13_first_j80_ok {rec : eg_H → Nat → Int32 → Int32 → Int32 → Int64 → Int64 → Int32 → Option (Int32 × Int64 × Int64 × eg_H)} {h0 : eg_H} {Z : eg_C → State → Prop} {N S : Nat} (h : eg_H) (l0 : Nat) (l2 : Int32) (l3 : Int32) (l4 : Int32) (l5 : Int64) (l7 : Int64) (l9 : Int32) (s0 : Int32) (eE : Int32 × Int64 × Int64 × eg_H) (hF : fX13_first_j80 rec h l0 l2 l3 l4 l5 l7 l9 s0 = some eE) (hrec : ∀ (h : eg_H) (l0 : Nat) (l2 : Int32) (l3 : Int32) (l4 : Int32) (l5 : Int64) (l7 : Int64) (l9 : Int32), rec h l0 l2 l3 l4 l5 l7 l9 = some eE → eg_AW (RX13, cX13_first, 13, 400, none, "first", (some .long)) Z N S h0 58 [(0, .ref l0), (2, .int l2), (3, .int l3), (4, .int l4), (5, .long l5), (7, .long l7), (9, .int l9)] [] h) (hk0 : ∀ (l3 : Int32) (l5 : Int64) (l7 : Int64) (h : eg_H), eE = (l3, l5, l7, h) → eg_AW (RX13, cX13_first, 13, 400, none, "first", (some .long)) Z N S h0 136 [(3, .int l3), (5, .long l5), (7, .long l7)] [] h) : eg_AW (RX13, cX13_first, 13, 400, none, "first", (some .long)) Z N S h0 80 [(0, .ref l0), (2, .int l2), (3, .int l3), (4, .int l4), (5, .long l5), (7, .long l7), (9, .int l9)] [.int s0] h := by
  refine eg_istore (i := 10) [(10, .int s0), (0, .ref l0), (2, .int l2), (3, .int l3), (4, .int l4), (5, .long l5), (7, .long l7), (9, .int l9)] dX13_first_80 (Nat.le_of_ble_eq_true rfl) rfl ?_
  refine eg_aload_n (i := 0) 1 dX13_first_82 rfl rfl ?_
  refine eg_iload (i := 10) 0 dX13_first_83 rfl ?_
  refine eg_bipush (v := (10 : Int32)) dX13_first_85 (by decide) ?_
  refine eg_iload_n (i := 2) 2 dX13_first_87 rfl rfl ?_
  refine eg_imul dX13_first_88 ?_
  refine eg_iload (i := 9) 7 dX13_first_89 rfl ?_
  refine eg_iconst (v := (2 : Int32)) dX13_first_91 (by decide) ?_
  refine eg_irem dX13_first_92 (by decide) ?_
  refine eg_iadd dX13_first_93 ?_
  replace hF := eg_bind hF; obtain ⟨⟨v2, h1⟩, e3, hF⟩ := hF
  refine eg_callV (c := 13) (n := 2) [.int s0, .int (((10 : Int32) * l2) + (l9 % (2 : Int32)))] dX13_first_94 (mX13_hopeOf e3) rfl (fX13_hopeOf_O e3) (Nat.le_of_ble_eq_true rfl) rfl ew_1982 ew_1984 ew_86 ew_110 ew_1985 hy_X13_hopeOf rfl (Nat.le_of_ble_eq_true rfl) (Nat.le_of_ble_eq_true rfl) (Nat.le_of_ble_eq_true rfl) ?_
  refine eg_lstore (i := 11) [(11, .long v2), (10, .int s0), (0, .ref l0), (2, .int l2), (3, .int l3), (4, .int l4), (5, .long l5), (7, .long l7), (9, .int l9)] dX13_first_97 (Nat.le_of_ble_eq_true rfl) rfl ?_
  refine eg_lload (i := 11) 0 dX13_first_99 rfl ?_
  refine eg_lload (i := 7) 7 dX13_first_101 rfl ?_
  refine eg_lc_gt 110 dX13_first_103 dX13_first_104 rfl (fun c4 => ?_) (fun c4 => ?_)
  · replace hF := eg_it c4 hF
    refine eg_iload (i := 10) 1 dX13_first_110 rfl ?_
    refine eg_bipush (v := (10 : Int32)) dX13_first_112 (by decide) ?_
    refine eg_idiv dX13_first_114 (by decide) ?_
    refine eg_bipush (v := (10 : Int32)) dX13_first_115 (by decide) ?_
    refine eg_imul dX13_first_117 ?_
    refine eg_iload (i := 9) 8 dX13_first_118 rfl ?_
    refine eg_iconst (v := (2 : Int32)) dX13_first_120 (by decide) ?_
    refine eg_irem dX13_first_121 (by decide) ?_
    refine eg_iadd dX13_first_122 ?_
    refine eg_i2l dX13_first_123 ?_
    replace hF := eg_bind hF; obtain ⟨v5, e6, hF⟩ := hF
    replace e6 := Option.some.inj e6
    rw [e6]
    refine eg_lstore (i := 5) [(5, .long v5), (11, .long v2), (10, .int s0), (0, .ref l0), (2, .int l2), (3, .int l3), (4, .int l4), (7, .long l7), (9, .int l9)] dX13_first_124 (Nat.le_of_ble_eq_true rfl) rfl ?_
    refine eg_lload (i := 11) 1 dX13_first_126 rfl ?_
    refine eg_lstore (i := 7) [(7, .long v2), (5, .long v5), (11, .long v2), (10, .int s0), (0, .ref l0), (2, .int l2), (3, .int l3), (4, .int l4), (9, .int l9)] dX13_first_128 (Nat.le_of_ble_eq_true rfl) rfl ?_
    refine eg_iinc (i := 9) (v := (l9 + (1 : Int32))) 8 [(9, .int (l9 + (1 : Int32))), (7, .long v2), (5, .long v5), (11, .long v2), (10, .int s0), (0, .ref l0), (2, .int l2), (3, .int l3), (4, .int l4)] dX13_first_130 rfl rfl (Nat.le_of_ble_eq_true rfl) rfl ?_
    refine eg_goto 58 dX13_first_133 rfl ?_
    exact eg_sub [5, 6, 7, 8, 2, 1, 0] [(0, .ref l0), (2, .int l2), (3, .int l3), (4, .int l4), (5, .long v5), (7, .long v2), (9, .int (l9 + (1 : Int32)))] rfl (hrec h1 l0 l2 l3 l4 v5 v2 (l9 + (1 : Int32)) hF)
  · replace hF := eg_if c4 hF
    refine eg_goto 130 dX13_first_107 rfl ?_
    refine eg_iinc (i := 9) (v := (l9 + (1 : Int32))) 8 [(9, .int (l9 + (1 : Int32))), (11, .long v2), (10, .int s0), (0, .ref l0), (2, .int l2), (3, .int l3), (4, .int l4), (5, .long l5), (7, .long l7)] dX13_first_130 rfl rfl (Nat.le_of_ble_eq_true rfl) rfl ?_
    refine eg_goto 58 dX13_first_133 rfl ?_
    exact eg_sub [3, 4, 5, 6, 7, 8, 0] [(0, .ref l0), (2, .int l2), (3, .int l3), (4, .int l4), (5, .long l5), (7, .long l7), (9, .int (l9 + (1 : Int32)))] rfl (hrec h1 l0 l2 l3 l4 l5 l7 (l9 + (1 : Int32)) hF)
def fX13_first_L58 : Nat → eg_H → Nat → Int32 → Int32 → Int32 → Int64 → Int64 → Int32 → Option (Int32 × Int64 × Int64 × eg_H)
  | 0, _, _, _, _, _, _, _, _ => none
  | n + 1, h, l0, l2, l3, l4, l5, l7, l9 =>
    if (4 : Int32) ≤ l9 then
      (some (l3, l5, l7, h))
    else
      if (2 : Int32) ≤ l9 then
        ((fX13_turned h l4).bind fun ⟨v4, h3⟩ =>
        fX13_first_j80 (fX13_first_L58 n) h3 l0 l2 l3 l4 l5 l7 l9 v4)
      else
        fX13_first_j80 (fX13_first_L58 n) h l0 l2 l3 l4 l5 l7 l9 l4
set_option maxRecDepth 20000 in
theorem fX13_first_L58_ok {h0 : eg_H} {Z : eg_C → State → Prop} {N S : Nat} : ∀ (n : Nat) (h : eg_H) (l0 : Nat) (l2 : Int32) (l3 : Int32) (l4 : Int32) (l5 : Int64) (l7 : Int64) (l9 : Int32) (eE : Int32 × Int64 × Int64 × eg_H), fX13_first_L58 n h l0 l2 l3 l4 l5 l7 l9 = some eE → (hk0 : ∀ (l3 : Int32) (l5 : Int64) (l7 : Int64) (h : eg_H), eE = (l3, l5, l7, h) → eg_AW (RX13, cX13_first, 13, 400, none, "first", (some .long)) Z N S h0 136 [(3, .int l3), (5, .long l5), (7, .long l7)] [] h) → eg_AW (RX13, cX13_first, 13, 400, none, "first", (some .long)) Z N S h0 58 [(0, .ref l0), (2, .int l2), (3, .int l3), (4, .int l4), (5, .long l5), (7, .long l7), (9, .int l9)] [] h := by
  intro n
  induction n with
  | zero => intro h l0 l2 l3 l4 l5 l7 l9 eE hF; exact absurd hF (by intro q; cases q)
  | succ n ih =>
    intro h l0 l2 l3 l4 l5 l7 l9 eE hF hk0
    have hrec := fun (h' : eg_H) (l0 : Nat) (l2 : Int32) (l3 : Int32) (l4 : Int32) (l5 : Int64) (l7 : Int64) (l9 : Int32) hq => ih h' l0 l2 l3 l4 l5 l7 l9 eE hq hk0
    refine eg_iload (i := 9) 6 dX13_first_58 rfl ?_
    refine eg_iconst (v := (4 : Int32)) dX13_first_60 (by decide) ?_
    refine eg_ic_ge 136 dX13_first_61 rfl (fun c1 => ?_) (fun c1 => ?_)
    · replace hF := eg_it c1 hF
      exact eg_sub [2, 4, 5] [(3, .int l3), (5, .long l5), (7, .long l7)] rfl (hk0 l3 l5 l7 h (Option.some.inj hF).symm)
    · replace hF := eg_if c1 hF
      refine eg_iload (i := 9) 6 dX13_first_64 rfl ?_
      refine eg_iconst (v := (2 : Int32)) dX13_first_66 (by decide) ?_
      refine eg_ic_ge 75 dX13_first_67 rfl (fun c2 => ?_) (fun c2 => ?_)
      · replace hF := eg_it c2 hF
        refine eg_iload (i := 4) 3 dX13_first_75 rfl ?_
        replace hF := eg_bind hF; obtain ⟨⟨v4, h3⟩, e5, hF⟩ := hF
        refine eg_callS (n := 1) [.int l4] dX13_first_77 (mX13_turned e5) rfl ew_1995 ew_1996 ew_110 ew_1997 hy_X13_turned.2 rfl (Nat.le_of_ble_eq_true rfl) (Nat.le_of_ble_eq_true rfl) (Nat.le_of_ble_eq_true rfl) ?_
        exact (fX13_first_j80_ok h3 l0 l2 l3 l4 l5 l7 l9 v4 eE hF hrec hk0)
      · replace hF := eg_if c2 hF
        refine eg_iload (i := 4) 3 dX13_first_70 rfl ?_
        refine eg_goto 80 dX13_first_72 rfl ?_
        exact (fX13_first_j80_ok h l0 l2 l3 l4 l5 l7 l9 l4 eE hF hrec hk0)
def fX13_first (h : eg_H) (l0 : Nat) (l1 : Int32) (l2 : Int32) (l3 : Int32) : Option (Int64 × eg_H) :=
  if eg_isO h 13 l0 then (
    (eg_pI h 13 0 l0 (0 : Int32)).bind fun h1 =>
    (fX13_isTwo h1 l0 l1).bind fun ⟨v4, h3⟩ =>
    if v4 = 0 then
      (some ((-1 : Int64), h3))
    else
      (fX13_isEgg h3 l0 l2).bind fun ⟨v8, h7⟩ =>
      if v8 = 0 then
        (some ((-1 : Int64), h7))
      else
        (fX13_isIn h7 l3.toInt64 (0 : Int64) (1 : Int64)).bind fun ⟨v12, h11⟩ =>
        if v12 = 0 then
          (some ((-1 : Int64), h11))
        else
          (fX13_turned h11 l1).bind fun ⟨v16, h15⟩ =>
          (some ((eg_minI l1 v16))).bind fun v18 =>
          (fX13_first_L58 eg_F h15 l0 l2 l3 v18 (-1 : Int64) (-1 : Int64) (0 : Int32)).bind fun e =>
          match e with
          | (v22, v23, v24, h25) =>
            if v22 = 0 then
              (some (v23, h25))
            else
              some (v24, h25)) else none
theorem fX13_first_O {h : eg_H} {l0 : Nat} {l1 : Int32} {l2 : Int32} {l3 : Int32} {rE : Int64} {hE : eg_H} (hF : fX13_first h l0 l1 l2 l3 = some (rE, hE)) : eg_isO h 13 l0 := (eg_ifn hF).1
set_option maxRecDepth 20000 in
theorem mX13_first {h : eg_H} {l0 : Nat} {l1 : Int32} {l2 : Int32} {l3 : Int32} {rE : Int64} {hE : eg_H} (hF : fX13_first h l0 l1 l2 l3 = some (rE, hE)) : eg_Met yX13_first cX13_first 13 (some .long) 400 [.ref l0, .int l1, .int l2, .int l3] h (some (.long rE)) hE := by
  refine eg_enter rfl (Nat.le_of_ble_eq_true rfl) ?_
  show eg_AW (RX13, cX13_first, 13, 400, none, "first", (some .long)) (eg_Zm (some (.long rE)) hE h) (eg_nc hE) (eg_ns hE) h 0 [(0, .ref l0), (1, .int l1), (2, .int l2), (3, .int l3)] [] h
  replace hF := (eg_ifn hF).2
  refine eg_aload_n (i := 0) 0 dX13_first_0 rfl rfl ?_
  refine eg_iconst (v := (0 : Int32)) dX13_first_1 (by decide) ?_
  replace hF := eg_bind hF; obtain ⟨h1, e2, hF⟩ := hF
  refine eg_putI dX13_first_2 e2 (Nat.le_of_ble_eq_true rfl) (Nat.le_of_ble_eq_true rfl) rfl ew_1434 (Or.inl rfl) ?_
  refine eg_aload_n (i := 0) 0 dX13_first_5 rfl rfl ?_
  refine eg_iload_n (i := 1) 1 dX13_first_6 rfl rfl ?_
  replace hF := eg_bind hF; obtain ⟨⟨v4, h3⟩, e5, hF⟩ := hF
  refine eg_callV (c := 13) (n := 1) [.int l1] dX13_first_7 (mX13_isTwo e5) rfl (fX13_isTwo_O e5) (Nat.le_of_ble_eq_true rfl) rfl ew_1929 ew_1931 ew_76 ew_110 ew_1932 hy_X13_isTwo rfl (Nat.le_of_ble_eq_true rfl) (Nat.le_of_ble_eq_true rfl) (Nat.le_of_ble_eq_true rfl) ?_
  refine eg_if_eq 31 dX13_first_10 rfl (fun c6 => ?_) (fun c6 => ?_)
  · replace hF := eg_it c6 hF
    refine eg_ldc2 (v := (-1 : Int64)) dX13_first_31 ew_1990 ?_
    exact eg_lretE dX13_first_34 hF
  · replace hF := eg_if c6 hF
    refine eg_aload_n (i := 0) 0 dX13_first_13 rfl rfl ?_
    refine eg_iload_n (i := 2) 2 dX13_first_14 rfl rfl ?_
    replace hF := eg_bind hF; obtain ⟨⟨v8, h7⟩, e9, hF⟩ := hF
    refine eg_callV (c := 13) (n := 1) [.int l2] dX13_first_15 (mX13_isEgg e9) rfl (fX13_isEgg_O e9) (Nat.le_of_ble_eq_true rfl) rfl ew_1881 ew_1883 ew_72 ew_110 ew_1884 hy_X13_isEgg rfl (Nat.le_of_ble_eq_true rfl) (Nat.le_of_ble_eq_true rfl) (Nat.le_of_ble_eq_true rfl) ?_
    refine eg_if_eq 31 dX13_first_18 rfl (fun c10 => ?_) (fun c10 => ?_)
    · replace hF := eg_it c10 hF
      refine eg_ldc2 (v := (-1 : Int64)) dX13_first_31 ew_1990 ?_
      exact eg_lretE dX13_first_34 hF
    · replace hF := eg_if c10 hF
      refine eg_iload_n (i := 3) 3 dX13_first_21 rfl rfl ?_
      refine eg_i2l dX13_first_22 ?_
      refine eg_lconst (v := (0 : Int64)) dX13_first_23 (by decide) ?_
      refine eg_lconst (v := (1 : Int64)) dX13_first_24 (by decide) ?_
      replace hF := eg_bind hF; obtain ⟨⟨v12, h11⟩, e13, hF⟩ := hF
      refine eg_callS (n := 3) [.long l3.toInt64, .long (0 : Int64), .long (1 : Int64)] dX13_first_25 (mX13_isIn e13) rfl ew_1697 ew_1698 ew_110 ew_1699 hy_X13_isIn.2 rfl (Nat.le_of_ble_eq_true rfl) (Nat.le_of_ble_eq_true rfl) (Nat.le_of_ble_eq_true rfl) ?_
      refine eg_if_ne 35 dX13_first_28 rfl (fun c14 => ?_) (fun c14 => ?_)
      · replace hF := eg_it c14 hF
        refine eg_ldc2 (v := (-1 : Int64)) dX13_first_31 ew_1990 ?_
        exact eg_lretE dX13_first_34 hF
      · replace hF := eg_if c14 hF
        refine eg_iload_n (i := 1) 1 dX13_first_35 rfl rfl ?_
        refine eg_iload_n (i := 1) 1 dX13_first_36 rfl rfl ?_
        replace hF := eg_bind hF; obtain ⟨⟨v16, h15⟩, e17, hF⟩ := hF
        refine eg_callS (n := 1) [.int l1] dX13_first_37 (mX13_turned e17) rfl ew_1995 ew_1996 ew_110 ew_1997 hy_X13_turned.2 rfl (Nat.le_of_ble_eq_true rfl) (Nat.le_of_ble_eq_true rfl) (Nat.le_of_ble_eq_true rfl) ?_
        refine eg_mmin dX13_first_40 ew_1923 (Nat.le_of_ble_eq_true rfl) (Nat.le_of_ble_eq_true rfl) ?_
        replace hF := eg_bind hF; obtain ⟨v18, e19, hF⟩ := hF
        replace e19 := Option.some.inj e19
        rw [e19]
        refine eg_istore (i := 4) [(4, .int v18), (0, .ref l0), (1, .int l1), (2, .int l2), (3, .int l3)] dX13_first_43 (Nat.le_of_ble_eq_true rfl) rfl ?_
        refine eg_ldc2 (v := (-1 : Int64)) dX13_first_45 ew_1990 ?_
        refine eg_lstore (i := 5) [(5, .long (-1 : Int64)), (4, .int v18), (0, .ref l0), (1, .int l1), (2, .int l2), (3, .int l3)] dX13_first_48 (Nat.le_of_ble_eq_true rfl) rfl ?_
        refine eg_ldc2 (v := (-1 : Int64)) dX13_first_50 ew_1990 ?_
        refine eg_lstore (i := 7) [(7, .long (-1 : Int64)), (5, .long (-1 : Int64)), (4, .int v18), (0, .ref l0), (1, .int l1), (2, .int l2), (3, .int l3)] dX13_first_53 (Nat.le_of_ble_eq_true rfl) rfl ?_
        refine eg_iconst (v := (0 : Int32)) dX13_first_55 (by decide) ?_
        refine eg_istore (i := 9) [(9, .int (0 : Int32)), (7, .long (-1 : Int64)), (5, .long (-1 : Int64)), (4, .int v18), (0, .ref l0), (1, .int l1), (2, .int l2), (3, .int l3)] dX13_first_56 (Nat.le_of_ble_eq_true rfl) rfl ?_
        replace hF := eg_bind hF; obtain ⟨x21, e20, hF⟩ := hF
        refine eg_sub [4, 6, 7, 3, 2, 1, 0] [(0, .ref l0), (2, .int l2), (3, .int l3), (4, .int v18), (5, .long (-1 : Int64)), (7, .long (-1 : Int64)), (9, .int (0 : Int32))] rfl (fX13_first_L58_ok eg_F h15 l0 l2 l3 v18 (-1 : Int64) (-1 : Int64) (0 : Int32) x21 e20 ?_)
        · intro v22 v23 v24 h25 e27
          subst e27
          refine eg_iload_n (i := 3) 0 dX13_first_136 rfl rfl ?_
          refine eg_if_ne 145 dX13_first_137 rfl (fun c26 => ?_) (fun c26 => ?_)
          · replace hF := eg_it c26 hF
            refine eg_lload (i := 5) 1 dX13_first_140 rfl ?_
            refine eg_goto 147 dX13_first_142 rfl ?_
            exact eg_lretE dX13_first_147 hF
          · replace hF := eg_if c26 hF
            refine eg_lload (i := 7) 2 dX13_first_145 rfl ?_
            exact eg_lretE dX13_first_147 hF
theorem dX13_goWhom_0 : decode cX13_goWhom 0 = .ok (.iload_n 1, 1) := by decide +kernel
theorem dX13_goWhom_1 : decode cX13_goWhom 1 = .ok (.aload_n 0, 1) := by decide +kernel
theorem dX13_goWhom_2 : decode cX13_goWhom 2 = .ok (.getfield 335, 3) := by decide +kernel
theorem dX13_goWhom_5 : decode cX13_goWhom 5 = .ok (.if_icmp .ne 63, 3) := by decide +kernel
theorem dX13_goWhom_8 : decode cX13_goWhom 8 = .ok (.lload_n 2, 1) := by decide +kernel
theorem dX13_goWhom_9 : decode cX13_goWhom 9 = .ok (.aload_n 0, 1) := by decide +kernel
theorem dX13_goWhom_10 : decode cX13_goWhom 10 = .ok (.getfield 449, 3) := by decide +kernel
theorem dX13_goWhom_13 : decode cX13_goWhom 13 = .ok (.lcmp, 1) := by decide +kernel
theorem dX13_goWhom_14 : decode cX13_goWhom 14 = .ok (.ifCond .gt 4, 3) := by decide +kernel
theorem dX13_goWhom_17 : decode cX13_goWhom 17 = .ok (.return_, 1) := by decide +kernel
theorem dX13_goWhom_18 : decode cX13_goWhom 18 = .ok (.aload_n 0, 1) := by decide +kernel
theorem dX13_goWhom_19 : decode cX13_goWhom 19 = .ok (.lload_n 2, 1) := by decide +kernel
theorem dX13_goWhom_20 : decode cX13_goWhom 20 = .ok (.putfield 449, 3) := by decide +kernel
theorem dX13_goWhom_23 : decode cX13_goWhom 23 = .ok (.aload_n 0, 1) := by decide +kernel
theorem dX13_goWhom_24 : decode cX13_goWhom 24 = .ok (.lconst 0, 1) := by decide +kernel
theorem dX13_goWhom_25 : decode cX13_goWhom 25 = .ok (.putfield 452, 3) := by decide +kernel
theorem dX13_goWhom_28 : decode cX13_goWhom 28 = .ok (.iconst 0, 1) := by decide +kernel
theorem dX13_goWhom_29 : decode cX13_goWhom 29 = .ok (.istore 4, 2) := by decide +kernel
theorem dX13_goWhom_31 : decode cX13_goWhom 31 = .ok (.iload 4, 2) := by decide +kernel
theorem dX13_goWhom_33 : decode cX13_goWhom 33 = .ok (.aload_n 0, 1) := by decide +kernel
theorem dX13_goWhom_34 : decode cX13_goWhom 34 = .ok (.getfield 335, 3) := by decide +kernel
theorem dX13_goWhom_37 : decode cX13_goWhom 37 = .ok (.if_icmp .ge 30, 3) := by decide +kernel
theorem dX13_goWhom_40 : decode cX13_goWhom 40 = .ok (.aload_n 0, 1) := by decide +kernel
theorem dX13_goWhom_41 : decode cX13_goWhom 41 = .ok (.ldc2_w 455, 3) := by decide +kernel
theorem dX13_goWhom_44 : decode cX13_goWhom 44 = .ok (.aload_n 0, 1) := by decide +kernel
theorem dX13_goWhom_45 : decode cX13_goWhom 45 = .ok (.getfield 452, 3) := by decide +kernel
theorem dX13_goWhom_48 : decode cX13_goWhom 48 = .ok (.lmul, 1) := by decide +kernel
theorem dX13_goWhom_49 : decode cX13_goWhom 49 = .ok (.aload_n 0, 1) := by decide +kernel
theorem dX13_goWhom_50 : decode cX13_goWhom 50 = .ok (.getfield 79, 3) := by decide +kernel
theorem dX13_goWhom_53 : decode cX13_goWhom 53 = .ok (.iload 4, 2) := by decide +kernel
theorem dX13_goWhom_55 : decode cX13_goWhom 55 = .ok (.iaload, 1) := by decide +kernel
theorem dX13_goWhom_56 : decode cX13_goWhom 56 = .ok (.i2l, 1) := by decide +kernel
theorem dX13_goWhom_57 : decode cX13_goWhom 57 = .ok (.ladd, 1) := by decide +kernel
theorem dX13_goWhom_58 : decode cX13_goWhom 58 = .ok (.putfield 452, 3) := by decide +kernel
theorem dX13_goWhom_61 : decode cX13_goWhom 61 = .ok (.iinc 4 1, 3) := by decide +kernel
theorem dX13_goWhom_64 : decode cX13_goWhom 64 = .ok (.goto (-33), 3) := by decide +kernel
theorem dX13_goWhom_67 : decode cX13_goWhom 67 = .ok (.return_, 1) := by decide +kernel
theorem dX13_goWhom_68 : decode cX13_goWhom 68 = .ok (.aload_n 0, 1) := by decide +kernel
theorem dX13_goWhom_69 : decode cX13_goWhom 69 = .ok (.getfield 79, 3) := by decide +kernel
theorem dX13_goWhom_72 : decode cX13_goWhom 72 = .ok (.iload_n 1, 1) := by decide +kernel
theorem dX13_goWhom_73 : decode cX13_goWhom 73 = .ok (.iaload, 1) := by decide +kernel
theorem dX13_goWhom_74 : decode cX13_goWhom 74 = .ok (.iconst (-1), 1) := by decide +kernel
theorem dX13_goWhom_75 : decode cX13_goWhom 75 = .ok (.if_icmp .eq 12, 3) := by decide +kernel
theorem dX13_goWhom_78 : decode cX13_goWhom 78 = .ok (.aload_n 0, 1) := by decide +kernel
theorem dX13_goWhom_79 : decode cX13_goWhom 79 = .ok (.iload_n 1, 1) := by decide +kernel
theorem dX13_goWhom_80 : decode cX13_goWhom 80 = .ok (.iconst 1, 1) := by decide +kernel
theorem dX13_goWhom_81 : decode cX13_goWhom 81 = .ok (.iadd, 1) := by decide +kernel
theorem dX13_goWhom_82 : decode cX13_goWhom 82 = .ok (.lload_n 2, 1) := by decide +kernel
theorem dX13_goWhom_83 : decode cX13_goWhom 83 = .ok (.invokevirtual 457, 3) := by decide +kernel
theorem dX13_goWhom_86 : decode cX13_goWhom 86 = .ok (.return_, 1) := by decide +kernel
theorem dX13_goWhom_87 : decode cX13_goWhom 87 = .ok (.iload_n 1, 1) := by decide +kernel
theorem dX13_goWhom_88 : decode cX13_goWhom 88 = .ok (.iconst 1, 1) := by decide +kernel
theorem dX13_goWhom_89 : decode cX13_goWhom 89 = .ok (.iadd, 1) := by decide +kernel
theorem dX13_goWhom_90 : decode cX13_goWhom 90 = .ok (.istore 4, 2) := by decide +kernel
theorem dX13_goWhom_92 : decode cX13_goWhom 92 = .ok (.iload 4, 2) := by decide +kernel
theorem dX13_goWhom_94 : decode cX13_goWhom 94 = .ok (.aload_n 0, 1) := by decide +kernel
theorem dX13_goWhom_95 : decode cX13_goWhom 95 = .ok (.getfield 335, 3) := by decide +kernel
theorem dX13_goWhom_98 : decode cX13_goWhom 98 = .ok (.if_icmp .ge 75, 3) := by decide +kernel
theorem dX13_goWhom_101 : decode cX13_goWhom 101 = .ok (.aload_n 0, 1) := by decide +kernel
theorem dX13_goWhom_102 : decode cX13_goWhom 102 = .ok (.getfield 79, 3) := by decide +kernel
theorem dX13_goWhom_105 : decode cX13_goWhom 105 = .ok (.iload 4, 2) := by decide +kernel
theorem dX13_goWhom_107 : decode cX13_goWhom 107 = .ok (.iaload, 1) := by decide +kernel
theorem dX13_goWhom_108 : decode cX13_goWhom 108 = .ok (.iconst (-1), 1) := by decide +kernel
theorem dX13_goWhom_109 : decode cX13_goWhom 109 = .ok (.if_icmp .eq 6, 3) := by decide +kernel
theorem dX13_goWhom_112 : decode cX13_goWhom 112 = .ok (.goto 55, 3) := by decide +kernel
theorem dX13_goWhom_115 : decode cX13_goWhom 115 = .ok (.aload_n 0, 1) := by decide +kernel
theorem dX13_goWhom_116 : decode cX13_goWhom 116 = .ok (.getfield 79, 3) := by decide +kernel
theorem dX13_goWhom_119 : decode cX13_goWhom 119 = .ok (.iload_n 1, 1) := by decide +kernel
theorem dX13_goWhom_120 : decode cX13_goWhom 120 = .ok (.iload 4, 2) := by decide +kernel
theorem dX13_goWhom_122 : decode cX13_goWhom 122 = .ok (.iastore, 1) := by decide +kernel
theorem dX13_goWhom_123 : decode cX13_goWhom 123 = .ok (.aload_n 0, 1) := by decide +kernel
theorem dX13_goWhom_124 : decode cX13_goWhom 124 = .ok (.getfield 79, 3) := by decide +kernel
theorem dX13_goWhom_127 : decode cX13_goWhom 127 = .ok (.iload 4, 2) := by decide +kernel
theorem dX13_goWhom_129 : decode cX13_goWhom 129 = .ok (.iload_n 1, 1) := by decide +kernel
theorem dX13_goWhom_130 : decode cX13_goWhom 130 = .ok (.iastore, 1) := by decide +kernel
theorem dX13_goWhom_131 : decode cX13_goWhom 131 = .ok (.aload_n 0, 1) := by decide +kernel
theorem dX13_goWhom_132 : decode cX13_goWhom 132 = .ok (.iload_n 1, 1) := by decide +kernel
theorem dX13_goWhom_133 : decode cX13_goWhom 133 = .ok (.iconst 1, 1) := by decide +kernel
theorem dX13_goWhom_134 : decode cX13_goWhom 134 = .ok (.iadd, 1) := by decide +kernel
theorem dX13_goWhom_135 : decode cX13_goWhom 135 = .ok (.lload_n 2, 1) := by decide +kernel
theorem dX13_goWhom_136 : decode cX13_goWhom 136 = .ok (.aload_n 0, 1) := by decide +kernel
theorem dX13_goWhom_137 : decode cX13_goWhom 137 = .ok (.getfield 75, 3) := by decide +kernel
theorem dX13_goWhom_140 : decode cX13_goWhom 140 = .ok (.bipush 6, 2) := by decide +kernel
theorem dX13_goWhom_142 : decode cX13_goWhom 142 = .ok (.iload_n 1, 1) := by decide +kernel
theorem dX13_goWhom_143 : decode cX13_goWhom 143 = .ok (.imul, 1) := by decide +kernel
theorem dX13_goWhom_144 : decode cX13_goWhom 144 = .ok (.iload 4, 2) := by decide +kernel
theorem dX13_goWhom_146 : decode cX13_goWhom 146 = .ok (.iadd, 1) := by decide +kernel
theorem dX13_goWhom_147 : decode cX13_goWhom 147 = .ok (.laload, 1) := by decide +kernel
theorem dX13_goWhom_148 : decode cX13_goWhom 148 = .ok (.ladd, 1) := by decide +kernel
theorem dX13_goWhom_149 : decode cX13_goWhom 149 = .ok (.invokevirtual 457, 3) := by decide +kernel
theorem dX13_goWhom_152 : decode cX13_goWhom 152 = .ok (.aload_n 0, 1) := by decide +kernel
theorem dX13_goWhom_153 : decode cX13_goWhom 153 = .ok (.getfield 79, 3) := by decide +kernel
theorem dX13_goWhom_156 : decode cX13_goWhom 156 = .ok (.iload_n 1, 1) := by decide +kernel
theorem dX13_goWhom_157 : decode cX13_goWhom 157 = .ok (.iconst (-1), 1) := by decide +kernel
theorem dX13_goWhom_158 : decode cX13_goWhom 158 = .ok (.iastore, 1) := by decide +kernel
theorem dX13_goWhom_159 : decode cX13_goWhom 159 = .ok (.aload_n 0, 1) := by decide +kernel
theorem dX13_goWhom_160 : decode cX13_goWhom 160 = .ok (.getfield 79, 3) := by decide +kernel
theorem dX13_goWhom_163 : decode cX13_goWhom 163 = .ok (.iload 4, 2) := by decide +kernel
theorem dX13_goWhom_165 : decode cX13_goWhom 165 = .ok (.iconst (-1), 1) := by decide +kernel
theorem dX13_goWhom_166 : decode cX13_goWhom 166 = .ok (.iastore, 1) := by decide +kernel
theorem dX13_goWhom_167 : decode cX13_goWhom 167 = .ok (.iinc 4 1, 3) := by decide +kernel
theorem dX13_goWhom_170 : decode cX13_goWhom 170 = .ok (.goto (-78), 3) := by decide +kernel
theorem dX13_goWhom_173 : decode cX13_goWhom 173 = .ok (.return_, 1) := by decide +kernel
def fX13_goWhom_L31 (rc : eg_H → Nat → Int32 → Int64 → Option (eg_H)) : Nat → eg_H → Nat → Int32 → Option (eg_H)
  | 0, _, _, _ => none
  | n + 1, h, l0, l4 =>
    (eg_gI h 13 24 l0).bind fun v1 =>
    if v1 ≤ l4 then
      (some h)
    else
      (eg_gL h 13 44 l0).bind fun v4 =>
      (eg_gR h 13 43 l0).bind fun p6 =>
      (eg_aI h 100 p6 l4).bind fun v8 =>
      (eg_pL h 13 44 l0 (((10 : Int64) * v4) + v8.toInt64)).bind fun h10 =>
      fX13_goWhom_L31 rc n h10 l0 (l4 + (1 : Int32))
set_option maxRecDepth 20000 in
theorem fX13_goWhom_L31_ok {rc : eg_H → Nat → Int32 → Int64 → Option (eg_H)} {dr : Nat} (hdr : 1 ≤ dr) (hrc : ∀ (h : eg_H) (a0 : Nat) (a1 : Int32) (a2 : Int64) (hE : eg_H), rc h a0 a1 a2 = some hE → eg_Met yX13_goWhom cX13_goWhom 5 none dr [.ref a0, .int a1, .long a2] h none hE) {h0 : eg_H} {Z : eg_C → State → Prop} {N S : Nat} : ∀ (n : Nat) (h : eg_H) (l0 : Nat) (l4 : Int32) (eE : eg_H), fX13_goWhom_L31 rc n h l0 l4 = some eE → (hk0 : ∀  (h : eg_H), eE = h → eg_AW (RX13, cX13_goWhom, 5, dr + 1, none, "goWhom", none) Z N S h0 67 [] [] h) → eg_AW (RX13, cX13_goWhom, 5, dr + 1, none, "goWhom", none) Z N S h0 31 [(0, .ref l0), (4, .int l4)] [] h := by
  intro n
  induction n with
  | zero => intro h l0 l4 eE hF; exact absurd hF (by intro q; cases q)
  | succ n ih =>
    intro h l0 l4 eE hF hk0
    have hrec := fun (h' : eg_H) (l0 : Nat) (l4 : Int32) hq => ih h' l0 l4 eE hq hk0
    refine eg_iload (i := 4) 1 dX13_goWhom_31 rfl ?_
    refine eg_aload_n (i := 0) 0 dX13_goWhom_33 rfl rfl ?_
    replace hF := eg_bind hF; obtain ⟨v1, e2, hF⟩ := hF
    refine eg_getI dX13_goWhom_34 e2 (Nat.le_of_ble_eq_true rfl) (Nat.le_of_ble_eq_true rfl) rfl ew_1458 ?_
    refine eg_ic_ge 67 dX13_goWhom_37 rfl (fun c3 => ?_) (fun c3 => ?_)
    · replace hF := eg_it c3 hF
      exact eg_sub [] [] rfl (hk0 h (Option.some.inj hF).symm)
    · replace hF := eg_if c3 hF
      refine eg_aload_n (i := 0) 0 dX13_goWhom_40 rfl rfl ?_
      refine eg_ldc2 (v := (10 : Int64)) dX13_goWhom_41 ew_2006 ?_
      refine eg_aload_n (i := 0) 0 dX13_goWhom_44 rfl rfl ?_
      replace hF := eg_bind hF; obtain ⟨v4, e5, hF⟩ := hF
      refine eg_getL dX13_goWhom_45 e5 (Nat.le_of_ble_eq_true rfl) (Nat.le_of_ble_eq_true rfl) rfl ew_1478 ?_
      refine eg_lmul dX13_goWhom_48 ?_
      refine eg_aload_n (i := 0) 0 dX13_goWhom_49 rfl rfl ?_
      replace hF := eg_bind hF; obtain ⟨p6, e7, hF⟩ := hF
      refine eg_getR dX13_goWhom_50 e7 (Nat.le_of_ble_eq_true rfl) (Nat.le_of_ble_eq_true rfl) rfl ew_1477 ?_
      refine eg_iload (i := 4) 1 dX13_goWhom_53 rfl ?_
      replace hF := eg_bind hF; obtain ⟨v8, e9, hF⟩ := hF
      refine eg_iald dX13_goWhom_55 e9 ?_
      refine eg_i2l dX13_goWhom_56 ?_
      refine eg_ladd dX13_goWhom_57 ?_
      replace hF := eg_bind hF; obtain ⟨h10, e11, hF⟩ := hF
      refine eg_putL dX13_goWhom_58 e11 (Nat.le_of_ble_eq_true rfl) (Nat.le_of_ble_eq_true rfl) rfl ew_1478 rfl ?_
      refine eg_iinc (i := 4) (v := (l4 + (1 : Int32))) 1 [(4, .int (l4 + (1 : Int32))), (0, .ref l0)] dX13_goWhom_61 rfl rfl (Nat.le_of_ble_eq_true rfl) rfl ?_
      refine eg_goto 31 dX13_goWhom_64 rfl ?_
      exact eg_sub [1, 0] [(0, .ref l0), (4, .int (l4 + (1 : Int32)))] rfl (hrec h10 l0 (l4 + (1 : Int32)) hF)
def fX13_goWhom_L92 (rc : eg_H → Nat → Int32 → Int64 → Option (eg_H)) : Nat → eg_H → Nat → Int32 → Int64 → Int32 → Option (eg_H)
  | 0, _, _, _, _, _ => none
  | n + 1, h, l0, l1, l2, l4 =>
    (eg_gI h 13 24 l0).bind fun v1 =>
    if v1 ≤ l4 then
      (some h)
    else
      (eg_gR h 13 43 l0).bind fun p4 =>
      (eg_aI h 100 p4 l4).bind fun v6 =>
      if v6 = (-1 : Int32) then
        ((eg_gR h 13 43 l0).bind fun p9 =>
        (eg_wI h 100 p9 l1 l4).bind fun h11 =>
        (eg_gR h11 13 43 l0).bind fun p13 =>
        (eg_wI h11 100 p13 l4 l1).bind fun h15 =>
        (eg_gR h15 13 42 l0).bind fun p17 =>
        (eg_aL h15 p17 (((6 : Int32) * l1) + l4)).bind fun v19 =>
        if eg_isO h15 13 l0 then (
        (rc h15 l0 (l1 + (1 : Int32)) (l2 + v19)).bind fun h21 =>
        (eg_gR h21 13 43 l0).bind fun p24 =>
        (eg_wI h21 100 p24 l1 (-1 : Int32)).bind fun h26 =>
        (eg_gR h26 13 43 l0).bind fun p28 =>
        (eg_wI h26 100 p28 l4 (-1 : Int32)).bind fun h30 =>
        fX13_goWhom_L92 rc n h30 l0 l1 l2 (l4 + (1 : Int32))) else none)
      else
        fX13_goWhom_L92 rc n h l0 l1 l2 (l4 + (1 : Int32))
set_option maxRecDepth 20000 in
theorem fX13_goWhom_L92_ok {rc : eg_H → Nat → Int32 → Int64 → Option (eg_H)} {dr : Nat} (hdr : 1 ≤ dr) (hrc : ∀ (h : eg_H) (a0 : Nat) (a1 : Int32) (a2 : Int64) (hE : eg_H), rc h a0 a1 a2 = some hE → eg_Met yX13_goWhom cX13_goWhom 5 none dr [.ref a0, .int a1, .long a2] h none hE) {h0 : eg_H} {Z : eg_C → State → Prop} {N S : Nat} : ∀ (n : Nat) (h : eg_H) (l0 : Nat) (l1 : Int32) (l2 : Int64) (l4 : Int32) (eE : eg_H), fX13_goWhom_L92 rc n h l0 l1 l2 l4 = some eE → (hk0 : ∀  (h : eg_H), eE = h → eg_AW (RX13, cX13_goWhom, 5, dr + 1, none, "goWhom", none) Z N S h0 173 [] [] h) → eg_AW (RX13, cX13_goWhom, 5, dr + 1, none, "goWhom", none) Z N S h0 92 [(0, .ref l0), (1, .int l1), (2, .long l2), (4, .int l4)] [] h := by
  intro n
  induction n with
  | zero => intro h l0 l1 l2 l4 eE hF; exact absurd hF (by intro q; cases q)
  | succ n ih =>
    intro h l0 l1 l2 l4 eE hF hk0
    have hrec := fun (h' : eg_H) (l0 : Nat) (l1 : Int32) (l2 : Int64) (l4 : Int32) hq => ih h' l0 l1 l2 l4 eE hq hk0
    refine eg_iload (i := 4) 3 dX13_goWhom_92 rfl ?_
    refine eg_aload_n (i := 0) 0 dX13_goWhom_94 rfl rfl ?_
    replace hF := eg_bind hF; obtain ⟨v1, e2, hF⟩ := hF
    refine eg_getI dX13_goWhom_95 e2 (Nat.le_of_ble_eq_true rfl) (Nat.le_of_ble_eq_true rfl) rfl ew_1458 ?_
    refine eg_ic_ge 173 dX13_goWhom_98 rfl (fun c3 => ?_) (fun c3 => ?_)
    · replace hF := eg_it c3 hF
      exact eg_sub [] [] rfl (hk0 h (Option.some.inj hF).symm)
    · replace hF := eg_if c3 hF
      refine eg_aload_n (i := 0) 0 dX13_goWhom_101 rfl rfl ?_
      replace hF := eg_bind hF; obtain ⟨p4, e5, hF⟩ := hF
      refine eg_getR dX13_goWhom_102 e5 (Nat.le_of_ble_eq_true rfl) (Nat.le_of_ble_eq_true rfl) rfl ew_1477 ?_
      refine eg_iload (i := 4) 3 dX13_goWhom_105 rfl ?_
      replace hF := eg_bind hF; obtain ⟨v6, e7, hF⟩ := hF
      refine eg_iald dX13_goWhom_107 e7 ?_
      refine eg_iconst (v := (-1 : Int32)) dX13_goWhom_108 (by decide) ?_
      refine eg_ic_eq 115 dX13_goWhom_109 rfl (fun c8 => ?_) (fun c8 => ?_)
      · replace hF := eg_it c8 hF
        refine eg_aload_n (i := 0) 0 dX13_goWhom_115 rfl rfl ?_
        replace hF := eg_bind hF; obtain ⟨p9, e10, hF⟩ := hF
        refine eg_getR dX13_goWhom_116 e10 (Nat.le_of_ble_eq_true rfl) (Nat.le_of_ble_eq_true rfl) rfl ew_1477 ?_
        refine eg_iload_n (i := 1) 1 dX13_goWhom_119 rfl rfl ?_
        refine eg_iload (i := 4) 3 dX13_goWhom_120 rfl ?_
        replace hF := eg_bind hF; obtain ⟨h11, e12, hF⟩ := hF
        refine eg_iast dX13_goWhom_122 e12 ?_
        refine eg_aload_n (i := 0) 0 dX13_goWhom_123 rfl rfl ?_
        replace hF := eg_bind hF; obtain ⟨p13, e14, hF⟩ := hF
        refine eg_getR dX13_goWhom_124 e14 (Nat.le_of_ble_eq_true rfl) (Nat.le_of_ble_eq_true rfl) rfl ew_1477 ?_
        refine eg_iload (i := 4) 3 dX13_goWhom_127 rfl ?_
        refine eg_iload_n (i := 1) 1 dX13_goWhom_129 rfl rfl ?_
        replace hF := eg_bind hF; obtain ⟨h15, e16, hF⟩ := hF
        refine eg_iast dX13_goWhom_130 e16 ?_
        refine eg_aload_n (i := 0) 0 dX13_goWhom_131 rfl rfl ?_
        refine eg_iload_n (i := 1) 1 dX13_goWhom_132 rfl rfl ?_
        refine eg_iconst (v := (1 : Int32)) dX13_goWhom_133 (by decide) ?_
        refine eg_iadd dX13_goWhom_134 ?_
        refine eg_lload_n (i := 2) 2 dX13_goWhom_135 rfl rfl ?_
        refine eg_aload_n (i := 0) 0 dX13_goWhom_136 rfl rfl ?_
        replace hF := eg_bind hF; obtain ⟨p17, e18, hF⟩ := hF
        refine eg_getR dX13_goWhom_137 e18 (Nat.le_of_ble_eq_true rfl) (Nat.le_of_ble_eq_true rfl) rfl ew_1476 ?_
        refine eg_bipush (v := (6 : Int32)) dX13_goWhom_140 (by decide) ?_
        refine eg_iload_n (i := 1) 1 dX13_goWhom_142 rfl rfl ?_
        refine eg_imul dX13_goWhom_143 ?_
        refine eg_iload (i := 4) 3 dX13_goWhom_144 rfl ?_
        refine eg_iadd dX13_goWhom_146 ?_
        replace hF := eg_bind hF; obtain ⟨v19, e20, hF⟩ := hF
        refine eg_lald dX13_goWhom_147 e20 ?_
        refine eg_ladd dX13_goWhom_148 ?_
        replace hF := eg_ifn hF; obtain ⟨c23, hF⟩ := hF
        replace hF := eg_bind hF; obtain ⟨h21, e22, hF⟩ := hF
        refine eg_callV (c := 13) (n := 2) [.int (l1 + (1 : Int32)), .long (l2 + v19)] dX13_goWhom_149 (hrc _ _ _ _ _ e22) rfl c23 (Nat.le_of_ble_eq_true rfl) rfl ew_2002 ew_2004 ew_87 ew_110 ew_2005 hy_X13_goWhom rfl (by have := eg_D_eq; omega) (Nat.le_of_ble_eq_true rfl) (Nat.le_of_ble_eq_true rfl) ?_
        refine eg_aload_n (i := 0) 0 dX13_goWhom_152 rfl rfl ?_
        replace hF := eg_bind hF; obtain ⟨p24, e25, hF⟩ := hF
        refine eg_getR dX13_goWhom_153 e25 (Nat.le_of_ble_eq_true rfl) (Nat.le_of_ble_eq_true rfl) rfl ew_1477 ?_
        refine eg_iload_n (i := 1) 1 dX13_goWhom_156 rfl rfl ?_
        refine eg_iconst (v := (-1 : Int32)) dX13_goWhom_157 (by decide) ?_
        replace hF := eg_bind hF; obtain ⟨h26, e27, hF⟩ := hF
        refine eg_iast dX13_goWhom_158 e27 ?_
        refine eg_aload_n (i := 0) 0 dX13_goWhom_159 rfl rfl ?_
        replace hF := eg_bind hF; obtain ⟨p28, e29, hF⟩ := hF
        refine eg_getR dX13_goWhom_160 e29 (Nat.le_of_ble_eq_true rfl) (Nat.le_of_ble_eq_true rfl) rfl ew_1477 ?_
        refine eg_iload (i := 4) 3 dX13_goWhom_163 rfl ?_
        refine eg_iconst (v := (-1 : Int32)) dX13_goWhom_165 (by decide) ?_
        replace hF := eg_bind hF; obtain ⟨h30, e31, hF⟩ := hF
        refine eg_iast dX13_goWhom_166 e31 ?_
        refine eg_iinc (i := 4) (v := (l4 + (1 : Int32))) 3 [(4, .int (l4 + (1 : Int32))), (0, .ref l0), (1, .int l1), (2, .long l2)] dX13_goWhom_167 rfl rfl (Nat.le_of_ble_eq_true rfl) rfl ?_
        refine eg_goto 92 dX13_goWhom_170 rfl ?_
        exact eg_sub [1, 2, 3, 0] [(0, .ref l0), (1, .int l1), (2, .long l2), (4, .int (l4 + (1 : Int32)))] rfl (hrec h30 l0 l1 l2 (l4 + (1 : Int32)) hF)
      · replace hF := eg_if c8 hF
        refine eg_goto 167 dX13_goWhom_112 rfl ?_
        refine eg_iinc (i := 4) (v := (l4 + (1 : Int32))) 3 [(4, .int (l4 + (1 : Int32))), (0, .ref l0), (1, .int l1), (2, .long l2)] dX13_goWhom_167 rfl rfl (Nat.le_of_ble_eq_true rfl) rfl ?_
        refine eg_goto 92 dX13_goWhom_170 rfl ?_
        exact eg_sub [1, 2, 3, 0] [(0, .ref l0), (1, .int l1), (2, .long l2), (4, .int (l4 + (1 : Int32)))] rfl (hrec h l0 l1 l2 (l4 + (1 : Int32)) hF)
def fX13_goWhomB (rc : eg_H → Nat → Int32 → Int64 → Option (eg_H)) (h : eg_H) (l0 : Nat) (l1 : Int32) (l2 : Int64) : Option (eg_H) :=
  if eg_isO h 13 l0 then (
    (eg_gI h 13 24 l0).bind fun v1 =>
    if l1 = v1 then
      ((eg_gL h 13 45 l0).bind fun v4 =>
      if v4 < l2 then
        ((eg_pL h 13 45 l0 l2).bind fun h7 =>
        (eg_pL h7 13 44 l0 (0 : Int64)).bind fun h9 =>
        (fX13_goWhom_L31 rc eg_F h9 l0 (0 : Int32)).bind fun e =>
        match e with
        | h13 =>
          some h13)
      else
        some h)
    else
      (eg_gR h 13 43 l0).bind fun p15 =>
      (eg_aI h 100 p15 l1).bind fun v17 =>
      if v17 = (-1 : Int32) then
        ((some ((l1 + (1 : Int32)))).bind fun v20 =>
        (fX13_goWhom_L92 rc eg_F h l0 l1 l2 v20).bind fun e =>
        match e with
        | h24 =>
          some h24)
      else
        if eg_isO h 13 l0 then (
        (rc h l0 (l1 + (1 : Int32)) l2).bind fun h26 =>
        some h26) else none) else none
theorem fX13_goWhomB_O {rc : eg_H → Nat → Int32 → Int64 → Option (eg_H)} {h : eg_H} {l0 : Nat} {l1 : Int32} {l2 : Int64} {hE : eg_H} (hF : fX13_goWhomB rc h l0 l1 l2 = some hE) : eg_isO h 13 l0 := (eg_ifn hF).1
set_option maxRecDepth 20000 in
theorem mX13_goWhomB {rc : eg_H → Nat → Int32 → Int64 → Option (eg_H)} {dr : Nat} (hdr : 1 ≤ dr) (hrc : ∀ (h : eg_H) (a0 : Nat) (a1 : Int32) (a2 : Int64) (hE : eg_H), rc h a0 a1 a2 = some hE → eg_Met yX13_goWhom cX13_goWhom 5 none dr [.ref a0, .int a1, .long a2] h none hE) {h : eg_H} {l0 : Nat} {l1 : Int32} {l2 : Int64} {hE : eg_H} (hF : fX13_goWhomB rc h l0 l1 l2 = some hE) : eg_Met yX13_goWhom cX13_goWhom 5 none (dr + 1) [.ref l0, .int l1, .long l2] h none hE := by
  refine eg_enter rfl (Nat.le_of_ble_eq_true rfl) ?_
  show eg_AW (RX13, cX13_goWhom, 5, dr + 1, none, "goWhom", none) (eg_Zm none hE h) (eg_nc hE) (eg_ns hE) h 0 [(0, .ref l0), (1, .int l1), (2, .long l2)] [] h
  replace hF := (eg_ifn hF).2
  refine eg_iload_n (i := 1) 1 dX13_goWhom_0 rfl rfl ?_
  refine eg_aload_n (i := 0) 0 dX13_goWhom_1 rfl rfl ?_
  replace hF := eg_bind hF; obtain ⟨v1, e2, hF⟩ := hF
  refine eg_getI dX13_goWhom_2 e2 (Nat.le_of_ble_eq_true rfl) (Nat.le_of_ble_eq_true rfl) rfl ew_1458 ?_
  refine eg_ic_ne 68 dX13_goWhom_5 rfl (fun c3 => ?_) (fun c3 => ?_)
  · replace hF := eg_it c3 hF
    refine eg_lload_n (i := 2) 2 dX13_goWhom_8 rfl rfl ?_
    refine eg_aload_n (i := 0) 0 dX13_goWhom_9 rfl rfl ?_
    replace hF := eg_bind hF; obtain ⟨v4, e5, hF⟩ := hF
    refine eg_getL dX13_goWhom_10 e5 (Nat.le_of_ble_eq_true rfl) (Nat.le_of_ble_eq_true rfl) rfl ew_1479 ?_
    refine eg_lc_gt 18 dX13_goWhom_13 dX13_goWhom_14 rfl (fun c6 => ?_) (fun c6 => ?_)
    · replace hF := eg_it c6 hF
      refine eg_aload_n (i := 0) 0 dX13_goWhom_18 rfl rfl ?_
      refine eg_lload_n (i := 2) 2 dX13_goWhom_19 rfl rfl ?_
      replace hF := eg_bind hF; obtain ⟨h7, e8, hF⟩ := hF
      refine eg_putL dX13_goWhom_20 e8 (Nat.le_of_ble_eq_true rfl) (Nat.le_of_ble_eq_true rfl) rfl ew_1479 rfl ?_
      refine eg_aload_n (i := 0) 0 dX13_goWhom_23 rfl rfl ?_
      refine eg_lconst (v := (0 : Int64)) dX13_goWhom_24 (by decide) ?_
      replace hF := eg_bind hF; obtain ⟨h9, e10, hF⟩ := hF
      refine eg_putL dX13_goWhom_25 e10 (Nat.le_of_ble_eq_true rfl) (Nat.le_of_ble_eq_true rfl) rfl ew_1478 rfl ?_
      refine eg_iconst (v := (0 : Int32)) dX13_goWhom_28 (by decide) ?_
      refine eg_istore (i := 4) [(4, .int (0 : Int32)), (0, .ref l0), (1, .int l1), (2, .long l2)] dX13_goWhom_29 (Nat.le_of_ble_eq_true rfl) rfl ?_
      replace hF := eg_bind hF; obtain ⟨x12, e11, hF⟩ := hF
      refine eg_sub [1, 0] [(0, .ref l0), (4, .int (0 : Int32))] rfl (fX13_goWhom_L31_ok hdr hrc eg_F h9 l0 (0 : Int32) x12 e11 ?_)
      · intro h13 e14
        subst e14
        exact eg_vretE dX13_goWhom_67 hF
    · replace hF := eg_if c6 hF
      exact eg_vretE dX13_goWhom_17 hF
  · replace hF := eg_if c3 hF
    refine eg_aload_n (i := 0) 0 dX13_goWhom_68 rfl rfl ?_
    replace hF := eg_bind hF; obtain ⟨p15, e16, hF⟩ := hF
    refine eg_getR dX13_goWhom_69 e16 (Nat.le_of_ble_eq_true rfl) (Nat.le_of_ble_eq_true rfl) rfl ew_1477 ?_
    refine eg_iload_n (i := 1) 1 dX13_goWhom_72 rfl rfl ?_
    replace hF := eg_bind hF; obtain ⟨v17, e18, hF⟩ := hF
    refine eg_iald dX13_goWhom_73 e18 ?_
    refine eg_iconst (v := (-1 : Int32)) dX13_goWhom_74 (by decide) ?_
    refine eg_ic_eq 87 dX13_goWhom_75 rfl (fun c19 => ?_) (fun c19 => ?_)
    · replace hF := eg_it c19 hF
      refine eg_iload_n (i := 1) 1 dX13_goWhom_87 rfl rfl ?_
      refine eg_iconst (v := (1 : Int32)) dX13_goWhom_88 (by decide) ?_
      refine eg_iadd dX13_goWhom_89 ?_
      replace hF := eg_bind hF; obtain ⟨v20, e21, hF⟩ := hF
      replace e21 := Option.some.inj e21
      rw [e21]
      refine eg_istore (i := 4) [(4, .int v20), (0, .ref l0), (1, .int l1), (2, .long l2)] dX13_goWhom_90 (Nat.le_of_ble_eq_true rfl) rfl ?_
      replace hF := eg_bind hF; obtain ⟨x23, e22, hF⟩ := hF
      refine eg_sub [1, 2, 3, 0] [(0, .ref l0), (1, .int l1), (2, .long l2), (4, .int v20)] rfl (fX13_goWhom_L92_ok hdr hrc eg_F h l0 l1 l2 v20 x23 e22 ?_)
      · intro h24 e25
        subst e25
        exact eg_vretE dX13_goWhom_173 hF
    · replace hF := eg_if c19 hF
      refine eg_aload_n (i := 0) 0 dX13_goWhom_78 rfl rfl ?_
      refine eg_iload_n (i := 1) 1 dX13_goWhom_79 rfl rfl ?_
      refine eg_iconst (v := (1 : Int32)) dX13_goWhom_80 (by decide) ?_
      refine eg_iadd dX13_goWhom_81 ?_
      refine eg_lload_n (i := 2) 2 dX13_goWhom_82 rfl rfl ?_
      replace hF := eg_ifn hF; obtain ⟨c28, hF⟩ := hF
      replace hF := eg_bind hF; obtain ⟨h26, e27, hF⟩ := hF
      refine eg_callV (c := 13) (n := 2) [.int (l1 + (1 : Int32)), .long l2] dX13_goWhom_83 (hrc _ _ _ _ _ e27) rfl c28 (Nat.le_of_ble_eq_true rfl) rfl ew_2002 ew_2004 ew_87 ew_110 ew_2005 hy_X13_goWhom rfl (by have := eg_D_eq; omega) (Nat.le_of_ble_eq_true rfl) (Nat.le_of_ble_eq_true rfl) ?_
      exact eg_vretE dX13_goWhom_86 hF
def fX13_goWhom : Nat → eg_H → Nat → Int32 → Int64 → Option (eg_H)
  | 0 => fun _ _ _ _ => none
  | n + 1 => fX13_goWhomB (fX13_goWhom n)
theorem fX13_goWhom_O {n : Nat} {h : eg_H} {l0 : Nat} {l1 : Int32} {l2 : Int64} {hE : eg_H} (hF : fX13_goWhom n h l0 l1 l2 = some hE) : eg_isO h 13 l0 := by
  cases n with
  | zero => cases hF
  | succ n => exact fX13_goWhomB_O (rc := fX13_goWhom n) hF
theorem mX13_goWhom_x : ∀ (n : Nat) (h : eg_H) (l0 : Nat) (l1 : Int32) (l2 : Int64) (hE : eg_H), fX13_goWhom n h l0 l1 l2 = some hE → eg_Met yX13_goWhom cX13_goWhom 5 none (1 + 1 * n) [.ref l0, .int l1, .long l2] h none hE := by
  intro n
  induction n with
  | zero => intro h l0 l1 l2 hE hF; cases hF
  | succ n ih =>
    intro h l0 l1 l2 hE hF
    exact mX13_goWhomB (rc := fX13_goWhom n) (dr := 1 + 1 * n) (by omega) ih hF
theorem mX13_goWhom (n : Nat) {h : eg_H} {l0 : Nat} {l1 : Int32} {l2 : Int64} {hE : eg_H} (hF : fX13_goWhom n h l0 l1 l2 = some hE) : eg_Met yX13_goWhom cX13_goWhom 5 none (1 + 1 * n) [.ref l0, .int l1, .long l2] h none hE := mX13_goWhom_x n h l0 l1 l2 hE hF
theorem dX13_whom_0 : decode cX13_whom 0 = .ok (.aload_n 0, 1) := by decide +kernel
theorem dX13_whom_1 : decode cX13_whom 1 = .ok (.iconst 0, 1) := by decide +kernel
theorem dX13_whom_2 : decode cX13_whom 2 = .ok (.putfield 148, 3) := by decide +kernel
theorem dX13_whom_5 : decode cX13_whom 5 = .ok (.aload_n 0, 1) := by decide +kernel
theorem dX13_whom_6 : decode cX13_whom 6 = .ok (.getfield 335, 3) := by decide +kernel
theorem dX13_whom_9 : decode cX13_whom 9 = .ok (.ifCond .eq 23, 3) := by decide +kernel
theorem dX13_whom_12 : decode cX13_whom 12 = .ok (.aload_n 0, 1) := by decide +kernel
theorem dX13_whom_13 : decode cX13_whom 13 = .ok (.getfield 335, 3) := by decide +kernel
theorem dX13_whom_16 : decode cX13_whom 16 = .ok (.iconst 2, 1) := by decide +kernel
theorem dX13_whom_17 : decode cX13_whom 17 = .ok (.irem, 1) := by decide +kernel
theorem dX13_whom_18 : decode cX13_whom 18 = .ok (.iconst 1, 1) := by decide +kernel
theorem dX13_whom_19 : decode cX13_whom 19 = .ok (.if_icmp .eq 13, 3) := by decide +kernel
theorem dX13_whom_22 : decode cX13_whom 22 = .ok (.iload_n 1, 1) := by decide +kernel
theorem dX13_whom_23 : decode cX13_whom 23 = .ok (.i2l, 1) := by decide +kernel
theorem dX13_whom_24 : decode cX13_whom 24 = .ok (.lconst 0, 1) := by decide +kernel
theorem dX13_whom_25 : decode cX13_whom 25 = .ok (.lconst 1, 1) := by decide +kernel
theorem dX13_whom_26 : decode cX13_whom 26 = .ok (.invokestatic 269, 3) := by decide +kernel
theorem dX13_whom_29 : decode cX13_whom 29 = .ok (.ifCond .ne 7, 3) := by decide +kernel
theorem dX13_whom_32 : decode cX13_whom 32 = .ok (.ldc2_w 444, 3) := by decide +kernel
theorem dX13_whom_35 : decode cX13_whom 35 = .ok (.lreturn, 1) := by decide +kernel
theorem dX13_whom_36 : decode cX13_whom 36 = .ok (.iconst 0, 1) := by decide +kernel
theorem dX13_whom_37 : decode cX13_whom 37 = .ok (.istore_n 2, 1) := by decide +kernel
theorem dX13_whom_38 : decode cX13_whom 38 = .ok (.iload_n 2, 1) := by decide +kernel
theorem dX13_whom_39 : decode cX13_whom 39 = .ok (.aload_n 0, 1) := by decide +kernel
theorem dX13_whom_40 : decode cX13_whom 40 = .ok (.getfield 335, 3) := by decide +kernel
theorem dX13_whom_43 : decode cX13_whom 43 = .ok (.if_icmp .ge 56, 3) := by decide +kernel
theorem dX13_whom_46 : decode cX13_whom 46 = .ok (.aload_n 0, 1) := by decide +kernel
theorem dX13_whom_47 : decode cX13_whom 47 = .ok (.getfield 79, 3) := by decide +kernel
theorem dX13_whom_50 : decode cX13_whom 50 = .ok (.iload_n 2, 1) := by decide +kernel
theorem dX13_whom_51 : decode cX13_whom 51 = .ok (.iconst (-1), 1) := by decide +kernel
theorem dX13_whom_52 : decode cX13_whom 52 = .ok (.iastore, 1) := by decide +kernel
theorem dX13_whom_53 : decode cX13_whom 53 = .ok (.iload_n 2, 1) := by decide +kernel
theorem dX13_whom_54 : decode cX13_whom 54 = .ok (.iconst 1, 1) := by decide +kernel
theorem dX13_whom_55 : decode cX13_whom 55 = .ok (.iadd, 1) := by decide +kernel
theorem dX13_whom_56 : decode cX13_whom 56 = .ok (.istore_n 3, 1) := by decide +kernel
theorem dX13_whom_57 : decode cX13_whom 57 = .ok (.iload_n 3, 1) := by decide +kernel
theorem dX13_whom_58 : decode cX13_whom 58 = .ok (.aload_n 0, 1) := by decide +kernel
theorem dX13_whom_59 : decode cX13_whom 59 = .ok (.getfield 335, 3) := by decide +kernel
theorem dX13_whom_62 : decode cX13_whom 62 = .ok (.if_icmp .ge 31, 3) := by decide +kernel
theorem dX13_whom_65 : decode cX13_whom 65 = .ok (.aload_n 0, 1) := by decide +kernel
theorem dX13_whom_66 : decode cX13_whom 66 = .ok (.getfield 75, 3) := by decide +kernel
theorem dX13_whom_69 : decode cX13_whom 69 = .ok (.bipush 6, 2) := by decide +kernel
theorem dX13_whom_71 : decode cX13_whom 71 = .ok (.iload_n 2, 1) := by decide +kernel
theorem dX13_whom_72 : decode cX13_whom 72 = .ok (.imul, 1) := by decide +kernel
theorem dX13_whom_73 : decode cX13_whom 73 = .ok (.iload_n 3, 1) := by decide +kernel
theorem dX13_whom_74 : decode cX13_whom 74 = .ok (.iadd, 1) := by decide +kernel
theorem dX13_whom_75 : decode cX13_whom 75 = .ok (.aload_n 0, 1) := by decide +kernel
theorem dX13_whom_76 : decode cX13_whom 76 = .ok (.bipush 10, 2) := by decide +kernel
theorem dX13_whom_78 : decode cX13_whom 78 = .ok (.iload_n 2, 1) := by decide +kernel
theorem dX13_whom_79 : decode cX13_whom 79 = .ok (.imul, 1) := by decide +kernel
theorem dX13_whom_80 : decode cX13_whom 80 = .ok (.iload_n 3, 1) := by decide +kernel
theorem dX13_whom_81 : decode cX13_whom 81 = .ok (.iadd, 1) := by decide +kernel
theorem dX13_whom_82 : decode cX13_whom 82 = .ok (.iconst 0, 1) := by decide +kernel
theorem dX13_whom_83 : decode cX13_whom 83 = .ok (.invokevirtual 440, 3) := by decide +kernel
theorem dX13_whom_86 : decode cX13_whom 86 = .ok (.lastore, 1) := by decide +kernel
theorem dX13_whom_87 : decode cX13_whom 87 = .ok (.iinc 3 1, 3) := by decide +kernel
theorem dX13_whom_90 : decode cX13_whom 90 = .ok (.goto (-33), 3) := by decide +kernel
theorem dX13_whom_93 : decode cX13_whom 93 = .ok (.iinc 2 1, 3) := by decide +kernel
theorem dX13_whom_96 : decode cX13_whom 96 = .ok (.goto (-58), 3) := by decide +kernel
theorem dX13_whom_99 : decode cX13_whom 99 = .ok (.aload_n 0, 1) := by decide +kernel
theorem dX13_whom_100 : decode cX13_whom 100 = .ok (.ldc2_w 444, 3) := by decide +kernel
theorem dX13_whom_103 : decode cX13_whom 103 = .ok (.putfield 449, 3) := by decide +kernel
theorem dX13_whom_106 : decode cX13_whom 106 = .ok (.aload_n 0, 1) := by decide +kernel
theorem dX13_whom_107 : decode cX13_whom 107 = .ok (.iconst 0, 1) := by decide +kernel
theorem dX13_whom_108 : decode cX13_whom 108 = .ok (.lconst 0, 1) := by decide +kernel
theorem dX13_whom_109 : decode cX13_whom 109 = .ok (.invokevirtual 457, 3) := by decide +kernel
theorem dX13_whom_112 : decode cX13_whom 112 = .ok (.iload_n 1, 1) := by decide +kernel
theorem dX13_whom_113 : decode cX13_whom 113 = .ok (.ifCond .ne 10, 3) := by decide +kernel
theorem dX13_whom_116 : decode cX13_whom 116 = .ok (.aload_n 0, 1) := by decide +kernel
theorem dX13_whom_117 : decode cX13_whom 117 = .ok (.getfield 452, 3) := by decide +kernel
theorem dX13_whom_120 : decode cX13_whom 120 = .ok (.goto 7, 3) := by decide +kernel
theorem dX13_whom_123 : decode cX13_whom 123 = .ok (.aload_n 0, 1) := by decide +kernel
theorem dX13_whom_124 : decode cX13_whom 124 = .ok (.getfield 449, 3) := by decide +kernel
theorem dX13_whom_127 : decode cX13_whom 127 = .ok (.lreturn, 1) := by decide +kernel
def fX13_whom_L57 : Nat → eg_H → Nat → Int32 → Int32 → Int32 → Option (Nat × Int32 × Int32 × eg_H)
  | 0, _, _, _, _, _ => none
  | n + 1, h, l0, l1, l2, l3 =>
    (eg_gI h 13 24 l0).bind fun v1 =>
    if v1 ≤ l3 then
      (some (l0, l1, l2, h))
    else
      (eg_gR h 13 42 l0).bind fun p4 =>
      (fX13_hopeOf h l0 (((10 : Int32) * l2) + l3) (0 : Int32)).bind fun ⟨v7, h6⟩ =>
      (eg_wL h6 p4 (((6 : Int32) * l2) + l3) v7).bind fun h9 =>
      fX13_whom_L57 n h9 l0 l1 l2 (l3 + (1 : Int32))
set_option maxRecDepth 20000 in
theorem fX13_whom_L57_ok {h0 : eg_H} {Z : eg_C → State → Prop} {N S : Nat} : ∀ (n : Nat) (h : eg_H) (l0 : Nat) (l1 : Int32) (l2 : Int32) (l3 : Int32) (eE : Nat × Int32 × Int32 × eg_H), fX13_whom_L57 n h l0 l1 l2 l3 = some eE → (hk0 : ∀ (l0 : Nat) (l1 : Int32) (l2 : Int32) (h : eg_H), eE = (l0, l1, l2, h) → eg_AW (RX13, cX13_whom, 4, 400, none, "whom", (some .long)) Z N S h0 93 [(0, .ref l0), (1, .int l1), (2, .int l2)] [] h) → eg_AW (RX13, cX13_whom, 4, 400, none, "whom", (some .long)) Z N S h0 57 [(0, .ref l0), (1, .int l1), (2, .int l2), (3, .int l3)] [] h := by
  intro n
  induction n with
  | zero => intro h l0 l1 l2 l3 eE hF; exact absurd hF (by intro q; cases q)
  | succ n ih =>
    intro h l0 l1 l2 l3 eE hF hk0
    have hrec := fun (h' : eg_H) (l0 : Nat) (l1 : Int32) (l2 : Int32) (l3 : Int32) hq => ih h' l0 l1 l2 l3 eE hq hk0
    refine eg_iload_n (i := 3) 3 dX13_whom_57 rfl rfl ?_
    refine eg_aload_n (i := 0) 0 dX13_whom_58 rfl rfl ?_
    replace hF := eg_bind hF; obtain ⟨v1, e2, hF⟩ := hF
    refine eg_getI dX13_whom_59 e2 (Nat.le_of_ble_eq_true rfl) (Nat.le_of_ble_eq_true rfl) rfl ew_1458 ?_
    refine eg_ic_ge 93 dX13_whom_62 rfl (fun c3 => ?_) (fun c3 => ?_)
    · replace hF := eg_it c3 hF
      exact eg_sub [0, 1, 2] [(0, .ref l0), (1, .int l1), (2, .int l2)] rfl (hk0 l0 l1 l2 h (Option.some.inj hF).symm)
    · replace hF := eg_if c3 hF
      refine eg_aload_n (i := 0) 0 dX13_whom_65 rfl rfl ?_
      replace hF := eg_bind hF; obtain ⟨p4, e5, hF⟩ := hF
      refine eg_getR dX13_whom_66 e5 (Nat.le_of_ble_eq_true rfl) (Nat.le_of_ble_eq_true rfl) rfl ew_1476 ?_
      refine eg_bipush (v := (6 : Int32)) dX13_whom_69 (by decide) ?_
      refine eg_iload_n (i := 2) 2 dX13_whom_71 rfl rfl ?_
      refine eg_imul dX13_whom_72 ?_
      refine eg_iload_n (i := 3) 3 dX13_whom_73 rfl rfl ?_
      refine eg_iadd dX13_whom_74 ?_
      refine eg_aload_n (i := 0) 0 dX13_whom_75 rfl rfl ?_
      refine eg_bipush (v := (10 : Int32)) dX13_whom_76 (by decide) ?_
      refine eg_iload_n (i := 2) 2 dX13_whom_78 rfl rfl ?_
      refine eg_imul dX13_whom_79 ?_
      refine eg_iload_n (i := 3) 3 dX13_whom_80 rfl rfl ?_
      refine eg_iadd dX13_whom_81 ?_
      refine eg_iconst (v := (0 : Int32)) dX13_whom_82 (by decide) ?_
      replace hF := eg_bind hF; obtain ⟨⟨v7, h6⟩, e8, hF⟩ := hF
      refine eg_callV (c := 13) (n := 2) [.int (((10 : Int32) * l2) + l3), .int (0 : Int32)] dX13_whom_83 (mX13_hopeOf e8) rfl (fX13_hopeOf_O e8) (Nat.le_of_ble_eq_true rfl) rfl ew_1982 ew_1984 ew_86 ew_110 ew_1985 hy_X13_hopeOf rfl (Nat.le_of_ble_eq_true rfl) (Nat.le_of_ble_eq_true rfl) (Nat.le_of_ble_eq_true rfl) ?_
      replace hF := eg_bind hF; obtain ⟨h9, e10, hF⟩ := hF
      refine eg_last dX13_whom_86 e10 ?_
      refine eg_iinc (i := 3) (v := (l3 + (1 : Int32))) 3 [(3, .int (l3 + (1 : Int32))), (0, .ref l0), (1, .int l1), (2, .int l2)] dX13_whom_87 rfl rfl (Nat.le_of_ble_eq_true rfl) rfl ?_
      refine eg_goto 57 dX13_whom_90 rfl ?_
      exact eg_sub [1, 2, 3, 0] [(0, .ref l0), (1, .int l1), (2, .int l2), (3, .int (l3 + (1 : Int32)))] rfl (hrec h9 l0 l1 l2 (l3 + (1 : Int32)) hF)
def fX13_whom_L38 : Nat → eg_H → Nat → Int32 → Int32 → Option (Nat × Int32 × eg_H)
  | 0, _, _, _, _ => none
  | n + 1, h, l0, l1, l2 =>
    (eg_gI h 13 24 l0).bind fun v1 =>
    if v1 ≤ l2 then
      (some (l0, l1, h))
    else
      (eg_gR h 13 43 l0).bind fun p4 =>
      (eg_wI h 100 p4 l2 (-1 : Int32)).bind fun h6 =>
      (some ((l2 + (1 : Int32)))).bind fun v8 =>
      (fX13_whom_L57 eg_F h6 l0 l1 l2 v8).bind fun e =>
      match e with
      | (p12, v13, v14, h15) =>
        fX13_whom_L38 n h15 p12 v13 (v14 + (1 : Int32))
set_option maxRecDepth 20000 in
theorem fX13_whom_L38_ok {h0 : eg_H} {Z : eg_C → State → Prop} {N S : Nat} : ∀ (n : Nat) (h : eg_H) (l0 : Nat) (l1 : Int32) (l2 : Int32) (eE : Nat × Int32 × eg_H), fX13_whom_L38 n h l0 l1 l2 = some eE → (hk0 : ∀ (l0 : Nat) (l1 : Int32) (h : eg_H), eE = (l0, l1, h) → eg_AW (RX13, cX13_whom, 4, 400, none, "whom", (some .long)) Z N S h0 99 [(0, .ref l0), (1, .int l1)] [] h) → eg_AW (RX13, cX13_whom, 4, 400, none, "whom", (some .long)) Z N S h0 38 [(0, .ref l0), (1, .int l1), (2, .int l2)] [] h := by
  intro n
  induction n with
  | zero => intro h l0 l1 l2 eE hF; exact absurd hF (by intro q; cases q)
  | succ n ih =>
    intro h l0 l1 l2 eE hF hk0
    have hrec := fun (h' : eg_H) (l0 : Nat) (l1 : Int32) (l2 : Int32) hq => ih h' l0 l1 l2 eE hq hk0
    refine eg_iload_n (i := 2) 2 dX13_whom_38 rfl rfl ?_
    refine eg_aload_n (i := 0) 0 dX13_whom_39 rfl rfl ?_
    replace hF := eg_bind hF; obtain ⟨v1, e2, hF⟩ := hF
    refine eg_getI dX13_whom_40 e2 (Nat.le_of_ble_eq_true rfl) (Nat.le_of_ble_eq_true rfl) rfl ew_1458 ?_
    refine eg_ic_ge 99 dX13_whom_43 rfl (fun c3 => ?_) (fun c3 => ?_)
    · replace hF := eg_it c3 hF
      exact eg_sub [0, 1] [(0, .ref l0), (1, .int l1)] rfl (hk0 l0 l1 h (Option.some.inj hF).symm)
    · replace hF := eg_if c3 hF
      refine eg_aload_n (i := 0) 0 dX13_whom_46 rfl rfl ?_
      replace hF := eg_bind hF; obtain ⟨p4, e5, hF⟩ := hF
      refine eg_getR dX13_whom_47 e5 (Nat.le_of_ble_eq_true rfl) (Nat.le_of_ble_eq_true rfl) rfl ew_1477 ?_
      refine eg_iload_n (i := 2) 2 dX13_whom_50 rfl rfl ?_
      refine eg_iconst (v := (-1 : Int32)) dX13_whom_51 (by decide) ?_
      replace hF := eg_bind hF; obtain ⟨h6, e7, hF⟩ := hF
      refine eg_iast dX13_whom_52 e7 ?_
      refine eg_iload_n (i := 2) 2 dX13_whom_53 rfl rfl ?_
      refine eg_iconst (v := (1 : Int32)) dX13_whom_54 (by decide) ?_
      refine eg_iadd dX13_whom_55 ?_
      replace hF := eg_bind hF; obtain ⟨v8, e9, hF⟩ := hF
      replace e9 := Option.some.inj e9
      rw [e9]
      refine eg_istore_n (i := 3) [(3, .int v8), (0, .ref l0), (1, .int l1), (2, .int l2)] dX13_whom_56 rfl (Nat.le_of_ble_eq_true rfl) rfl ?_
      replace hF := eg_bind hF; obtain ⟨x11, e10, hF⟩ := hF
      refine eg_sub [1, 2, 3, 0] [(0, .ref l0), (1, .int l1), (2, .int l2), (3, .int v8)] rfl (fX13_whom_L57_ok eg_F h6 l0 l1 l2 v8 x11 e10 ?_)
      · intro p12 v13 v14 h15 e16
        subst e16
        refine eg_iinc (i := 2) (v := (v14 + (1 : Int32))) 2 [(2, .int (v14 + (1 : Int32))), (0, .ref p12), (1, .int v13)] dX13_whom_93 rfl rfl (Nat.le_of_ble_eq_true rfl) rfl ?_
        refine eg_goto 38 dX13_whom_96 rfl ?_
        exact eg_sub [1, 2, 0] [(0, .ref p12), (1, .int v13), (2, .int (v14 + (1 : Int32)))] rfl (hrec h15 p12 v13 (v14 + (1 : Int32)) hF)
def fX13_whom (h : eg_H) (l0 : Nat) (l1 : Int32) : Option (Int64 × eg_H) :=
  if eg_isO h 13 l0 then (
    (eg_pI h 13 0 l0 (0 : Int32)).bind fun h1 =>
    (eg_gI h1 13 24 l0).bind fun v3 =>
    if v3 = 0 then
      (some ((-1 : Int64), h1))
    else
      (eg_gI h1 13 24 l0).bind fun v6 =>
      if (v6 % (2 : Int32)) = (1 : Int32) then
        (some ((-1 : Int64), h1))
      else
        (fX13_isIn h1 l1.toInt64 (0 : Int64) (1 : Int64)).bind fun ⟨v10, h9⟩ =>
        if v10 = 0 then
          (some ((-1 : Int64), h9))
        else
          (fX13_whom_L38 eg_F h9 l0 l1 (0 : Int32)).bind fun e =>
          match e with
          | (p15, v16, h17) =>
            (eg_pL h17 13 45 p15 (-1 : Int64)).bind fun h18 =>
            (fX13_goWhom eg_D h18 p15 (0 : Int32) (0 : Int64)).bind fun h20 =>
            if v16 = 0 then
              ((eg_gL h20 13 44 p15).bind fun v23 =>
              some (v23, h20))
            else
              (eg_gL h20 13 45 p15).bind fun v25 =>
              some (v25, h20)) else none
theorem fX13_whom_O {h : eg_H} {l0 : Nat} {l1 : Int32} {rE : Int64} {hE : eg_H} (hF : fX13_whom h l0 l1 = some (rE, hE)) : eg_isO h 13 l0 := (eg_ifn hF).1
set_option maxRecDepth 20000 in
theorem mX13_whom {h : eg_H} {l0 : Nat} {l1 : Int32} {rE : Int64} {hE : eg_H} (hF : fX13_whom h l0 l1 = some (rE, hE)) : eg_Met yX13_whom cX13_whom 4 (some .long) 400 [.ref l0, .int l1] h (some (.long rE)) hE := by
  refine eg_enter rfl (Nat.le_of_ble_eq_true rfl) ?_
  show eg_AW (RX13, cX13_whom, 4, 400, none, "whom", (some .long)) (eg_Zm (some (.long rE)) hE h) (eg_nc hE) (eg_ns hE) h 0 [(0, .ref l0), (1, .int l1)] [] h
  replace hF := (eg_ifn hF).2
  refine eg_aload_n (i := 0) 0 dX13_whom_0 rfl rfl ?_
  refine eg_iconst (v := (0 : Int32)) dX13_whom_1 (by decide) ?_
  replace hF := eg_bind hF; obtain ⟨h1, e2, hF⟩ := hF
  refine eg_putI dX13_whom_2 e2 (Nat.le_of_ble_eq_true rfl) (Nat.le_of_ble_eq_true rfl) rfl ew_1434 (Or.inl rfl) ?_
  refine eg_aload_n (i := 0) 0 dX13_whom_5 rfl rfl ?_
  replace hF := eg_bind hF; obtain ⟨v3, e4, hF⟩ := hF
  refine eg_getI dX13_whom_6 e4 (Nat.le_of_ble_eq_true rfl) (Nat.le_of_ble_eq_true rfl) rfl ew_1458 ?_
  refine eg_if_eq 32 dX13_whom_9 rfl (fun c5 => ?_) (fun c5 => ?_)
  · replace hF := eg_it c5 hF
    refine eg_ldc2 (v := (-1 : Int64)) dX13_whom_32 ew_1990 ?_
    exact eg_lretE dX13_whom_35 hF
  · replace hF := eg_if c5 hF
    refine eg_aload_n (i := 0) 0 dX13_whom_12 rfl rfl ?_
    replace hF := eg_bind hF; obtain ⟨v6, e7, hF⟩ := hF
    refine eg_getI dX13_whom_13 e7 (Nat.le_of_ble_eq_true rfl) (Nat.le_of_ble_eq_true rfl) rfl ew_1458 ?_
    refine eg_iconst (v := (2 : Int32)) dX13_whom_16 (by decide) ?_
    refine eg_irem dX13_whom_17 (by decide) ?_
    refine eg_iconst (v := (1 : Int32)) dX13_whom_18 (by decide) ?_
    refine eg_ic_eq 32 dX13_whom_19 rfl (fun c8 => ?_) (fun c8 => ?_)
    · replace hF := eg_it c8 hF
      refine eg_ldc2 (v := (-1 : Int64)) dX13_whom_32 ew_1990 ?_
      exact eg_lretE dX13_whom_35 hF
    · replace hF := eg_if c8 hF
      refine eg_iload_n (i := 1) 1 dX13_whom_22 rfl rfl ?_
      refine eg_i2l dX13_whom_23 ?_
      refine eg_lconst (v := (0 : Int64)) dX13_whom_24 (by decide) ?_
      refine eg_lconst (v := (1 : Int64)) dX13_whom_25 (by decide) ?_
      replace hF := eg_bind hF; obtain ⟨⟨v10, h9⟩, e11, hF⟩ := hF
      refine eg_callS (n := 3) [.long l1.toInt64, .long (0 : Int64), .long (1 : Int64)] dX13_whom_26 (mX13_isIn e11) rfl ew_1697 ew_1698 ew_110 ew_1699 hy_X13_isIn.2 rfl (Nat.le_of_ble_eq_true rfl) (Nat.le_of_ble_eq_true rfl) (Nat.le_of_ble_eq_true rfl) ?_
      refine eg_if_ne 36 dX13_whom_29 rfl (fun c12 => ?_) (fun c12 => ?_)
      · replace hF := eg_it c12 hF
        refine eg_ldc2 (v := (-1 : Int64)) dX13_whom_32 ew_1990 ?_
        exact eg_lretE dX13_whom_35 hF
      · replace hF := eg_if c12 hF
        refine eg_iconst (v := (0 : Int32)) dX13_whom_36 (by decide) ?_
        refine eg_istore_n (i := 2) [(2, .int (0 : Int32)), (0, .ref l0), (1, .int l1)] dX13_whom_37 rfl (Nat.le_of_ble_eq_true rfl) rfl ?_
        replace hF := eg_bind hF; obtain ⟨x14, e13, hF⟩ := hF
        refine eg_sub [1, 2, 0] [(0, .ref l0), (1, .int l1), (2, .int (0 : Int32))] rfl (fX13_whom_L38_ok eg_F h9 l0 l1 (0 : Int32) x14 e13 ?_)
        · intro p15 v16 h17 e27
          subst e27
          refine eg_aload_n (i := 0) 0 dX13_whom_99 rfl rfl ?_
          refine eg_ldc2 (v := (-1 : Int64)) dX13_whom_100 ew_1990 ?_
          replace hF := eg_bind hF; obtain ⟨h18, e19, hF⟩ := hF
          refine eg_putL dX13_whom_103 e19 (Nat.le_of_ble_eq_true rfl) (Nat.le_of_ble_eq_true rfl) rfl ew_1479 rfl ?_
          refine eg_aload_n (i := 0) 0 dX13_whom_106 rfl rfl ?_
          refine eg_iconst (v := (0 : Int32)) dX13_whom_107 (by decide) ?_
          refine eg_lconst (v := (0 : Int64)) dX13_whom_108 (by decide) ?_
          replace hF := eg_bind hF; obtain ⟨h20, e21, hF⟩ := hF
          refine eg_callV (c := 13) (n := 2) [.int (0 : Int32), .long (0 : Int64)] dX13_whom_109 (mX13_goWhom eg_D e21) rfl (fX13_goWhom_O e21) (Nat.le_of_ble_eq_true rfl) rfl ew_2002 ew_2004 ew_87 ew_110 ew_2005 hy_X13_goWhom rfl (Nat.le_of_ble_eq_true rfl) (Nat.le_of_ble_eq_true rfl) (Nat.le_of_ble_eq_true rfl) ?_
          refine eg_iload_n (i := 1) 1 dX13_whom_112 rfl rfl ?_
          refine eg_if_ne 123 dX13_whom_113 rfl (fun c22 => ?_) (fun c22 => ?_)
          · replace hF := eg_it c22 hF
            refine eg_aload_n (i := 0) 0 dX13_whom_116 rfl rfl ?_
            replace hF := eg_bind hF; obtain ⟨v23, e24, hF⟩ := hF
            refine eg_getL dX13_whom_117 e24 (Nat.le_of_ble_eq_true rfl) (Nat.le_of_ble_eq_true rfl) rfl ew_1478 ?_
            refine eg_goto 127 dX13_whom_120 rfl ?_
            exact eg_lretE dX13_whom_127 hF
          · replace hF := eg_if c22 hF
            refine eg_aload_n (i := 0) 0 dX13_whom_123 rfl rfl ?_
            replace hF := eg_bind hF; obtain ⟨v25, e26, hF⟩ := hF
            refine eg_getL dX13_whom_124 e26 (Nat.le_of_ble_eq_true rfl) (Nat.le_of_ble_eq_true rfl) rfl ew_1479 ?_
            exact eg_lretE dX13_whom_127 hF
theorem dX13_which_0 : decode cX13_which 0 = .ok (.aload_n 0, 1) := by decide +kernel
theorem dX13_which_1 : decode cX13_which 1 = .ok (.iconst 0, 1) := by decide +kernel
theorem dX13_which_2 : decode cX13_which 2 = .ok (.putfield 148, 3) := by decide +kernel
theorem dX13_which_5 : decode cX13_which 5 = .ok (.aload_n 0, 1) := by decide +kernel
theorem dX13_which_6 : decode cX13_which 6 = .ok (.iload_n 1, 1) := by decide +kernel
theorem dX13_which_7 : decode cX13_which 7 = .ok (.invokevirtual 405, 3) := by decide +kernel
theorem dX13_which_10 : decode cX13_which 10 = .ok (.ifCond .eq 23, 3) := by decide +kernel
theorem dX13_which_13 : decode cX13_which 13 = .ok (.iload_n 2, 1) := by decide +kernel
theorem dX13_which_14 : decode cX13_which 14 = .ok (.i2l, 1) := by decide +kernel
theorem dX13_which_15 : decode cX13_which 15 = .ok (.lconst 0, 1) := by decide +kernel
theorem dX13_which_16 : decode cX13_which 16 = .ok (.lconst 1, 1) := by decide +kernel
theorem dX13_which_17 : decode cX13_which 17 = .ok (.invokestatic 269, 3) := by decide +kernel
theorem dX13_which_20 : decode cX13_which 20 = .ok (.ifCond .eq 13, 3) := by decide +kernel
theorem dX13_which_23 : decode cX13_which 23 = .ok (.iload_n 3, 1) := by decide +kernel
theorem dX13_which_24 : decode cX13_which 24 = .ok (.i2l, 1) := by decide +kernel
theorem dX13_which_25 : decode cX13_which 25 = .ok (.lconst 0, 1) := by decide +kernel
theorem dX13_which_26 : decode cX13_which 26 = .ok (.lconst 1, 1) := by decide +kernel
theorem dX13_which_27 : decode cX13_which 27 = .ok (.invokestatic 269, 3) := by decide +kernel
theorem dX13_which_30 : decode cX13_which 30 = .ok (.ifCond .ne 7, 3) := by decide +kernel
theorem dX13_which_33 : decode cX13_which 33 = .ok (.ldc2_w 444, 3) := by decide +kernel
theorem dX13_which_36 : decode cX13_which 36 = .ok (.lreturn, 1) := by decide +kernel
theorem dX13_which_37 : decode cX13_which 37 = .ok (.ldc2_w 444, 3) := by decide +kernel
theorem dX13_which_40 : decode cX13_which 40 = .ok (.lstore 4, 2) := by decide +kernel
theorem dX13_which_42 : decode cX13_which 42 = .ok (.ldc2_w 444, 3) := by decide +kernel
theorem dX13_which_45 : decode cX13_which 45 = .ok (.lstore 6, 2) := by decide +kernel
theorem dX13_which_47 : decode cX13_which 47 = .ok (.iconst 0, 1) := by decide +kernel
theorem dX13_which_48 : decode cX13_which 48 = .ok (.istore 8, 2) := by decide +kernel
theorem dX13_which_50 : decode cX13_which 50 = .ok (.iload 8, 2) := by decide +kernel
theorem dX13_which_52 : decode cX13_which 52 = .ok (.aload_n 0, 1) := by decide +kernel
theorem dX13_which_53 : decode cX13_which 53 = .ok (.getfield 338, 3) := by decide +kernel
theorem dX13_which_56 : decode cX13_which 56 = .ok (.if_icmp .ge 43, 3) := by decide +kernel
theorem dX13_which_59 : decode cX13_which 59 = .ok (.aload_n 0, 1) := by decide +kernel
theorem dX13_which_60 : decode cX13_which 60 = .ok (.iload_n 1, 1) := by decide +kernel
theorem dX13_which_61 : decode cX13_which 61 = .ok (.bipush 10, 2) := by decide +kernel
theorem dX13_which_63 : decode cX13_which 63 = .ok (.iload 8, 2) := by decide +kernel
theorem dX13_which_65 : decode cX13_which 65 = .ok (.imul, 1) := by decide +kernel
theorem dX13_which_66 : decode cX13_which 66 = .ok (.iload_n 2, 1) := by decide +kernel
theorem dX13_which_67 : decode cX13_which 67 = .ok (.iadd, 1) := by decide +kernel
theorem dX13_which_68 : decode cX13_which 68 = .ok (.invokevirtual 440, 3) := by decide +kernel
theorem dX13_which_71 : decode cX13_which 71 = .ok (.lstore 9, 2) := by decide +kernel
theorem dX13_which_73 : decode cX13_which 73 = .ok (.lload 9, 2) := by decide +kernel
theorem dX13_which_75 : decode cX13_which 75 = .ok (.lload 6, 2) := by decide +kernel
theorem dX13_which_77 : decode cX13_which 77 = .ok (.lcmp, 1) := by decide +kernel
theorem dX13_which_78 : decode cX13_which 78 = .ok (.ifCond .gt 6, 3) := by decide +kernel
theorem dX13_which_81 : decode cX13_which 81 = .ok (.goto 12, 3) := by decide +kernel
theorem dX13_which_84 : decode cX13_which 84 = .ok (.iload 8, 2) := by decide +kernel
theorem dX13_which_86 : decode cX13_which 86 = .ok (.i2l, 1) := by decide +kernel
theorem dX13_which_87 : decode cX13_which 87 = .ok (.lstore 4, 2) := by decide +kernel
theorem dX13_which_89 : decode cX13_which 89 = .ok (.lload 9, 2) := by decide +kernel
theorem dX13_which_91 : decode cX13_which 91 = .ok (.lstore 6, 2) := by decide +kernel
theorem dX13_which_93 : decode cX13_which 93 = .ok (.iinc 8 1, 3) := by decide +kernel
theorem dX13_which_96 : decode cX13_which 96 = .ok (.goto (-46), 3) := by decide +kernel
theorem dX13_which_99 : decode cX13_which 99 = .ok (.iload_n 3, 1) := by decide +kernel
theorem dX13_which_100 : decode cX13_which 100 = .ok (.ifCond .ne 8, 3) := by decide +kernel
theorem dX13_which_103 : decode cX13_which 103 = .ok (.lload 4, 2) := by decide +kernel
theorem dX13_which_105 : decode cX13_which 105 = .ok (.goto 5, 3) := by decide +kernel
theorem dX13_which_108 : decode cX13_which 108 = .ok (.lload 6, 2) := by decide +kernel
theorem dX13_which_110 : decode cX13_which 110 = .ok (.lreturn, 1) := by decide +kernel
def fX13_which_L50 : Nat → eg_H → Nat → Int32 → Int32 → Int32 → Int64 → Int64 → Int32 → Option (Int32 × Int64 × Int64 × eg_H)
  | 0, _, _, _, _, _, _, _, _ => none
  | n + 1, h, l0, l1, l2, l3, l4, l6, l8 =>
    (eg_gI h 13 26 l0).bind fun v1 =>
    if v1 ≤ l8 then
      (some (l3, l4, l6, h))
    else
      (fX13_hopeOf h l0 l1 (((10 : Int32) * l8) + l2)).bind fun ⟨v5, h4⟩ =>
      if l6 < v5 then
        ((some (l8.toInt64)).bind fun v8 =>
        fX13_which_L50 n h4 l0 l1 l2 l3 v8 v5 (l8 + (1 : Int32)))
      else
        fX13_which_L50 n h4 l0 l1 l2 l3 l4 l6 (l8 + (1 : Int32))
set_option maxRecDepth 20000 in
theorem fX13_which_L50_ok {h0 : eg_H} {Z : eg_C → State → Prop} {N S : Nat} : ∀ (n : Nat) (h : eg_H) (l0 : Nat) (l1 : Int32) (l2 : Int32) (l3 : Int32) (l4 : Int64) (l6 : Int64) (l8 : Int32) (eE : Int32 × Int64 × Int64 × eg_H), fX13_which_L50 n h l0 l1 l2 l3 l4 l6 l8 = some eE → (hk0 : ∀ (l3 : Int32) (l4 : Int64) (l6 : Int64) (h : eg_H), eE = (l3, l4, l6, h) → eg_AW (RX13, cX13_which, 11, 400, none, "which", (some .long)) Z N S h0 99 [(3, .int l3), (4, .long l4), (6, .long l6)] [] h) → eg_AW (RX13, cX13_which, 11, 400, none, "which", (some .long)) Z N S h0 50 [(0, .ref l0), (1, .int l1), (2, .int l2), (3, .int l3), (4, .long l4), (6, .long l6), (8, .int l8)] [] h := by
  intro n
  induction n with
  | zero => intro h l0 l1 l2 l3 l4 l6 l8 eE hF; exact absurd hF (by intro q; cases q)
  | succ n ih =>
    intro h l0 l1 l2 l3 l4 l6 l8 eE hF hk0
    have hrec := fun (h' : eg_H) (l0 : Nat) (l1 : Int32) (l2 : Int32) (l3 : Int32) (l4 : Int64) (l6 : Int64) (l8 : Int32) hq => ih h' l0 l1 l2 l3 l4 l6 l8 eE hq hk0
    refine eg_iload (i := 8) 6 dX13_which_50 rfl ?_
    refine eg_aload_n (i := 0) 0 dX13_which_52 rfl rfl ?_
    replace hF := eg_bind hF; obtain ⟨v1, e2, hF⟩ := hF
    refine eg_getI dX13_which_53 e2 (Nat.le_of_ble_eq_true rfl) (Nat.le_of_ble_eq_true rfl) rfl ew_1460 ?_
    refine eg_ic_ge 99 dX13_which_56 rfl (fun c3 => ?_) (fun c3 => ?_)
    · replace hF := eg_it c3 hF
      exact eg_sub [3, 4, 5] [(3, .int l3), (4, .long l4), (6, .long l6)] rfl (hk0 l3 l4 l6 h (Option.some.inj hF).symm)
    · replace hF := eg_if c3 hF
      refine eg_aload_n (i := 0) 0 dX13_which_59 rfl rfl ?_
      refine eg_iload_n (i := 1) 1 dX13_which_60 rfl rfl ?_
      refine eg_bipush (v := (10 : Int32)) dX13_which_61 (by decide) ?_
      refine eg_iload (i := 8) 6 dX13_which_63 rfl ?_
      refine eg_imul dX13_which_65 ?_
      refine eg_iload_n (i := 2) 2 dX13_which_66 rfl rfl ?_
      refine eg_iadd dX13_which_67 ?_
      replace hF := eg_bind hF; obtain ⟨⟨v5, h4⟩, e6, hF⟩ := hF
      refine eg_callV (c := 13) (n := 2) [.int l1, .int (((10 : Int32) * l8) + l2)] dX13_which_68 (mX13_hopeOf e6) rfl (fX13_hopeOf_O e6) (Nat.le_of_ble_eq_true rfl) rfl ew_1982 ew_1984 ew_86 ew_110 ew_1985 hy_X13_hopeOf rfl (Nat.le_of_ble_eq_true rfl) (Nat.le_of_ble_eq_true rfl) (Nat.le_of_ble_eq_true rfl) ?_
      refine eg_lstore (i := 9) [(9, .long v5), (0, .ref l0), (1, .int l1), (2, .int l2), (3, .int l3), (4, .long l4), (6, .long l6), (8, .int l8)] dX13_which_71 (Nat.le_of_ble_eq_true rfl) rfl ?_
      refine eg_lload (i := 9) 0 dX13_which_73 rfl ?_
      refine eg_lload (i := 6) 6 dX13_which_75 rfl ?_
      refine eg_lc_gt 84 dX13_which_77 dX13_which_78 rfl (fun c7 => ?_) (fun c7 => ?_)
      · replace hF := eg_it c7 hF
        refine eg_iload (i := 8) 7 dX13_which_84 rfl ?_
        refine eg_i2l dX13_which_86 ?_
        replace hF := eg_bind hF; obtain ⟨v8, e9, hF⟩ := hF
        replace e9 := Option.some.inj e9
        rw [e9]
        refine eg_lstore (i := 4) [(4, .long v8), (9, .long v5), (0, .ref l0), (1, .int l1), (2, .int l2), (3, .int l3), (6, .long l6), (8, .int l8)] dX13_which_87 (Nat.le_of_ble_eq_true rfl) rfl ?_
        refine eg_lload (i := 9) 1 dX13_which_89 rfl ?_
        refine eg_lstore (i := 6) [(6, .long v5), (4, .long v8), (9, .long v5), (0, .ref l0), (1, .int l1), (2, .int l2), (3, .int l3), (8, .int l8)] dX13_which_91 (Nat.le_of_ble_eq_true rfl) rfl ?_
        refine eg_iinc (i := 8) (v := (l8 + (1 : Int32))) 7 [(8, .int (l8 + (1 : Int32))), (6, .long v5), (4, .long v8), (9, .long v5), (0, .ref l0), (1, .int l1), (2, .int l2), (3, .int l3)] dX13_which_93 rfl rfl (Nat.le_of_ble_eq_true rfl) rfl ?_
        refine eg_goto 50 dX13_which_96 rfl ?_
        exact eg_sub [4, 5, 6, 7, 2, 1, 0] [(0, .ref l0), (1, .int l1), (2, .int l2), (3, .int l3), (4, .long v8), (6, .long v5), (8, .int (l8 + (1 : Int32)))] rfl (hrec h4 l0 l1 l2 l3 v8 v5 (l8 + (1 : Int32)) hF)
      · replace hF := eg_if c7 hF
        refine eg_goto 93 dX13_which_81 rfl ?_
        refine eg_iinc (i := 8) (v := (l8 + (1 : Int32))) 7 [(8, .int (l8 + (1 : Int32))), (9, .long v5), (0, .ref l0), (1, .int l1), (2, .int l2), (3, .int l3), (4, .long l4), (6, .long l6)] dX13_which_93 rfl rfl (Nat.le_of_ble_eq_true rfl) rfl ?_
        refine eg_goto 50 dX13_which_96 rfl ?_
        exact eg_sub [2, 3, 4, 5, 6, 7, 0] [(0, .ref l0), (1, .int l1), (2, .int l2), (3, .int l3), (4, .long l4), (6, .long l6), (8, .int (l8 + (1 : Int32)))] rfl (hrec h4 l0 l1 l2 l3 l4 l6 (l8 + (1 : Int32)) hF)
def fX13_which (h : eg_H) (l0 : Nat) (l1 : Int32) (l2 : Int32) (l3 : Int32) : Option (Int64 × eg_H) :=
  if eg_isO h 13 l0 then (
    (eg_pI h 13 0 l0 (0 : Int32)).bind fun h1 =>
    (fX13_isTwo h1 l0 l1).bind fun ⟨v4, h3⟩ =>
    if v4 = 0 then
      (some ((-1 : Int64), h3))
    else
      (fX13_isIn h3 l2.toInt64 (0 : Int64) (1 : Int64)).bind fun ⟨v8, h7⟩ =>
      if v8 = 0 then
        (some ((-1 : Int64), h7))
      else
        (fX13_isIn h7 l3.toInt64 (0 : Int64) (1 : Int64)).bind fun ⟨v12, h11⟩ =>
        if v12 = 0 then
          (some ((-1 : Int64), h11))
        else
          (fX13_which_L50 eg_F h11 l0 l1 l2 l3 (-1 : Int64) (-1 : Int64) (0 : Int32)).bind fun e =>
          match e with
          | (v17, v18, v19, h20) =>
            if v17 = 0 then
              (some (v18, h20))
            else
              some (v19, h20)) else none
theorem fX13_which_O {h : eg_H} {l0 : Nat} {l1 : Int32} {l2 : Int32} {l3 : Int32} {rE : Int64} {hE : eg_H} (hF : fX13_which h l0 l1 l2 l3 = some (rE, hE)) : eg_isO h 13 l0 := (eg_ifn hF).1
set_option maxRecDepth 20000 in
theorem mX13_which {h : eg_H} {l0 : Nat} {l1 : Int32} {l2 : Int32} {l3 : Int32} {rE : Int64} {hE : eg_H} (hF : fX13_which h l0 l1 l2 l3 = some (rE, hE)) : eg_Met yX13_which cX13_which 11 (some .long) 400 [.ref l0, .int l1, .int l2, .int l3] h (some (.long rE)) hE := by
  refine eg_enter rfl (Nat.le_of_ble_eq_true rfl) ?_
  show eg_AW (RX13, cX13_which, 11, 400, none, "which", (some .long)) (eg_Zm (some (.long rE)) hE h) (eg_nc hE) (eg_ns hE) h 0 [(0, .ref l0), (1, .int l1), (2, .int l2), (3, .int l3)] [] h
  replace hF := (eg_ifn hF).2
  refine eg_aload_n (i := 0) 0 dX13_which_0 rfl rfl ?_
  refine eg_iconst (v := (0 : Int32)) dX13_which_1 (by decide) ?_
  replace hF := eg_bind hF; obtain ⟨h1, e2, hF⟩ := hF
  refine eg_putI dX13_which_2 e2 (Nat.le_of_ble_eq_true rfl) (Nat.le_of_ble_eq_true rfl) rfl ew_1434 (Or.inl rfl) ?_
  refine eg_aload_n (i := 0) 0 dX13_which_5 rfl rfl ?_
  refine eg_iload_n (i := 1) 1 dX13_which_6 rfl rfl ?_
  replace hF := eg_bind hF; obtain ⟨⟨v4, h3⟩, e5, hF⟩ := hF
  refine eg_callV (c := 13) (n := 1) [.int l1] dX13_which_7 (mX13_isTwo e5) rfl (fX13_isTwo_O e5) (Nat.le_of_ble_eq_true rfl) rfl ew_1929 ew_1931 ew_76 ew_110 ew_1932 hy_X13_isTwo rfl (Nat.le_of_ble_eq_true rfl) (Nat.le_of_ble_eq_true rfl) (Nat.le_of_ble_eq_true rfl) ?_
  refine eg_if_eq 33 dX13_which_10 rfl (fun c6 => ?_) (fun c6 => ?_)
  · replace hF := eg_it c6 hF
    refine eg_ldc2 (v := (-1 : Int64)) dX13_which_33 ew_1990 ?_
    exact eg_lretE dX13_which_36 hF
  · replace hF := eg_if c6 hF
    refine eg_iload_n (i := 2) 2 dX13_which_13 rfl rfl ?_
    refine eg_i2l dX13_which_14 ?_
    refine eg_lconst (v := (0 : Int64)) dX13_which_15 (by decide) ?_
    refine eg_lconst (v := (1 : Int64)) dX13_which_16 (by decide) ?_
    replace hF := eg_bind hF; obtain ⟨⟨v8, h7⟩, e9, hF⟩ := hF
    refine eg_callS (n := 3) [.long l2.toInt64, .long (0 : Int64), .long (1 : Int64)] dX13_which_17 (mX13_isIn e9) rfl ew_1697 ew_1698 ew_110 ew_1699 hy_X13_isIn.2 rfl (Nat.le_of_ble_eq_true rfl) (Nat.le_of_ble_eq_true rfl) (Nat.le_of_ble_eq_true rfl) ?_
    refine eg_if_eq 33 dX13_which_20 rfl (fun c10 => ?_) (fun c10 => ?_)
    · replace hF := eg_it c10 hF
      refine eg_ldc2 (v := (-1 : Int64)) dX13_which_33 ew_1990 ?_
      exact eg_lretE dX13_which_36 hF
    · replace hF := eg_if c10 hF
      refine eg_iload_n (i := 3) 3 dX13_which_23 rfl rfl ?_
      refine eg_i2l dX13_which_24 ?_
      refine eg_lconst (v := (0 : Int64)) dX13_which_25 (by decide) ?_
      refine eg_lconst (v := (1 : Int64)) dX13_which_26 (by decide) ?_
      replace hF := eg_bind hF; obtain ⟨⟨v12, h11⟩, e13, hF⟩ := hF
      refine eg_callS (n := 3) [.long l3.toInt64, .long (0 : Int64), .long (1 : Int64)] dX13_which_27 (mX13_isIn e13) rfl ew_1697 ew_1698 ew_110 ew_1699 hy_X13_isIn.2 rfl (Nat.le_of_ble_eq_true rfl) (Nat.le_of_ble_eq_true rfl) (Nat.le_of_ble_eq_true rfl) ?_
      refine eg_if_ne 37 dX13_which_30 rfl (fun c14 => ?_) (fun c14 => ?_)
      · replace hF := eg_it c14 hF
        refine eg_ldc2 (v := (-1 : Int64)) dX13_which_33 ew_1990 ?_
        exact eg_lretE dX13_which_36 hF
      · replace hF := eg_if c14 hF
        refine eg_ldc2 (v := (-1 : Int64)) dX13_which_37 ew_1990 ?_
        refine eg_lstore (i := 4) [(4, .long (-1 : Int64)), (0, .ref l0), (1, .int l1), (2, .int l2), (3, .int l3)] dX13_which_40 (Nat.le_of_ble_eq_true rfl) rfl ?_
        refine eg_ldc2 (v := (-1 : Int64)) dX13_which_42 ew_1990 ?_
        refine eg_lstore (i := 6) [(6, .long (-1 : Int64)), (4, .long (-1 : Int64)), (0, .ref l0), (1, .int l1), (2, .int l2), (3, .int l3)] dX13_which_45 (Nat.le_of_ble_eq_true rfl) rfl ?_
        refine eg_iconst (v := (0 : Int32)) dX13_which_47 (by decide) ?_
        refine eg_istore (i := 8) [(8, .int (0 : Int32)), (6, .long (-1 : Int64)), (4, .long (-1 : Int64)), (0, .ref l0), (1, .int l1), (2, .int l2), (3, .int l3)] dX13_which_48 (Nat.le_of_ble_eq_true rfl) rfl ?_
        replace hF := eg_bind hF; obtain ⟨x16, e15, hF⟩ := hF
        refine eg_sub [3, 4, 5, 6, 2, 1, 0] [(0, .ref l0), (1, .int l1), (2, .int l2), (3, .int l3), (4, .long (-1 : Int64)), (6, .long (-1 : Int64)), (8, .int (0 : Int32))] rfl (fX13_which_L50_ok eg_F h11 l0 l1 l2 l3 (-1 : Int64) (-1 : Int64) (0 : Int32) x16 e15 ?_)
        · intro v17 v18 v19 h20 e22
          subst e22
          refine eg_iload_n (i := 3) 0 dX13_which_99 rfl rfl ?_
          refine eg_if_ne 108 dX13_which_100 rfl (fun c21 => ?_) (fun c21 => ?_)
          · replace hF := eg_it c21 hF
            refine eg_lload (i := 4) 1 dX13_which_103 rfl ?_
            refine eg_goto 110 dX13_which_105 rfl ?_
            exact eg_lretE dX13_which_110 hF
          · replace hF := eg_if c21 hF
            refine eg_lload (i := 6) 2 dX13_which_108 rfl ?_
            exact eg_lretE dX13_which_110 hF
theorem dX13_witness_0 : decode cX13_witness 0 = .ok (.aload_n 0, 1) := by decide +kernel
theorem dX13_witness_1 : decode cX13_witness 1 = .ok (.iconst 0, 1) := by decide +kernel
theorem dX13_witness_2 : decode cX13_witness 2 = .ok (.putfield 148, 3) := by decide +kernel
theorem dX13_witness_5 : decode cX13_witness 5 = .ok (.aload_n 0, 1) := by decide +kernel
theorem dX13_witness_6 : decode cX13_witness 6 = .ok (.iload_n 1, 1) := by decide +kernel
theorem dX13_witness_7 : decode cX13_witness 7 = .ok (.invokevirtual 356, 3) := by decide +kernel
theorem dX13_witness_10 : decode cX13_witness 10 = .ok (.ifCond .eq 24, 3) := by decide +kernel
theorem dX13_witness_13 : decode cX13_witness 13 = .ok (.iload_n 2, 1) := by decide +kernel
theorem dX13_witness_14 : decode cX13_witness 14 = .ok (.i2l, 1) := by decide +kernel
theorem dX13_witness_15 : decode cX13_witness 15 = .ok (.lconst 0, 1) := by decide +kernel
theorem dX13_witness_16 : decode cX13_witness 16 = .ok (.ldc2_w 461, 3) := by decide +kernel
theorem dX13_witness_19 : decode cX13_witness 19 = .ok (.invokestatic 269, 3) := by decide +kernel
theorem dX13_witness_22 : decode cX13_witness 22 = .ok (.ifCond .eq 12, 3) := by decide +kernel
theorem dX13_witness_25 : decode cX13_witness 25 = .ok (.aload_n 0, 1) := by decide +kernel
theorem dX13_witness_26 : decode cX13_witness 26 = .ok (.getfield 341, 3) := by decide +kernel
theorem dX13_witness_29 : decode cX13_witness 29 = .ok (.bipush 20, 2) := by decide +kernel
theorem dX13_witness_31 : decode cX13_witness 31 = .ok (.if_icmp .ne 5, 3) := by decide +kernel
theorem dX13_witness_34 : decode cX13_witness 34 = .ok (.iconst (-1), 1) := by decide +kernel
theorem dX13_witness_35 : decode cX13_witness 35 = .ok (.ireturn, 1) := by decide +kernel
theorem dX13_witness_36 : decode cX13_witness 36 = .ok (.aload_n 0, 1) := by decide +kernel
theorem dX13_witness_37 : decode cX13_witness 37 = .ok (.getfield 82, 3) := by decide +kernel
theorem dX13_witness_40 : decode cX13_witness 40 = .ok (.aload_n 0, 1) := by decide +kernel
theorem dX13_witness_41 : decode cX13_witness 41 = .ok (.getfield 341, 3) := by decide +kernel
theorem dX13_witness_44 : decode cX13_witness 44 = .ok (.iload_n 1, 1) := by decide +kernel
theorem dX13_witness_45 : decode cX13_witness 45 = .ok (.iastore, 1) := by decide +kernel
theorem dX13_witness_46 : decode cX13_witness 46 = .ok (.aload_n 0, 1) := by decide +kernel
theorem dX13_witness_47 : decode cX13_witness 47 = .ok (.getfield 85, 3) := by decide +kernel
theorem dX13_witness_50 : decode cX13_witness 50 = .ok (.aload_n 0, 1) := by decide +kernel
theorem dX13_witness_51 : decode cX13_witness 51 = .ok (.getfield 341, 3) := by decide +kernel
theorem dX13_witness_54 : decode cX13_witness 54 = .ok (.iload_n 2, 1) := by decide +kernel
theorem dX13_witness_55 : decode cX13_witness 55 = .ok (.iastore, 1) := by decide +kernel
theorem dX13_witness_56 : decode cX13_witness 56 = .ok (.aload_n 0, 1) := by decide +kernel
theorem dX13_witness_57 : decode cX13_witness 57 = .ok (.getfield 88, 3) := by decide +kernel
theorem dX13_witness_60 : decode cX13_witness 60 = .ok (.aload_n 0, 1) := by decide +kernel
theorem dX13_witness_61 : decode cX13_witness 61 = .ok (.getfield 341, 3) := by decide +kernel
theorem dX13_witness_64 : decode cX13_witness 64 = .ok (.iload_n 3, 1) := by decide +kernel
theorem dX13_witness_65 : decode cX13_witness 65 = .ok (.bastore, 1) := by decide +kernel
theorem dX13_witness_66 : decode cX13_witness 66 = .ok (.aload_n 0, 1) := by decide +kernel
theorem dX13_witness_67 : decode cX13_witness 67 = .ok (.dup, 1) := by decide +kernel
theorem dX13_witness_68 : decode cX13_witness 68 = .ok (.getfield 341, 3) := by decide +kernel
theorem dX13_witness_71 : decode cX13_witness 71 = .ok (.iconst 1, 1) := by decide +kernel
theorem dX13_witness_72 : decode cX13_witness 72 = .ok (.iadd, 1) := by decide +kernel
theorem dX13_witness_73 : decode cX13_witness 73 = .ok (.putfield 341, 3) := by decide +kernel
theorem dX13_witness_76 : decode cX13_witness 76 = .ok (.aload_n 0, 1) := by decide +kernel
theorem dX13_witness_77 : decode cX13_witness 77 = .ok (.getfield 341, 3) := by decide +kernel
theorem dX13_witness_80 : decode cX13_witness 80 = .ok (.ireturn, 1) := by decide +kernel
def fX13_witness (h : eg_H) (l0 : Nat) (l1 : Int32) (l2 : Int32) (l3 : Int32) : Option (Int32 × eg_H) :=
  if eg_isO h 13 l0 then (
    (eg_pI h 13 0 l0 (0 : Int32)).bind fun h1 =>
    (fX13_isEgg h1 l0 l1).bind fun ⟨v4, h3⟩ =>
    if v4 = 0 then
      (some ((-1 : Int32), h3))
    else
      (fX13_isIn h3 l2.toInt64 (0 : Int64) (999 : Int64)).bind fun ⟨v8, h7⟩ =>
      if v8 = 0 then
        (some ((-1 : Int32), h7))
      else
        (eg_gI h7 13 49 l0).bind fun v11 =>
        if v11 = (20 : Int32) then
          (some ((-1 : Int32), h7))
        else
          (eg_gR h7 13 46 l0).bind fun p14 =>
          (eg_gI h7 13 49 l0).bind fun v16 =>
          (eg_wI h7 100 p14 v16 l1).bind fun h18 =>
          (eg_gR h18 13 47 l0).bind fun p20 =>
          (eg_gI h18 13 49 l0).bind fun v22 =>
          (eg_wI h18 100 p20 v22 l2).bind fun h24 =>
          (eg_gR h24 13 48 l0).bind fun p26 =>
          (eg_gI h24 13 49 l0).bind fun v28 =>
          (eg_wI h24 103 p26 v28 (vp_nar .boolean l3)).bind fun h30 =>
          (eg_gI h30 13 49 l0).bind fun v32 =>
          (eg_pI h30 13 49 l0 (v32 + (1 : Int32))).bind fun h34 =>
          (eg_gI h34 13 49 l0).bind fun v36 =>
          some (v36, h34)) else none
theorem fX13_witness_O {h : eg_H} {l0 : Nat} {l1 : Int32} {l2 : Int32} {l3 : Int32} {rE : Int32} {hE : eg_H} (hF : fX13_witness h l0 l1 l2 l3 = some (rE, hE)) : eg_isO h 13 l0 := (eg_ifn hF).1
set_option maxRecDepth 20000 in
theorem mX13_witness {h : eg_H} {l0 : Nat} {l1 : Int32} {l2 : Int32} {l3 : Int32} {rE : Int32} {hE : eg_H} (hF : fX13_witness h l0 l1 l2 l3 = some (rE, hE)) : eg_Met yX13_witness cX13_witness 4 (some .int) 2 [.ref l0, .int l1, .int l2, .int l3] h (some (.int rE)) hE := by
  refine eg_enter rfl (Nat.le_of_ble_eq_true rfl) ?_
  show eg_AW (RX13, cX13_witness, 4, 2, none, "witness", (some .int)) (eg_Zm (some (.int rE)) hE h) (eg_nc hE) (eg_ns hE) h 0 [(0, .ref l0), (1, .int l1), (2, .int l2), (3, .int l3)] [] h
  replace hF := (eg_ifn hF).2
  refine eg_aload_n (i := 0) 0 dX13_witness_0 rfl rfl ?_
  refine eg_iconst (v := (0 : Int32)) dX13_witness_1 (by decide) ?_
  replace hF := eg_bind hF; obtain ⟨h1, e2, hF⟩ := hF
  refine eg_putI dX13_witness_2 e2 (Nat.le_of_ble_eq_true rfl) (Nat.le_of_ble_eq_true rfl) rfl ew_1434 (Or.inl rfl) ?_
  refine eg_aload_n (i := 0) 0 dX13_witness_5 rfl rfl ?_
  refine eg_iload_n (i := 1) 1 dX13_witness_6 rfl rfl ?_
  replace hF := eg_bind hF; obtain ⟨⟨v4, h3⟩, e5, hF⟩ := hF
  refine eg_callV (c := 13) (n := 1) [.int l1] dX13_witness_7 (mX13_isEgg e5) rfl (fX13_isEgg_O e5) (Nat.le_of_ble_eq_true rfl) rfl ew_1881 ew_1883 ew_72 ew_110 ew_1884 hy_X13_isEgg rfl (Nat.le_of_ble_eq_true rfl) (Nat.le_of_ble_eq_true rfl) (Nat.le_of_ble_eq_true rfl) ?_
  refine eg_if_eq 34 dX13_witness_10 rfl (fun c6 => ?_) (fun c6 => ?_)
  · replace hF := eg_it c6 hF
    refine eg_iconst (v := (-1 : Int32)) dX13_witness_34 (by decide) ?_
    exact eg_iretE dX13_witness_35 hF
  · replace hF := eg_if c6 hF
    refine eg_iload_n (i := 2) 2 dX13_witness_13 rfl rfl ?_
    refine eg_i2l dX13_witness_14 ?_
    refine eg_lconst (v := (0 : Int64)) dX13_witness_15 (by decide) ?_
    refine eg_ldc2 (v := (999 : Int64)) dX13_witness_16 ew_2015 ?_
    replace hF := eg_bind hF; obtain ⟨⟨v8, h7⟩, e9, hF⟩ := hF
    refine eg_callS (n := 3) [.long l2.toInt64, .long (0 : Int64), .long (999 : Int64)] dX13_witness_19 (mX13_isIn e9) rfl ew_1697 ew_1698 ew_110 ew_1699 hy_X13_isIn.2 rfl (Nat.le_of_ble_eq_true rfl) (Nat.le_of_ble_eq_true rfl) (Nat.le_of_ble_eq_true rfl) ?_
    refine eg_if_eq 34 dX13_witness_22 rfl (fun c10 => ?_) (fun c10 => ?_)
    · replace hF := eg_it c10 hF
      refine eg_iconst (v := (-1 : Int32)) dX13_witness_34 (by decide) ?_
      exact eg_iretE dX13_witness_35 hF
    · replace hF := eg_if c10 hF
      refine eg_aload_n (i := 0) 0 dX13_witness_25 rfl rfl ?_
      replace hF := eg_bind hF; obtain ⟨v11, e12, hF⟩ := hF
      refine eg_getI dX13_witness_26 e12 (Nat.le_of_ble_eq_true rfl) (Nat.le_of_ble_eq_true rfl) rfl ew_1483 ?_
      refine eg_bipush (v := (20 : Int32)) dX13_witness_29 (by decide) ?_
      refine eg_ic_ne 36 dX13_witness_31 rfl (fun c13 => ?_) (fun c13 => ?_)
      · replace hF := eg_it c13 hF
        refine eg_iconst (v := (-1 : Int32)) dX13_witness_34 (by decide) ?_
        exact eg_iretE dX13_witness_35 hF
      · replace hF := eg_if c13 hF
        refine eg_aload_n (i := 0) 0 dX13_witness_36 rfl rfl ?_
        replace hF := eg_bind hF; obtain ⟨p14, e15, hF⟩ := hF
        refine eg_getR dX13_witness_37 e15 (Nat.le_of_ble_eq_true rfl) (Nat.le_of_ble_eq_true rfl) rfl ew_1480 ?_
        refine eg_aload_n (i := 0) 0 dX13_witness_40 rfl rfl ?_
        replace hF := eg_bind hF; obtain ⟨v16, e17, hF⟩ := hF
        refine eg_getI dX13_witness_41 e17 (Nat.le_of_ble_eq_true rfl) (Nat.le_of_ble_eq_true rfl) rfl ew_1483 ?_
        refine eg_iload_n (i := 1) 1 dX13_witness_44 rfl rfl ?_
        replace hF := eg_bind hF; obtain ⟨h18, e19, hF⟩ := hF
        refine eg_iast dX13_witness_45 e19 ?_
        refine eg_aload_n (i := 0) 0 dX13_witness_46 rfl rfl ?_
        replace hF := eg_bind hF; obtain ⟨p20, e21, hF⟩ := hF
        refine eg_getR dX13_witness_47 e21 (Nat.le_of_ble_eq_true rfl) (Nat.le_of_ble_eq_true rfl) rfl ew_1481 ?_
        refine eg_aload_n (i := 0) 0 dX13_witness_50 rfl rfl ?_
        replace hF := eg_bind hF; obtain ⟨v22, e23, hF⟩ := hF
        refine eg_getI dX13_witness_51 e23 (Nat.le_of_ble_eq_true rfl) (Nat.le_of_ble_eq_true rfl) rfl ew_1483 ?_
        refine eg_iload_n (i := 2) 2 dX13_witness_54 rfl rfl ?_
        replace hF := eg_bind hF; obtain ⟨h24, e25, hF⟩ := hF
        refine eg_iast dX13_witness_55 e25 ?_
        refine eg_aload_n (i := 0) 0 dX13_witness_56 rfl rfl ?_
        replace hF := eg_bind hF; obtain ⟨p26, e27, hF⟩ := hF
        refine eg_getR dX13_witness_57 e27 (Nat.le_of_ble_eq_true rfl) (Nat.le_of_ble_eq_true rfl) rfl ew_1482 ?_
        refine eg_aload_n (i := 0) 0 dX13_witness_60 rfl rfl ?_
        replace hF := eg_bind hF; obtain ⟨v28, e29, hF⟩ := hF
        refine eg_getI dX13_witness_61 e29 (Nat.le_of_ble_eq_true rfl) (Nat.le_of_ble_eq_true rfl) rfl ew_1483 ?_
        refine eg_iload_n (i := 3) 3 dX13_witness_64 rfl rfl ?_
        replace hF := eg_bind hF; obtain ⟨h30, e31, hF⟩ := hF
        refine eg_zast dX13_witness_65 e31 ?_
        refine eg_aload_n (i := 0) 0 dX13_witness_66 rfl rfl ?_
        refine eg_dup dX13_witness_67 rfl ?_
        replace hF := eg_bind hF; obtain ⟨v32, e33, hF⟩ := hF
        refine eg_getI dX13_witness_68 e33 (Nat.le_of_ble_eq_true rfl) (Nat.le_of_ble_eq_true rfl) rfl ew_1483 ?_
        refine eg_iconst (v := (1 : Int32)) dX13_witness_71 (by decide) ?_
        refine eg_iadd dX13_witness_72 ?_
        replace hF := eg_bind hF; obtain ⟨h34, e35, hF⟩ := hF
        refine eg_putI dX13_witness_73 e35 (Nat.le_of_ble_eq_true rfl) (Nat.le_of_ble_eq_true rfl) rfl ew_1483 (Or.inl rfl) ?_
        refine eg_aload_n (i := 0) 0 dX13_witness_76 rfl rfl ?_
        replace hF := eg_bind hF; obtain ⟨v36, e37, hF⟩ := hF
        refine eg_getI dX13_witness_77 e37 (Nat.le_of_ble_eq_true rfl) (Nat.le_of_ble_eq_true rfl) rfl ew_1483 ?_
        exact eg_iretE dX13_witness_80 hF
theorem dX13_strong_0 : decode cX13_strong 0 = .ok (.aload_n 0, 1) := by decide +kernel
theorem dX13_strong_1 : decode cX13_strong 1 = .ok (.iconst 0, 1) := by decide +kernel
theorem dX13_strong_2 : decode cX13_strong 2 = .ok (.putfield 148, 3) := by decide +kernel
theorem dX13_strong_5 : decode cX13_strong 5 = .ok (.aload_n 0, 1) := by decide +kernel
theorem dX13_strong_6 : decode cX13_strong 6 = .ok (.iload_n 1, 1) := by decide +kernel
theorem dX13_strong_7 : decode cX13_strong 7 = .ok (.invokevirtual 356, 3) := by decide +kernel
theorem dX13_strong_10 : decode cX13_strong 10 = .ok (.ifCond .eq 15, 3) := by decide +kernel
theorem dX13_strong_13 : decode cX13_strong 13 = .ok (.iload_n 2, 1) := by decide +kernel
theorem dX13_strong_14 : decode cX13_strong 14 = .ok (.i2l, 1) := by decide +kernel
theorem dX13_strong_15 : decode cX13_strong 15 = .ok (.lconst 0, 1) := by decide +kernel
theorem dX13_strong_16 : decode cX13_strong 16 = .ok (.ldc2_w 316, 3) := by decide +kernel
theorem dX13_strong_19 : decode cX13_strong 19 = .ok (.invokestatic 269, 3) := by decide +kernel
theorem dX13_strong_22 : decode cX13_strong 22 = .ok (.ifCond .ne 7, 3) := by decide +kernel
theorem dX13_strong_25 : decode cX13_strong 25 = .ok (.ldc_w 368, 3) := by decide +kernel
theorem dX13_strong_28 : decode cX13_strong 28 = .ok (.ireturn, 1) := by decide +kernel
theorem dX13_strong_29 : decode cX13_strong 29 = .ok (.aload_n 0, 1) := by decide +kernel
theorem dX13_strong_30 : decode cX13_strong 30 = .ok (.getfield 49, 3) := by decide +kernel
theorem dX13_strong_33 : decode cX13_strong 33 = .ok (.iconst 2, 1) := by decide +kernel
theorem dX13_strong_34 : decode cX13_strong 34 = .ok (.iload_n 1, 1) := by decide +kernel
theorem dX13_strong_35 : decode cX13_strong 35 = .ok (.imul, 1) := by decide +kernel
theorem dX13_strong_36 : decode cX13_strong 36 = .ok (.iaload, 1) := by decide +kernel
theorem dX13_strong_37 : decode cX13_strong 37 = .ok (.istore_n 3, 1) := by decide +kernel
theorem dX13_strong_38 : decode cX13_strong 38 = .ok (.iconst 0, 1) := by decide +kernel
theorem dX13_strong_39 : decode cX13_strong 39 = .ok (.istore 4, 2) := by decide +kernel
theorem dX13_strong_41 : decode cX13_strong 41 = .ok (.iconst (-1), 1) := by decide +kernel
theorem dX13_strong_42 : decode cX13_strong 42 = .ok (.istore 5, 2) := by decide +kernel
theorem dX13_strong_44 : decode cX13_strong 44 = .ok (.iconst (-1), 1) := by decide +kernel
theorem dX13_strong_45 : decode cX13_strong 45 = .ok (.istore 6, 2) := by decide +kernel
theorem dX13_strong_47 : decode cX13_strong 47 = .ok (.iconst 1, 1) := by decide +kernel
theorem dX13_strong_48 : decode cX13_strong 48 = .ok (.istore 7, 2) := by decide +kernel
theorem dX13_strong_50 : decode cX13_strong 50 = .ok (.iload 7, 2) := by decide +kernel
theorem dX13_strong_52 : decode cX13_strong 52 = .ok (.bipush 100, 2) := by decide +kernel
theorem dX13_strong_54 : decode cX13_strong 54 = .ok (.if_icmp .ge 115, 3) := by decide +kernel
theorem dX13_strong_57 : decode cX13_strong 57 = .ok (.aload_n 0, 1) := by decide +kernel
theorem dX13_strong_58 : decode cX13_strong 58 = .ok (.getfield 49, 3) := by decide +kernel
theorem dX13_strong_61 : decode cX13_strong 61 = .ok (.iconst 2, 1) := by decide +kernel
theorem dX13_strong_62 : decode cX13_strong 62 = .ok (.iload_n 1, 1) := by decide +kernel
theorem dX13_strong_63 : decode cX13_strong 63 = .ok (.imul, 1) := by decide +kernel
theorem dX13_strong_64 : decode cX13_strong 64 = .ok (.iload 7, 2) := by decide +kernel
theorem dX13_strong_66 : decode cX13_strong 66 = .ok (.iastore, 1) := by decide +kernel
theorem dX13_strong_67 : decode cX13_strong 67 = .ok (.iconst 1, 1) := by decide +kernel
theorem dX13_strong_68 : decode cX13_strong 68 = .ok (.istore 8, 2) := by decide +kernel
theorem dX13_strong_70 : decode cX13_strong 70 = .ok (.iconst 0, 1) := by decide +kernel
theorem dX13_strong_71 : decode cX13_strong 71 = .ok (.istore 9, 2) := by decide +kernel
theorem dX13_strong_73 : decode cX13_strong 73 = .ok (.iload 9, 2) := by decide +kernel
theorem dX13_strong_75 : decode cX13_strong 75 = .ok (.aload_n 0, 1) := by decide +kernel
theorem dX13_strong_76 : decode cX13_strong 76 = .ok (.getfield 341, 3) := by decide +kernel
theorem dX13_strong_79 : decode cX13_strong 79 = .ok (.if_icmp .ge 54, 3) := by decide +kernel
theorem dX13_strong_82 : decode cX13_strong 82 = .ok (.iload 8, 2) := by decide +kernel
theorem dX13_strong_84 : decode cX13_strong 84 = .ok (.ifCond .eq 40, 3) := by decide +kernel
theorem dX13_strong_87 : decode cX13_strong 87 = .ok (.aload_n 0, 1) := by decide +kernel
theorem dX13_strong_88 : decode cX13_strong 88 = .ok (.getfield 82, 3) := by decide +kernel
theorem dX13_strong_91 : decode cX13_strong 91 = .ok (.iload 9, 2) := by decide +kernel
theorem dX13_strong_93 : decode cX13_strong 93 = .ok (.iaload, 1) := by decide +kernel
theorem dX13_strong_94 : decode cX13_strong 94 = .ok (.iload_n 1, 1) := by decide +kernel
theorem dX13_strong_95 : decode cX13_strong 95 = .ok (.if_icmp .ne 25, 3) := by decide +kernel
theorem dX13_strong_98 : decode cX13_strong 98 = .ok (.aload_n 0, 1) := by decide +kernel
theorem dX13_strong_99 : decode cX13_strong 99 = .ok (.iload_n 1, 1) := by decide +kernel
theorem dX13_strong_100 : decode cX13_strong 100 = .ok (.aload_n 0, 1) := by decide +kernel
theorem dX13_strong_101 : decode cX13_strong 101 = .ok (.getfield 85, 3) := by decide +kernel
theorem dX13_strong_104 : decode cX13_strong 104 = .ok (.iload 9, 2) := by decide +kernel
theorem dX13_strong_106 : decode cX13_strong 106 = .ok (.iaload, 1) := by decide +kernel
theorem dX13_strong_107 : decode cX13_strong 107 = .ok (.invokevirtual 392, 3) := by decide +kernel
theorem dX13_strong_110 : decode cX13_strong 110 = .ok (.aload_n 0, 1) := by decide +kernel
theorem dX13_strong_111 : decode cX13_strong 111 = .ok (.getfield 88, 3) := by decide +kernel
theorem dX13_strong_114 : decode cX13_strong 114 = .ok (.iload 9, 2) := by decide +kernel
theorem dX13_strong_116 : decode cX13_strong 116 = .ok (.baload, 1) := by decide +kernel
theorem dX13_strong_117 : decode cX13_strong 117 = .ok (.if_icmp .ne 7, 3) := by decide +kernel
theorem dX13_strong_120 : decode cX13_strong 120 = .ok (.iconst 1, 1) := by decide +kernel
theorem dX13_strong_121 : decode cX13_strong 121 = .ok (.goto 4, 3) := by decide +kernel
theorem dX13_strong_124 : decode cX13_strong 124 = .ok (.iconst 0, 1) := by decide +kernel
theorem dX13_strong_125 : decode cX13_strong 125 = .ok (.istore 8, 2) := by decide +kernel
theorem dX13_strong_127 : decode cX13_strong 127 = .ok (.iinc 9 1, 3) := by decide +kernel
theorem dX13_strong_130 : decode cX13_strong 130 = .ok (.goto (-57), 3) := by decide +kernel
theorem dX13_strong_133 : decode cX13_strong 133 = .ok (.iload 8, 2) := by decide +kernel
theorem dX13_strong_135 : decode cX13_strong 135 = .ok (.ifCond .ne 6, 3) := by decide +kernel
theorem dX13_strong_138 : decode cX13_strong 138 = .ok (.goto 25, 3) := by decide +kernel
theorem dX13_strong_141 : decode cX13_strong 141 = .ok (.iinc 4 1, 3) := by decide +kernel
theorem dX13_strong_144 : decode cX13_strong 144 = .ok (.iload 5, 2) := by decide +kernel
theorem dX13_strong_146 : decode cX13_strong 146 = .ok (.iconst (-1), 1) := by decide +kernel
theorem dX13_strong_147 : decode cX13_strong 147 = .ok (.if_icmp .ne 8, 3) := by decide +kernel
theorem dX13_strong_150 : decode cX13_strong 150 = .ok (.iload 7, 2) := by decide +kernel
theorem dX13_strong_152 : decode cX13_strong 152 = .ok (.goto 5, 3) := by decide +kernel
theorem dX13_strong_155 : decode cX13_strong 155 = .ok (.iload 5, 2) := by decide +kernel
theorem dX13_strong_157 : decode cX13_strong 157 = .ok (.istore 5, 2) := by decide +kernel
theorem dX13_strong_159 : decode cX13_strong 159 = .ok (.iload 7, 2) := by decide +kernel
theorem dX13_strong_161 : decode cX13_strong 161 = .ok (.istore 6, 2) := by decide +kernel
theorem dX13_strong_163 : decode cX13_strong 163 = .ok (.iinc 7 1, 3) := by decide +kernel
theorem dX13_strong_166 : decode cX13_strong 166 = .ok (.goto (-116), 3) := by decide +kernel
theorem dX13_strong_169 : decode cX13_strong 169 = .ok (.aload_n 0, 1) := by decide +kernel
theorem dX13_strong_170 : decode cX13_strong 170 = .ok (.getfield 49, 3) := by decide +kernel
theorem dX13_strong_173 : decode cX13_strong 173 = .ok (.iconst 2, 1) := by decide +kernel
theorem dX13_strong_174 : decode cX13_strong 174 = .ok (.iload_n 1, 1) := by decide +kernel
theorem dX13_strong_175 : decode cX13_strong 175 = .ok (.imul, 1) := by decide +kernel
theorem dX13_strong_176 : decode cX13_strong 176 = .ok (.iload_n 3, 1) := by decide +kernel
theorem dX13_strong_177 : decode cX13_strong 177 = .ok (.iastore, 1) := by decide +kernel
theorem dX13_strong_178 : decode cX13_strong 178 = .ok (.iload_n 2, 1) := by decide +kernel
theorem dX13_strong_179 : decode cX13_strong 179 = .ok (.ifCond .ne 8, 3) := by decide +kernel
theorem dX13_strong_182 : decode cX13_strong 182 = .ok (.iload 4, 2) := by decide +kernel
theorem dX13_strong_184 : decode cX13_strong 184 = .ok (.goto 15, 3) := by decide +kernel
theorem dX13_strong_187 : decode cX13_strong 187 = .ok (.iload_n 2, 1) := by decide +kernel
theorem dX13_strong_188 : decode cX13_strong 188 = .ok (.iconst 1, 1) := by decide +kernel
theorem dX13_strong_189 : decode cX13_strong 189 = .ok (.if_icmp .ne 8, 3) := by decide +kernel
theorem dX13_strong_192 : decode cX13_strong 192 = .ok (.iload 5, 2) := by decide +kernel
theorem dX13_strong_194 : decode cX13_strong 194 = .ok (.goto 5, 3) := by decide +kernel
theorem dX13_strong_197 : decode cX13_strong 197 = .ok (.iload 6, 2) := by decide +kernel
theorem dX13_strong_199 : decode cX13_strong 199 = .ok (.ireturn, 1) := by decide +kernel
def fX13_strong_L73 : Nat → eg_H → Nat → Int32 → Int32 → Int32 → Int32 → Int32 → Int32 → Int32 → Int32 → Int32 → Option (Nat × Int32 × Int32 × Int32 × Int32 × Int32 × Int32 × Int32 × Int32 × eg_H)
  | 0, _, _, _, _, _, _, _, _, _, _, _ => none
  | n + 1, h, l0, l1, l2, l3, l4, l5, l6, l7, l8, l9 =>
    (eg_gI h 13 49 l0).bind fun v1 =>
    if v1 ≤ l9 then
      (some (l0, l1, l2, l3, l4, l5, l6, l7, l8, h))
    else
      if l8 = 0 then
        (fX13_strong_L73 n h l0 l1 l2 l3 l4 l5 l6 l7 (0 : Int32) (l9 + (1 : Int32)))
      else
        (eg_gR h 13 46 l0).bind fun p5 =>
        (eg_aI h 100 p5 l9).bind fun v7 =>
        if v7 = l1 then
          ((eg_gR h 13 47 l0).bind fun p10 =>
          (eg_aI h 100 p10 l9).bind fun v12 =>
          (fX13_bears h l0 l1 v12).bind fun ⟨v15, h14⟩ =>
          (eg_gR h14 13 48 l0).bind fun p17 =>
          (eg_aI h14 103 p17 l9).bind fun v19 =>
          if v15 = v19 then
            (fX13_strong_L73 n h14 l0 l1 l2 l3 l4 l5 l6 l7 (1 : Int32) (l9 + (1 : Int32)))
          else
            fX13_strong_L73 n h14 l0 l1 l2 l3 l4 l5 l6 l7 (0 : Int32) (l9 + (1 : Int32)))
        else
          fX13_strong_L73 n h l0 l1 l2 l3 l4 l5 l6 l7 (1 : Int32) (l9 + (1 : Int32))
set_option maxRecDepth 20000 in
theorem fX13_strong_L73_ok {h0 : eg_H} {Z : eg_C → State → Prop} {N S : Nat} : ∀ (n : Nat) (h : eg_H) (l0 : Nat) (l1 : Int32) (l2 : Int32) (l3 : Int32) (l4 : Int32) (l5 : Int32) (l6 : Int32) (l7 : Int32) (l8 : Int32) (l9 : Int32) (eE : Nat × Int32 × Int32 × Int32 × Int32 × Int32 × Int32 × Int32 × Int32 × eg_H), fX13_strong_L73 n h l0 l1 l2 l3 l4 l5 l6 l7 l8 l9 = some eE → (hk0 : ∀ (l0 : Nat) (l1 : Int32) (l2 : Int32) (l3 : Int32) (l4 : Int32) (l5 : Int32) (l6 : Int32) (l7 : Int32) (l8 : Int32) (h : eg_H), eE = (l0, l1, l2, l3, l4, l5, l6, l7, l8, h) → eg_AW (RX13, cX13_strong, 10, 2, none, "strong", (some .int)) Z N S h0 133 [(0, .ref l0), (1, .int l1), (2, .int l2), (3, .int l3), (4, .int l4), (5, .int l5), (6, .int l6), (7, .int l7), (8, .int l8)] [] h) → eg_AW (RX13, cX13_strong, 10, 2, none, "strong", (some .int)) Z N S h0 73 [(0, .ref l0), (1, .int l1), (2, .int l2), (3, .int l3), (4, .int l4), (5, .int l5), (6, .int l6), (7, .int l7), (8, .int l8), (9, .int l9)] [] h := by
  intro n
  induction n with
  | zero => intro h l0 l1 l2 l3 l4 l5 l6 l7 l8 l9 eE hF; exact absurd hF (by intro q; cases q)
  | succ n ih =>
    intro h l0 l1 l2 l3 l4 l5 l6 l7 l8 l9 eE hF hk0
    have hrec := fun (h' : eg_H) (l0 : Nat) (l1 : Int32) (l2 : Int32) (l3 : Int32) (l4 : Int32) (l5 : Int32) (l6 : Int32) (l7 : Int32) (l8 : Int32) (l9 : Int32) hq => ih h' l0 l1 l2 l3 l4 l5 l6 l7 l8 l9 eE hq hk0
    refine eg_iload (i := 9) 9 dX13_strong_73 rfl ?_
    refine eg_aload_n (i := 0) 0 dX13_strong_75 rfl rfl ?_
    replace hF := eg_bind hF; obtain ⟨v1, e2, hF⟩ := hF
    refine eg_getI dX13_strong_76 e2 (Nat.le_of_ble_eq_true rfl) (Nat.le_of_ble_eq_true rfl) rfl ew_1483 ?_
    refine eg_ic_ge 133 dX13_strong_79 rfl (fun c3 => ?_) (fun c3 => ?_)
    · replace hF := eg_it c3 hF
      exact eg_sub [0, 1, 2, 3, 4, 5, 6, 7, 8] [(0, .ref l0), (1, .int l1), (2, .int l2), (3, .int l3), (4, .int l4), (5, .int l5), (6, .int l6), (7, .int l7), (8, .int l8)] rfl (hk0 l0 l1 l2 l3 l4 l5 l6 l7 l8 h (Option.some.inj hF).symm)
    · replace hF := eg_if c3 hF
      refine eg_iload (i := 8) 8 dX13_strong_82 rfl ?_
      refine eg_if_eq 124 dX13_strong_84 rfl (fun c4 => ?_) (fun c4 => ?_)
      · replace hF := eg_it c4 hF
        refine eg_iconst (v := (0 : Int32)) dX13_strong_124 (by decide) ?_
        refine eg_istore (i := 8) [(8, .int (0 : Int32)), (0, .ref l0), (1, .int l1), (2, .int l2), (3, .int l3), (4, .int l4), (5, .int l5), (6, .int l6), (7, .int l7), (9, .int l9)] dX13_strong_125 (Nat.le_of_ble_eq_true rfl) rfl ?_
        refine eg_iinc (i := 9) (v := (l9 + (1 : Int32))) 9 [(9, .int (l9 + (1 : Int32))), (8, .int (0 : Int32)), (0, .ref l0), (1, .int l1), (2, .int l2), (3, .int l3), (4, .int l4), (5, .int l5), (6, .int l6), (7, .int l7)] dX13_strong_127 rfl rfl (Nat.le_of_ble_eq_true rfl) rfl ?_
        refine eg_goto 73 dX13_strong_130 rfl ?_
        exact eg_sub [2, 3, 4, 5, 6, 7, 8, 9, 1, 0] [(0, .ref l0), (1, .int l1), (2, .int l2), (3, .int l3), (4, .int l4), (5, .int l5), (6, .int l6), (7, .int l7), (8, .int (0 : Int32)), (9, .int (l9 + (1 : Int32)))] rfl (hrec h l0 l1 l2 l3 l4 l5 l6 l7 (0 : Int32) (l9 + (1 : Int32)) hF)
      · replace hF := eg_if c4 hF
        refine eg_aload_n (i := 0) 0 dX13_strong_87 rfl rfl ?_
        replace hF := eg_bind hF; obtain ⟨p5, e6, hF⟩ := hF
        refine eg_getR dX13_strong_88 e6 (Nat.le_of_ble_eq_true rfl) (Nat.le_of_ble_eq_true rfl) rfl ew_1480 ?_
        refine eg_iload (i := 9) 9 dX13_strong_91 rfl ?_
        replace hF := eg_bind hF; obtain ⟨v7, e8, hF⟩ := hF
        refine eg_iald dX13_strong_93 e8 ?_
        refine eg_iload_n (i := 1) 1 dX13_strong_94 rfl rfl ?_
        refine eg_ic_ne 120 dX13_strong_95 rfl (fun c9 => ?_) (fun c9 => ?_)
        · replace hF := eg_it c9 hF
          refine eg_aload_n (i := 0) 0 dX13_strong_98 rfl rfl ?_
          refine eg_iload_n (i := 1) 1 dX13_strong_99 rfl rfl ?_
          refine eg_aload_n (i := 0) 0 dX13_strong_100 rfl rfl ?_
          replace hF := eg_bind hF; obtain ⟨p10, e11, hF⟩ := hF
          refine eg_getR dX13_strong_101 e11 (Nat.le_of_ble_eq_true rfl) (Nat.le_of_ble_eq_true rfl) rfl ew_1481 ?_
          refine eg_iload (i := 9) 9 dX13_strong_104 rfl ?_
          replace hF := eg_bind hF; obtain ⟨v12, e13, hF⟩ := hF
          refine eg_iald dX13_strong_106 e13 ?_
          replace hF := eg_bind hF; obtain ⟨⟨v15, h14⟩, e16, hF⟩ := hF
          refine eg_callV (c := 13) (n := 2) [.int l1, .int v12] dX13_strong_107 (mX13_bears e16) rfl (fX13_bears_O e16) (Nat.le_of_ble_eq_true rfl) rfl ew_1949 ew_1951 ew_81 ew_110 ew_1952 hy_X13_bears rfl (Nat.le_of_ble_eq_true rfl) (Nat.le_of_ble_eq_true rfl) (Nat.le_of_ble_eq_true rfl) ?_
          refine eg_aload_n (i := 0) 0 dX13_strong_110 rfl rfl ?_
          replace hF := eg_bind hF; obtain ⟨p17, e18, hF⟩ := hF
          refine eg_getR dX13_strong_111 e18 (Nat.le_of_ble_eq_true rfl) (Nat.le_of_ble_eq_true rfl) rfl ew_1482 ?_
          refine eg_iload (i := 9) 9 dX13_strong_114 rfl ?_
          replace hF := eg_bind hF; obtain ⟨v19, e20, hF⟩ := hF
          refine eg_zald dX13_strong_116 e20 ?_
          refine eg_ic_ne 124 dX13_strong_117 rfl (fun c21 => ?_) (fun c21 => ?_)
          · replace hF := eg_it c21 hF
            refine eg_iconst (v := (1 : Int32)) dX13_strong_120 (by decide) ?_
            refine eg_goto 125 dX13_strong_121 rfl ?_
            refine eg_istore (i := 8) [(8, .int (1 : Int32)), (0, .ref l0), (1, .int l1), (2, .int l2), (3, .int l3), (4, .int l4), (5, .int l5), (6, .int l6), (7, .int l7), (9, .int l9)] dX13_strong_125 (Nat.le_of_ble_eq_true rfl) rfl ?_
            refine eg_iinc (i := 9) (v := (l9 + (1 : Int32))) 9 [(9, .int (l9 + (1 : Int32))), (8, .int (1 : Int32)), (0, .ref l0), (1, .int l1), (2, .int l2), (3, .int l3), (4, .int l4), (5, .int l5), (6, .int l6), (7, .int l7)] dX13_strong_127 rfl rfl (Nat.le_of_ble_eq_true rfl) rfl ?_
            refine eg_goto 73 dX13_strong_130 rfl ?_
            exact eg_sub [2, 3, 4, 5, 6, 7, 8, 9, 1, 0] [(0, .ref l0), (1, .int l1), (2, .int l2), (3, .int l3), (4, .int l4), (5, .int l5), (6, .int l6), (7, .int l7), (8, .int (1 : Int32)), (9, .int (l9 + (1 : Int32)))] rfl (hrec h14 l0 l1 l2 l3 l4 l5 l6 l7 (1 : Int32) (l9 + (1 : Int32)) hF)
          · replace hF := eg_if c21 hF
            refine eg_iconst (v := (0 : Int32)) dX13_strong_124 (by decide) ?_
            refine eg_istore (i := 8) [(8, .int (0 : Int32)), (0, .ref l0), (1, .int l1), (2, .int l2), (3, .int l3), (4, .int l4), (5, .int l5), (6, .int l6), (7, .int l7), (9, .int l9)] dX13_strong_125 (Nat.le_of_ble_eq_true rfl) rfl ?_
            refine eg_iinc (i := 9) (v := (l9 + (1 : Int32))) 9 [(9, .int (l9 + (1 : Int32))), (8, .int (0 : Int32)), (0, .ref l0), (1, .int l1), (2, .int l2), (3, .int l3), (4, .int l4), (5, .int l5), (6, .int l6), (7, .int l7)] dX13_strong_127 rfl rfl (Nat.le_of_ble_eq_true rfl) rfl ?_
            refine eg_goto 73 dX13_strong_130 rfl ?_
            exact eg_sub [2, 3, 4, 5, 6, 7, 8, 9, 1, 0] [(0, .ref l0), (1, .int l1), (2, .int l2), (3, .int l3), (4, .int l4), (5, .int l5), (6, .int l6), (7, .int l7), (8, .int (0 : Int32)), (9, .int (l9 + (1 : Int32)))] rfl (hrec h14 l0 l1 l2 l3 l4 l5 l6 l7 (0 : Int32) (l9 + (1 : Int32)) hF)
        · replace hF := eg_if c9 hF
          refine eg_iconst (v := (1 : Int32)) dX13_strong_120 (by decide) ?_
          refine eg_goto 125 dX13_strong_121 rfl ?_
          refine eg_istore (i := 8) [(8, .int (1 : Int32)), (0, .ref l0), (1, .int l1), (2, .int l2), (3, .int l3), (4, .int l4), (5, .int l5), (6, .int l6), (7, .int l7), (9, .int l9)] dX13_strong_125 (Nat.le_of_ble_eq_true rfl) rfl ?_
          refine eg_iinc (i := 9) (v := (l9 + (1 : Int32))) 9 [(9, .int (l9 + (1 : Int32))), (8, .int (1 : Int32)), (0, .ref l0), (1, .int l1), (2, .int l2), (3, .int l3), (4, .int l4), (5, .int l5), (6, .int l6), (7, .int l7)] dX13_strong_127 rfl rfl (Nat.le_of_ble_eq_true rfl) rfl ?_
          refine eg_goto 73 dX13_strong_130 rfl ?_
          exact eg_sub [2, 3, 4, 5, 6, 7, 8, 9, 1, 0] [(0, .ref l0), (1, .int l1), (2, .int l2), (3, .int l3), (4, .int l4), (5, .int l5), (6, .int l6), (7, .int l7), (8, .int (1 : Int32)), (9, .int (l9 + (1 : Int32)))] rfl (hrec h l0 l1 l2 l3 l4 l5 l6 l7 (1 : Int32) (l9 + (1 : Int32)) hF)
def fX13_strong_L50 : Nat → eg_H → Nat → Int32 → Int32 → Int32 → Int32 → Int32 → Int32 → Int32 → Option (Nat × Int32 × Int32 × Int32 × Int32 × Int32 × Int32 × eg_H)
  | 0, _, _, _, _, _, _, _, _, _ => none
  | n + 1, h, l0, l1, l2, l3, l4, l5, l6, l7 =>
    if (100 : Int32) ≤ l7 then
      (some (l0, l1, l2, l3, l4, l5, l6, h))
    else
      (eg_gR h 13 22 l0).bind fun p2 =>
      (eg_wI h 100 p2 ((2 : Int32) * l1) l7).bind fun h4 =>
      (fX13_strong_L73 eg_F h4 l0 l1 l2 l3 l4 l5 l6 l7 (1 : Int32) (0 : Int32)).bind fun e =>
      match e with
      | (p8, v9, v10, v11, v12, v13, v14, v15, v16, h17) =>
        if v16 = 0 then
          (fX13_strong_L50 n h17 p8 v9 v10 v11 v12 v13 v14 (v15 + (1 : Int32)))
        else
          if v13 = (-1 : Int32) then
            (fX13_strong_L50 n h17 p8 v9 v10 v11 (v12 + (1 : Int32)) v15 v15 (v15 + (1 : Int32)))
          else
            fX13_strong_L50 n h17 p8 v9 v10 v11 (v12 + (1 : Int32)) v13 v15 (v15 + (1 : Int32))
set_option maxRecDepth 20000 in
theorem fX13_strong_L50_ok {h0 : eg_H} {Z : eg_C → State → Prop} {N S : Nat} : ∀ (n : Nat) (h : eg_H) (l0 : Nat) (l1 : Int32) (l2 : Int32) (l3 : Int32) (l4 : Int32) (l5 : Int32) (l6 : Int32) (l7 : Int32) (eE : Nat × Int32 × Int32 × Int32 × Int32 × Int32 × Int32 × eg_H), fX13_strong_L50 n h l0 l1 l2 l3 l4 l5 l6 l7 = some eE → (hk0 : ∀ (l0 : Nat) (l1 : Int32) (l2 : Int32) (l3 : Int32) (l4 : Int32) (l5 : Int32) (l6 : Int32) (h : eg_H), eE = (l0, l1, l2, l3, l4, l5, l6, h) → eg_AW (RX13, cX13_strong, 10, 2, none, "strong", (some .int)) Z N S h0 169 [(0, .ref l0), (1, .int l1), (2, .int l2), (3, .int l3), (4, .int l4), (5, .int l5), (6, .int l6)] [] h) → eg_AW (RX13, cX13_strong, 10, 2, none, "strong", (some .int)) Z N S h0 50 [(0, .ref l0), (1, .int l1), (2, .int l2), (3, .int l3), (4, .int l4), (5, .int l5), (6, .int l6), (7, .int l7)] [] h := by
  intro n
  induction n with
  | zero => intro h l0 l1 l2 l3 l4 l5 l6 l7 eE hF; exact absurd hF (by intro q; cases q)
  | succ n ih =>
    intro h l0 l1 l2 l3 l4 l5 l6 l7 eE hF hk0
    have hrec := fun (h' : eg_H) (l0 : Nat) (l1 : Int32) (l2 : Int32) (l3 : Int32) (l4 : Int32) (l5 : Int32) (l6 : Int32) (l7 : Int32) hq => ih h' l0 l1 l2 l3 l4 l5 l6 l7 eE hq hk0
    refine eg_iload (i := 7) 7 dX13_strong_50 rfl ?_
    refine eg_bipush (v := (100 : Int32)) dX13_strong_52 (by decide) ?_
    refine eg_ic_ge 169 dX13_strong_54 rfl (fun c1 => ?_) (fun c1 => ?_)
    · replace hF := eg_it c1 hF
      exact eg_sub [0, 1, 2, 3, 4, 5, 6] [(0, .ref l0), (1, .int l1), (2, .int l2), (3, .int l3), (4, .int l4), (5, .int l5), (6, .int l6)] rfl (hk0 l0 l1 l2 l3 l4 l5 l6 h (Option.some.inj hF).symm)
    · replace hF := eg_if c1 hF
      refine eg_aload_n (i := 0) 0 dX13_strong_57 rfl rfl ?_
      replace hF := eg_bind hF; obtain ⟨p2, e3, hF⟩ := hF
      refine eg_getR dX13_strong_58 e3 (Nat.le_of_ble_eq_true rfl) (Nat.le_of_ble_eq_true rfl) rfl ew_1456 ?_
      refine eg_iconst (v := (2 : Int32)) dX13_strong_61 (by decide) ?_
      refine eg_iload_n (i := 1) 1 dX13_strong_62 rfl rfl ?_
      refine eg_imul dX13_strong_63 ?_
      refine eg_iload (i := 7) 7 dX13_strong_64 rfl ?_
      replace hF := eg_bind hF; obtain ⟨h4, e5, hF⟩ := hF
      refine eg_iast dX13_strong_66 e5 ?_
      refine eg_iconst (v := (1 : Int32)) dX13_strong_67 (by decide) ?_
      refine eg_istore (i := 8) [(8, .int (1 : Int32)), (0, .ref l0), (1, .int l1), (2, .int l2), (3, .int l3), (4, .int l4), (5, .int l5), (6, .int l6), (7, .int l7)] dX13_strong_68 (Nat.le_of_ble_eq_true rfl) rfl ?_
      refine eg_iconst (v := (0 : Int32)) dX13_strong_70 (by decide) ?_
      refine eg_istore (i := 9) [(9, .int (0 : Int32)), (8, .int (1 : Int32)), (0, .ref l0), (1, .int l1), (2, .int l2), (3, .int l3), (4, .int l4), (5, .int l5), (6, .int l6), (7, .int l7)] dX13_strong_71 (Nat.le_of_ble_eq_true rfl) rfl ?_
      replace hF := eg_bind hF; obtain ⟨x7, e6, hF⟩ := hF
      refine eg_sub [2, 3, 4, 5, 6, 7, 8, 9, 1, 0] [(0, .ref l0), (1, .int l1), (2, .int l2), (3, .int l3), (4, .int l4), (5, .int l5), (6, .int l6), (7, .int l7), (8, .int (1 : Int32)), (9, .int (0 : Int32))] rfl (fX13_strong_L73_ok eg_F h4 l0 l1 l2 l3 l4 l5 l6 l7 (1 : Int32) (0 : Int32) x7 e6 ?_)
      · intro p8 v9 v10 v11 v12 v13 v14 v15 v16 h17 e20
        subst e20
        refine eg_iload (i := 8) 8 dX13_strong_133 rfl ?_
        refine eg_if_ne 141 dX13_strong_135 rfl (fun c18 => ?_) (fun c18 => ?_)
        · replace hF := eg_it c18 hF
          refine eg_goto 163 dX13_strong_138 rfl ?_
          refine eg_iinc (i := 7) (v := (v15 + (1 : Int32))) 7 [(7, .int (v15 + (1 : Int32))), (0, .ref p8), (1, .int v9), (2, .int v10), (3, .int v11), (4, .int v12), (5, .int v13), (6, .int v14), (8, .int v16)] dX13_strong_163 rfl rfl (Nat.le_of_ble_eq_true rfl) rfl ?_
          refine eg_goto 50 dX13_strong_166 rfl ?_
          exact eg_sub [1, 2, 3, 4, 5, 6, 7, 0] [(0, .ref p8), (1, .int v9), (2, .int v10), (3, .int v11), (4, .int v12), (5, .int v13), (6, .int v14), (7, .int (v15 + (1 : Int32)))] rfl (hrec h17 p8 v9 v10 v11 v12 v13 v14 (v15 + (1 : Int32)) hF)
        · replace hF := eg_if c18 hF
          refine eg_iinc (i := 4) (v := (v12 + (1 : Int32))) 4 [(4, .int (v12 + (1 : Int32))), (0, .ref p8), (1, .int v9), (2, .int v10), (3, .int v11), (5, .int v13), (6, .int v14), (7, .int v15), (8, .int v16)] dX13_strong_141 rfl rfl (Nat.le_of_ble_eq_true rfl) rfl ?_
          refine eg_iload (i := 5) 5 dX13_strong_144 rfl ?_
          refine eg_iconst (v := (-1 : Int32)) dX13_strong_146 (by decide) ?_
          refine eg_ic_ne 155 dX13_strong_147 rfl (fun c19 => ?_) (fun c19 => ?_)
          · replace hF := eg_it c19 hF
            refine eg_iload (i := 7) 7 dX13_strong_150 rfl ?_
            refine eg_goto 157 dX13_strong_152 rfl ?_
            refine eg_istore (i := 5) [(5, .int v15), (4, .int (v12 + (1 : Int32))), (0, .ref p8), (1, .int v9), (2, .int v10), (3, .int v11), (6, .int v14), (7, .int v15), (8, .int v16)] dX13_strong_157 (Nat.le_of_ble_eq_true rfl) rfl ?_
            refine eg_iload (i := 7) 7 dX13_strong_159 rfl ?_
            refine eg_istore (i := 6) [(6, .int v15), (5, .int v15), (4, .int (v12 + (1 : Int32))), (0, .ref p8), (1, .int v9), (2, .int v10), (3, .int v11), (7, .int v15), (8, .int v16)] dX13_strong_161 (Nat.le_of_ble_eq_true rfl) rfl ?_
            refine eg_iinc (i := 7) (v := (v15 + (1 : Int32))) 7 [(7, .int (v15 + (1 : Int32))), (6, .int v15), (5, .int v15), (4, .int (v12 + (1 : Int32))), (0, .ref p8), (1, .int v9), (2, .int v10), (3, .int v11), (8, .int v16)] dX13_strong_163 rfl rfl (Nat.le_of_ble_eq_true rfl) rfl ?_
            refine eg_goto 50 dX13_strong_166 rfl ?_
            exact eg_sub [4, 5, 6, 7, 3, 2, 1, 0] [(0, .ref p8), (1, .int v9), (2, .int v10), (3, .int v11), (4, .int (v12 + (1 : Int32))), (5, .int v15), (6, .int v15), (7, .int (v15 + (1 : Int32)))] rfl (hrec h17 p8 v9 v10 v11 (v12 + (1 : Int32)) v15 v15 (v15 + (1 : Int32)) hF)
          · replace hF := eg_if c19 hF
            refine eg_iload (i := 5) 5 dX13_strong_155 rfl ?_
            refine eg_istore (i := 5) [(5, .int v13), (4, .int (v12 + (1 : Int32))), (0, .ref p8), (1, .int v9), (2, .int v10), (3, .int v11), (6, .int v14), (7, .int v15), (8, .int v16)] dX13_strong_157 (Nat.le_of_ble_eq_true rfl) rfl ?_
            refine eg_iload (i := 7) 7 dX13_strong_159 rfl ?_
            refine eg_istore (i := 6) [(6, .int v15), (5, .int v13), (4, .int (v12 + (1 : Int32))), (0, .ref p8), (1, .int v9), (2, .int v10), (3, .int v11), (7, .int v15), (8, .int v16)] dX13_strong_161 (Nat.le_of_ble_eq_true rfl) rfl ?_
            refine eg_iinc (i := 7) (v := (v15 + (1 : Int32))) 7 [(7, .int (v15 + (1 : Int32))), (6, .int v15), (5, .int v13), (4, .int (v12 + (1 : Int32))), (0, .ref p8), (1, .int v9), (2, .int v10), (3, .int v11), (8, .int v16)] dX13_strong_163 rfl rfl (Nat.le_of_ble_eq_true rfl) rfl ?_
            refine eg_goto 50 dX13_strong_166 rfl ?_
            exact eg_sub [4, 5, 6, 7, 3, 2, 1, 0] [(0, .ref p8), (1, .int v9), (2, .int v10), (3, .int v11), (4, .int (v12 + (1 : Int32))), (5, .int v13), (6, .int v15), (7, .int (v15 + (1 : Int32)))] rfl (hrec h17 p8 v9 v10 v11 (v12 + (1 : Int32)) v13 v15 (v15 + (1 : Int32)) hF)
def fX13_strong (h : eg_H) (l0 : Nat) (l1 : Int32) (l2 : Int32) : Option (Int32 × eg_H) :=
  if eg_isO h 13 l0 then (
    (eg_pI h 13 0 l0 (0 : Int32)).bind fun h1 =>
    (fX13_isEgg h1 l0 l1).bind fun ⟨v4, h3⟩ =>
    if v4 = 0 then
      (some ((-1000000 : Int32), h3))
    else
      (fX13_isIn h3 l2.toInt64 (0 : Int64) (2 : Int64)).bind fun ⟨v8, h7⟩ =>
      if v8 = 0 then
        (some ((-1000000 : Int32), h7))
      else
        (eg_gR h7 13 22 l0).bind fun p11 =>
        (eg_aI h7 100 p11 ((2 : Int32) * l1)).bind fun v13 =>
        (fX13_strong_L50 eg_F h7 l0 l1 l2 v13 (0 : Int32) (-1 : Int32) (-1 : Int32) (1 : Int32)).bind fun e =>
        match e with
        | (p17, v18, v19, v20, v21, v22, v23, h24) =>
          (eg_gR h24 13 22 p17).bind fun p25 =>
          (eg_wI h24 100 p25 ((2 : Int32) * v18) v20).bind fun h27 =>
          if v19 = 0 then
            (some (v21, h27))
          else
            if v19 = (1 : Int32) then
              (some (v22, h27))
            else
              some (v23, h27)) else none
theorem fX13_strong_O {h : eg_H} {l0 : Nat} {l1 : Int32} {l2 : Int32} {rE : Int32} {hE : eg_H} (hF : fX13_strong h l0 l1 l2 = some (rE, hE)) : eg_isO h 13 l0 := (eg_ifn hF).1
set_option maxRecDepth 20000 in
theorem mX13_strong {h : eg_H} {l0 : Nat} {l1 : Int32} {l2 : Int32} {rE : Int32} {hE : eg_H} (hF : fX13_strong h l0 l1 l2 = some (rE, hE)) : eg_Met yX13_strong cX13_strong 10 (some .int) 2 [.ref l0, .int l1, .int l2] h (some (.int rE)) hE := by
  refine eg_enter rfl (Nat.le_of_ble_eq_true rfl) ?_
  show eg_AW (RX13, cX13_strong, 10, 2, none, "strong", (some .int)) (eg_Zm (some (.int rE)) hE h) (eg_nc hE) (eg_ns hE) h 0 [(0, .ref l0), (1, .int l1), (2, .int l2)] [] h
  replace hF := (eg_ifn hF).2
  refine eg_aload_n (i := 0) 0 dX13_strong_0 rfl rfl ?_
  refine eg_iconst (v := (0 : Int32)) dX13_strong_1 (by decide) ?_
  replace hF := eg_bind hF; obtain ⟨h1, e2, hF⟩ := hF
  refine eg_putI dX13_strong_2 e2 (Nat.le_of_ble_eq_true rfl) (Nat.le_of_ble_eq_true rfl) rfl ew_1434 (Or.inl rfl) ?_
  refine eg_aload_n (i := 0) 0 dX13_strong_5 rfl rfl ?_
  refine eg_iload_n (i := 1) 1 dX13_strong_6 rfl rfl ?_
  replace hF := eg_bind hF; obtain ⟨⟨v4, h3⟩, e5, hF⟩ := hF
  refine eg_callV (c := 13) (n := 1) [.int l1] dX13_strong_7 (mX13_isEgg e5) rfl (fX13_isEgg_O e5) (Nat.le_of_ble_eq_true rfl) rfl ew_1881 ew_1883 ew_72 ew_110 ew_1884 hy_X13_isEgg rfl (Nat.le_of_ble_eq_true rfl) (Nat.le_of_ble_eq_true rfl) (Nat.le_of_ble_eq_true rfl) ?_
  refine eg_if_eq 25 dX13_strong_10 rfl (fun c6 => ?_) (fun c6 => ?_)
  · replace hF := eg_it c6 hF
    refine eg_ldcw (v := (-1000000 : Int32)) dX13_strong_25 ew_1899 ?_
    exact eg_iretE dX13_strong_28 hF
  · replace hF := eg_if c6 hF
    refine eg_iload_n (i := 2) 2 dX13_strong_13 rfl rfl ?_
    refine eg_i2l dX13_strong_14 ?_
    refine eg_lconst (v := (0 : Int64)) dX13_strong_15 (by decide) ?_
    refine eg_ldc2 (v := (2 : Int64)) dX13_strong_16 ew_1696 ?_
    replace hF := eg_bind hF; obtain ⟨⟨v8, h7⟩, e9, hF⟩ := hF
    refine eg_callS (n := 3) [.long l2.toInt64, .long (0 : Int64), .long (2 : Int64)] dX13_strong_19 (mX13_isIn e9) rfl ew_1697 ew_1698 ew_110 ew_1699 hy_X13_isIn.2 rfl (Nat.le_of_ble_eq_true rfl) (Nat.le_of_ble_eq_true rfl) (Nat.le_of_ble_eq_true rfl) ?_
    refine eg_if_ne 29 dX13_strong_22 rfl (fun c10 => ?_) (fun c10 => ?_)
    · replace hF := eg_it c10 hF
      refine eg_ldcw (v := (-1000000 : Int32)) dX13_strong_25 ew_1899 ?_
      exact eg_iretE dX13_strong_28 hF
    · replace hF := eg_if c10 hF
      refine eg_aload_n (i := 0) 0 dX13_strong_29 rfl rfl ?_
      replace hF := eg_bind hF; obtain ⟨p11, e12, hF⟩ := hF
      refine eg_getR dX13_strong_30 e12 (Nat.le_of_ble_eq_true rfl) (Nat.le_of_ble_eq_true rfl) rfl ew_1456 ?_
      refine eg_iconst (v := (2 : Int32)) dX13_strong_33 (by decide) ?_
      refine eg_iload_n (i := 1) 1 dX13_strong_34 rfl rfl ?_
      refine eg_imul dX13_strong_35 ?_
      replace hF := eg_bind hF; obtain ⟨v13, e14, hF⟩ := hF
      refine eg_iald dX13_strong_36 e14 ?_
      refine eg_istore_n (i := 3) [(3, .int v13), (0, .ref l0), (1, .int l1), (2, .int l2)] dX13_strong_37 rfl (Nat.le_of_ble_eq_true rfl) rfl ?_
      refine eg_iconst (v := (0 : Int32)) dX13_strong_38 (by decide) ?_
      refine eg_istore (i := 4) [(4, .int (0 : Int32)), (3, .int v13), (0, .ref l0), (1, .int l1), (2, .int l2)] dX13_strong_39 (Nat.le_of_ble_eq_true rfl) rfl ?_
      refine eg_iconst (v := (-1 : Int32)) dX13_strong_41 (by decide) ?_
      refine eg_istore (i := 5) [(5, .int (-1 : Int32)), (4, .int (0 : Int32)), (3, .int v13), (0, .ref l0), (1, .int l1), (2, .int l2)] dX13_strong_42 (Nat.le_of_ble_eq_true rfl) rfl ?_
      refine eg_iconst (v := (-1 : Int32)) dX13_strong_44 (by decide) ?_
      refine eg_istore (i := 6) [(6, .int (-1 : Int32)), (5, .int (-1 : Int32)), (4, .int (0 : Int32)), (3, .int v13), (0, .ref l0), (1, .int l1), (2, .int l2)] dX13_strong_45 (Nat.le_of_ble_eq_true rfl) rfl ?_
      refine eg_iconst (v := (1 : Int32)) dX13_strong_47 (by decide) ?_
      refine eg_istore (i := 7) [(7, .int (1 : Int32)), (6, .int (-1 : Int32)), (5, .int (-1 : Int32)), (4, .int (0 : Int32)), (3, .int v13), (0, .ref l0), (1, .int l1), (2, .int l2)] dX13_strong_48 (Nat.le_of_ble_eq_true rfl) rfl ?_
      replace hF := eg_bind hF; obtain ⟨x16, e15, hF⟩ := hF
      refine eg_sub [5, 6, 7, 4, 3, 2, 1, 0] [(0, .ref l0), (1, .int l1), (2, .int l2), (3, .int v13), (4, .int (0 : Int32)), (5, .int (-1 : Int32)), (6, .int (-1 : Int32)), (7, .int (1 : Int32))] rfl (fX13_strong_L50_ok eg_F h7 l0 l1 l2 v13 (0 : Int32) (-1 : Int32) (-1 : Int32) (1 : Int32) x16 e15 ?_)
      · intro p17 v18 v19 v20 v21 v22 v23 h24 e31
        subst e31
        refine eg_aload_n (i := 0) 0 dX13_strong_169 rfl rfl ?_
        replace hF := eg_bind hF; obtain ⟨p25, e26, hF⟩ := hF
        refine eg_getR dX13_strong_170 e26 (Nat.le_of_ble_eq_true rfl) (Nat.le_of_ble_eq_true rfl) rfl ew_1456 ?_
        refine eg_iconst (v := (2 : Int32)) dX13_strong_173 (by decide) ?_
        refine eg_iload_n (i := 1) 1 dX13_strong_174 rfl rfl ?_
        refine eg_imul dX13_strong_175 ?_
        refine eg_iload_n (i := 3) 3 dX13_strong_176 rfl rfl ?_
        replace hF := eg_bind hF; obtain ⟨h27, e28, hF⟩ := hF
        refine eg_iast dX13_strong_177 e28 ?_
        refine eg_iload_n (i := 2) 2 dX13_strong_178 rfl rfl ?_
        refine eg_if_ne 187 dX13_strong_179 rfl (fun c29 => ?_) (fun c29 => ?_)
        · replace hF := eg_it c29 hF
          refine eg_iload (i := 4) 4 dX13_strong_182 rfl ?_
          refine eg_goto 199 dX13_strong_184 rfl ?_
          exact eg_iretE dX13_strong_199 hF
        · replace hF := eg_if c29 hF
          refine eg_iload_n (i := 2) 2 dX13_strong_187 rfl rfl ?_
          refine eg_iconst (v := (1 : Int32)) dX13_strong_188 (by decide) ?_
          refine eg_ic_ne 197 dX13_strong_189 rfl (fun c30 => ?_) (fun c30 => ?_)
          · replace hF := eg_it c30 hF
            refine eg_iload (i := 5) 5 dX13_strong_192 rfl ?_
            refine eg_goto 199 dX13_strong_194 rfl ?_
            exact eg_iretE dX13_strong_199 hF
          · replace hF := eg_if c30 hF
            refine eg_iload (i := 6) 6 dX13_strong_197 rfl ?_
            exact eg_iretE dX13_strong_199 hF
